/-- an access by pool index idx in class own is field i of class ci -/
def pm_FL (own : String) (idx ci i N : Nat) : Prop := ∃ (C : String) (T : u_T), pm_cl[ci]? = some (C, T, N) ∧ i < N ∧ C = (T i).1 ∧ Cond.fieldLink own idx (T i).1 (T i).2.1 (T i).2.2.1 ∈ pm_all
/-- the same of a nest mate's private field -/
def pm_FN (own : String) (idx ci i N : Nat) : Prop := ∃ (C : String) (T : u_T), pm_cl[ci]? = some (C, T, N) ∧ i < N ∧ C = (T i).1 ∧ Cond.fieldLinkNest own idx (T i).1 (T i).2.1 (T i).2.2.1 "LipsVoice" ∈ lw_tbl
theorem pm_FL.of {own : String} {idx ci i : Nat} {C : String} {T : u_T} {N : Nat} (j : Nat) (hc : pm_cl[ci]? = some (C, T, N)) (h : (decide (i < N) && decide (C = (T i).1) && (decide (pm_look j = some (.fieldLink own idx (T i).1 (T i).2.1 (T i).2.2.1)) && goodWord (.fieldLink own idx (T i).1 (T i).2.1 (T i).2.2.1))) = true) : pm_FL own idx ci i N := by
  rw [Bool.and_eq_true, Bool.and_eq_true, decide_eq_true_eq, decide_eq_true_eq] at h
  exact ⟨C, T, hc, h.1.1, h.1.2, pm_in j h.2⟩
theorem pm_FN.of {own : String} {idx ci i : Nat} {C : String} {T : u_T} {N : Nat} (j : Nat) (hc : pm_cl[ci]? = some (C, T, N)) (h : (decide (i < N) && decide (C = (T i).1) && decide (pm_look j = some (.fieldLinkNest own idx (T i).1 (T i).2.1 (T i).2.2.1 "LipsVoice"))) = true) : pm_FN own idx ci i N := by
  rw [Bool.and_eq_true, Bool.and_eq_true, decide_eq_true_eq, decide_eq_true_eq, decide_eq_true_eq] at h
  exact ⟨C, T, hc, h.1.1, h.1.2, pm_look_mem h.2⟩
theorem pm_cell_o {G : pm_G} {V : pm_M} {a ci N : Nat} (h : pm_lay[a]? = some (0, ci, N)) : pm_cell G V a = .inr (ci, (List.range N).map fun i => pm_rv G (pm_tag (pm_ty ci i), V a i)) := by
  unfold pm_cell
  rw [h]
  rfl
theorem pm_cell_a {G : pm_G} {V : pm_M} {a tc len : Nat} (h : pm_lay[a]? = some (1, tc, len)) : pm_cell G V a = .inl (G.2.2.1 tc, len, pm_ar G tc (V a)) := by
  unfold pm_cell
  rw [h]
  rfl
theorem pm_cell_put {G : pm_G} {V : pm_M} {a ci N i : Nat} {x : Int} (h : pm_lay[a]? = some (0, ci, N)) : pm_cell G (pm_up V a i x) a = .inr (ci, ((List.range N).map fun i => pm_rv G (pm_tag (pm_ty ci i), V a i)).set i (pm_rv G (pm_tag (pm_ty ci i), x))) := by
  rw [pm_cell_o h]
  congr 2
  apply List.ext_getElem?
  intro j
  by_cases hj : j = i
  · subst hj
    by_cases hn : j < N
    · rw [List.getElem?_set_self (by simpa using hn), List.getElem?_map, List.getElem?_range hn]
      simp [pm_up]
    · rw [List.getElem?_eq_none (by simpa using hn), List.getElem?_eq_none (by simpa using hn)]
  · rw [List.getElem?_set_ne (Ne.symm hj), List.getElem?_map, List.getElem?_map]
    cases hjt : (List.range N)[j]? with
    | none => rfl
    | some t =>
      by_cases ht : t = i
      · subst ht
        have hj2 : j < N := Nat.not_le.mp fun q => by
          rw [List.getElem?_eq_none (by simpa using q)] at hjt
          cases hjt
        rw [List.getElem?_range hj2] at hjt
        exact absurd (Option.some.inj hjt) hj
      · simp [pm_up, ht]
/-- what a field of a type may hold -/
def pm_okty (ty : FieldType) (x : Int) : Prop := match ty with
  | .int => True
  | .long => True
  | .boolean => x = 0 ∨ x = 1
  | .object _ => True
  | .array _ => True
  | _ => False
theorem pm_fit {G : pm_G} {ty : FieldType} {x : Int} (h : pm_okty ty x) : narrow ty (pm_rv G (pm_tag ty, x)) = pm_rv G (pm_tag ty, x) ∧ fits ty (pm_rv G (pm_tag ty, x)) = true := by
  cases ty with
  | int => exact ⟨rfl, rfl⟩
  | long => exact ⟨rfl, rfl⟩
  | boolean => rcases h with rfl | rfl <;> exact ⟨rfl, rfl⟩
  | object C =>
    show narrow _ (va_rf (pm_rf G.1 x)) = va_rf (pm_rf G.1 x) ∧ fits _ (va_rf (pm_rf G.1 x)) = true
    cases pm_rf G.1 x <;> exact ⟨rfl, rfl⟩
  | array C =>
    show narrow _ (va_rf (pm_rf G.1 x)) = va_rf (pm_rf G.1 x) ∧ fits _ (va_rf (pm_rf G.1 x)) = true
    cases pm_rf G.1 x <;> exact ⟨rfl, rfl⟩
  | _ => exact h.elim
/-- the method is a constructor -/
def pm_I (X : pm_X) : Prop := match X with
  | (_, _, _, _, _, _, _, _, meth, _, _, _, _, _, _) => meth.name = "<init>"
section PH
variable {X : pm_X} {own : String} {cc : ByteArray} {nL d : Nat} {pc : Nat} {lv lv' : pm_L} {st : List pm_V} {n : Nat} {V : pm_M}
theorem pm_getf (hC : pm_C X own cc nL d) {idx ci i N t : Nat} {z v : Int} (a : Nat) (hl : pm_FL own idx ci i N) (ha : pm_lay[a]? = some (0, ci, N)) (hz : z = (a : Int)) (han : a < n) (ht : pm_tag (pm_ty ci i) = t) (hv : V a i = v) (hd : decode cc pc = .ok (.getfield idx, 3)) (k : pm_J X (pc + 3) lv ((t, v) :: st) n V) : pm_J X pc lv ((3, z) :: st) n V := by
  obtain ⟨p, l, e, R, s, m, args, below, meth, c, Q, G, nl, n0, n1⟩ := X
  intro d0 H locs ls h1 h2 h3 h4 h5 h6
  subst hz
  obtain ⟨C, T, hc, hi, rfl, hw⟩ := hl
  obtain ⟨g1, g2, g3⟩ := pm_uws ci _ _ _ hc
  have k1 := k d0 H locs ls h1 h2 h3 h4 h5 h6
  have e1 : pm_rv G (3, (a : Int)) = .ref (G.1 + a) := pm_ref (Int.natCast_nonneg a)
  have hts := dr_words hC.2.2.2.2.2.1 d0
  simp only [pm_sts, List.map_cons, e1]
  exact va_get hC.1 hC.2.1 hts g1 hC.2.2.2.2.1 hC.2.2.2.2.2.2.1.1 h2 a (by rw [pm_ws_at han, pm_cell_o ha]) hc i hi (hts _ hw) (fun _ h => h) (v := pm_rv G (t, v)) (by rw [List.getElem?_map, List.getElem?_range hi, ← ht, ← hv]; rfl) hd k1
theorem pm_getfN (hC : pm_C X own cc nL d) {idx ci i N t : Nat} {z v : Int} (a : Nat) (hl : pm_FN own idx ci i N) (ha : pm_lay[a]? = some (0, ci, N)) (hz : z = (a : Int)) (han : a < n) (ht : pm_tag (pm_ty ci i) = t) (hv : V a i = v) (hd : decode cc pc = .ok (.getfield idx, 3)) (k : pm_J X (pc + 3) lv ((t, v) :: st) n V) : pm_J X pc lv ((3, z) :: st) n V := by
  obtain ⟨p, l, e, R, s, m, args, below, meth, c, Q, G, nl, n0, n1⟩ := X
  intro d0 H locs ls h1 h2 h3 h4 h5 h6
  subst hz
  obtain ⟨C, T, hc, hi, rfl, hw⟩ := hl
  obtain ⟨g1, g2, g3⟩ := pm_uws ci _ _ _ hc
  have k1 := k d0 H locs ls h1 h2 h3 h4 h5 h6
  have e1 : pm_rv G (3, (a : Int)) = .ref (G.1 + a) := pm_ref (Int.natCast_nonneg a)
  have hts := dr_words hC.2.2.2.2.2.1 d0
  simp only [pm_sts, List.map_cons, e1]
  exact va_getN hC.1 hC.2.1 hts g1 hC.2.2.2.2.1 hC.2.2.2.2.2.2.1.1 h2 a (by rw [pm_ws_at han, pm_cell_o ha]) hc i hi (va_Nw.use rfl (hC.2.2.2.2.2.2.1.2.1 _ hw rfl)) (fun _ h => h) (v := pm_rv G (t, v)) (by rw [List.getElem?_map, List.getElem?_range hi, ← ht, ← hv]; rfl) hd k1
/-- a field that is final is written by its constructor alone -/
def pm_nf (ci i : Nat) : Bool := match pm_cl[ci]? with
  | some (_, T, _) => !(T i).2.2.2
  | none => false
theorem pm_putf (hC : pm_C X own cc nL d) {idx ci i N t : Nat} {z x : Int} (a : Nat) (hl : pm_FL own idx ci i N) (hf : pm_nf ci i = true) (ha : pm_lay[a]? = some (0, ci, N)) (hz : z = (a : Int)) (han : a < n) (ht : pm_tag (pm_ty ci i) = t) (hx : pm_okty (pm_ty ci i) x) (hd : decode cc pc = .ok (.putfield idx, 3)) (k : pm_J X (pc + 3) lv st n (pm_up V a i x)) : pm_J X pc lv ((t, x) :: (3, z) :: st) n V := by
  obtain ⟨p, l, e, R, s, m, args, below, meth, c, Q, G, nl, n0, n1⟩ := X
  intro d0 H locs ls h1 h2 h3 h4 h5 h6
  subst hz
  subst ht
  obtain ⟨C, T, hc, hi, rfl, hw⟩ := hl
  obtain ⟨g1, g2, g3⟩ := pm_uws ci _ _ _ hc
  have e1 : pm_rv G (3, (a : Int)) = .ref (G.1 + a) := pm_ref (Int.natCast_nonneg a)
  have hts := dr_words hC.2.2.2.2.2.1 d0
  have hfin : (T i).2.2.2 = false := by
    unfold pm_nf at hf
    rw [hc] at hf
    simpa using hf
  obtain ⟨f1, f2⟩ := pm_fit (G := G) hx
  have he : (pm_ws G n V)[a]? = some (G.1 + a, .inr (ci, (List.range N).map fun i => pm_rv G (pm_tag (pm_ty ci i), V a i))) := by rw [pm_ws_at han, pm_cell_o ha]
  simp only [pm_sts, List.map_cons, e1]
  refine va_put hC.1 hC.2.1 hts g1 (pm_ty ci) g2 g3 hC.2.2.2.2.1 hC.2.2.2.2.2.2.1.1 h2 pm_D h3 a he hc i hi (hts _ hw) (fun _ h => h) hfin (g2 i hi) f1 f2 (by simpa using hi) hd (fun H1 locs1 q1 q2 q3 => ?_)
  rw [← pm_cell_put ha, pm_ws_set han] at q1
  exact k d0 H1 locs1 ls h1 q1 q3 h4 h5 h6
theorem pm_putfN (hC : pm_C X own cc nL d) {idx ci i N t : Nat} {z x : Int} (a : Nat) (hl : pm_FN own idx ci i N) (hf : pm_nf ci i = true) (ha : pm_lay[a]? = some (0, ci, N)) (hz : z = (a : Int)) (han : a < n) (ht : pm_tag (pm_ty ci i) = t) (hx : pm_okty (pm_ty ci i) x) (hd : decode cc pc = .ok (.putfield idx, 3)) (k : pm_J X (pc + 3) lv st n (pm_up V a i x)) : pm_J X pc lv ((t, x) :: (3, z) :: st) n V := by
  obtain ⟨p, l, e, R, s, m, args, below, meth, c, Q, G, nl, n0, n1⟩ := X
  intro d0 H locs ls h1 h2 h3 h4 h5 h6
  subst hz
  subst ht
  obtain ⟨C, T, hc, hi, rfl, hw⟩ := hl
  obtain ⟨g1, g2, g3⟩ := pm_uws ci _ _ _ hc
  have e1 : pm_rv G (3, (a : Int)) = .ref (G.1 + a) := pm_ref (Int.natCast_nonneg a)
  have hts := dr_words hC.2.2.2.2.2.1 d0
  have hfin : (T i).2.2.2 = false := by
    unfold pm_nf at hf
    rw [hc] at hf
    simpa using hf
  obtain ⟨f1, f2⟩ := pm_fit (G := G) hx
  have he : (pm_ws G n V)[a]? = some (G.1 + a, .inr (ci, (List.range N).map fun i => pm_rv G (pm_tag (pm_ty ci i), V a i))) := by rw [pm_ws_at han, pm_cell_o ha]
  simp only [pm_sts, List.map_cons, e1]
  refine va_putN hC.1 hC.2.1 hts g1 (pm_ty ci) g2 g3 hC.2.2.2.2.1 hC.2.2.2.2.2.2.1.1 h2 pm_D h3 a he hc i hi (va_Nw.use rfl (hC.2.2.2.2.2.2.1.2.1 _ hw rfl)) (fun _ h => h) hfin (g2 i hi) f1 f2 (by simpa using hi) hd (fun H1 locs1 q1 q2 q3 => ?_)
  rw [← pm_cell_put ha, pm_ws_set han] at q1
  exact k d0 H1 locs1 ls h1 q1 q3 h4 h5 h6
theorem pm_putF (hC : pm_C X own cc nL d) {idx ci i N t : Nat} {z x : Int} (a : Nat) (hl : pm_FL own idx ci i N) (hf : pm_nf ci i = false) (hI : pm_I X) (hown : own = (pm_cl.getD ci ("", TX0, 0)).1) (ha : pm_lay[a]? = some (0, ci, N)) (hz : z = (a : Int)) (han : a < n) (ht : pm_tag (pm_ty ci i) = t) (hx : pm_okty (pm_ty ci i) x) (hd : decode cc pc = .ok (.putfield idx, 3)) (k : pm_J X (pc + 3) lv st n (pm_up V a i x)) : pm_J X pc lv ((t, x) :: (3, z) :: st) n V := by
  obtain ⟨p, l, e, R, s, m, args, below, meth, c, Q, G, nl, n0, n1⟩ := X
  intro d0 H locs ls h1 h2 h3 h4 h5 h6
  subst hz
  subst ht
  obtain ⟨C, T, hc, hi, rfl, hw⟩ := hl
  obtain ⟨g1, g2, g3⟩ := pm_uws ci _ _ _ hc
  have e1 : pm_rv G (3, (a : Int)) = .ref (G.1 + a) := pm_ref (Int.natCast_nonneg a)
  have hts := dr_words hC.2.2.2.2.2.1 d0
  have hfin : (T i).2.2.2 = true := by
    unfold pm_nf at hf
    rw [hc] at hf
    simpa using hf
  have hown2 : (T i).1 = own := by
    rw [hown, List.getD_eq_getElem?_getD, hc]
    rfl
  obtain ⟨f1, f2⟩ := pm_fit (G := G) hx
  have he : (pm_ws G n V)[a]? = some (G.1 + a, .inr (ci, (List.range N).map fun i => pm_rv G (pm_tag (pm_ty ci i), V a i))) := by rw [pm_ws_at han, pm_cell_o ha]
  simp only [pm_sts, List.map_cons, e1]
  refine va_putF hC.1 hC.2.1 hts g1 (pm_ty ci) g2 g3 hC.2.2.2.2.1 hC.2.2.2.2.2.2.1.1 h2 pm_D h3 a he hc i hi (hts _ hw) (fun _ h => h) hfin hI hown2 (g2 i hi) f1 f2 (by simpa using hi) hd (fun H1 locs1 q1 q2 q3 => ?_)
  rw [← pm_cell_put ha, pm_ws_set han] at q1
  exact k d0 H1 locs1 ls h1 q1 q3 h4 h5 h6
end PH

/-! arrays -/
theorem pm_tys_at {G : pm_G} {V : pm_M} {U : State} {H : Heap} (h : pm_T G U H) : (pm_tys G)[0]? = some (G.2.2.1 0, .int) ∧ (pm_tys G)[1]? = some (G.2.2.1 1, .long) ∧ (pm_tys G)[2]? = some (G.2.2.1 3, .object "LipsVoice$Sheet") ∧ (pm_tys G)[3]? = some (G.2.2.1 7, .boolean) ∧ (pm_tys G)[4]? = some (G.2.2.1 8, .byte) := ⟨rfl, rfl, rfl, rfl, rfl⟩
theorem pm_ar_set (G : pm_G) (V : pm_M) (a : Nat) (i : Nat) (x : Int) : (fun j => Int32.ofInt (pm_up V a i x a j)) = upd (fun j => Int32.ofInt (V a j)) i (Int32.ofInt x) := by
  funext j
  by_cases h : j = i
  · simp [pm_up, upd, h]
  · simp [pm_up, upd, h]
theorem pm_ar_setL (G : pm_G) (V : pm_M) (a : Nat) (i : Nat) (x : Int) : (fun j => Int64.ofInt (pm_up V a i x a j)) = vp_updL (fun j => Int64.ofInt (V a j)) i (Int64.ofInt x) := by
  funext j
  by_cases h : j = i
  · simp [pm_up, vp_updL, h]
  · simp [pm_up, vp_updL, h]
theorem pm_ar_setR (G : pm_G) (V : pm_M) (a : Nat) (i : Nat) (x : Int) : (fun j => pm_rf G.1 (pm_up V a i x a j)) = va_up (fun j => pm_rf G.1 (V a j)) i (pm_rf G.1 x) := by
  funext j
  by_cases h : j = i
  · simp [pm_up, va_up, h]
  · simp [pm_up, va_up, h]
theorem pm_ix {i : Int} {len : Nat} (h : 0 ≤ i ∧ i < (len : Int)) (hl : len < 2147483648) : vp_in (Int32.ofInt i) len ∧ (Int32.ofInt i).toNatClampNeg = i.toNat := ⟨pm_vin h hl, pm_clamp ⟨by omega, by omega⟩⟩
section PH2
variable {X : pm_X} {own : String} {cc : ByteArray} {nL d : Nat} {pc : Nat} {lv lv' : pm_L} {st : List pm_V} {n : Nat} {V : pm_M}
theorem pm_iaload (hC : pm_C X own cc nL d) {i z v : Int} {len : Nat} (a : Nat) (ha : pm_lay[a]? = some (1, 0, len)) (hz : z = (a : Int)) (han : a < n) (hi : 0 ≤ i ∧ i < (len : Int)) (hln : len < 2147483648) (hv : V a i.toNat = v) (hd : decode cc pc = .ok (.iaload, 1)) (k : pm_J X (pc + 1) lv ((0, v) :: st) n V) : pm_J X pc lv ((0, i) :: (3, z) :: st) n V := by
  obtain ⟨p, l, e, R, s, m, args, below, meth, c, Q, G, nl, n0, n1⟩ := X
  intro d0 H locs ls h1 h2 h3 h4 h5 h6
  subst hz
  subst hv
  have k1 := k d0 H locs ls h1 h2 h3 h4 h5 h6
  obtain ⟨q1, q2⟩ := pm_ix hi hln
  have e1 : pm_rv G (3, (a : Int)) = .ref (G.1 + a) := pm_ref (Int.natCast_nonneg a)
  simp only [pm_sts, List.map_cons, e1] at k1 ⊢
  refine va_iald (s := s.setDrawn d0) hC.1 hC.2.1 hC.2.2.2.2.2.2.1.1 h2 a 0 (by rw [pm_ws_at han, pm_cell_a ha]; rfl) rfl q1 hd ?_
  rw [q2]
  exact k1
theorem pm_laload (hC : pm_C X own cc nL d) {i z v : Int} {len : Nat} (a : Nat) (ha : pm_lay[a]? = some (1, 1, len)) (hz : z = (a : Int)) (han : a < n) (hi : 0 ≤ i ∧ i < (len : Int)) (hln : len < 2147483648) (hv : V a i.toNat = v) (hd : decode cc pc = .ok (.laload, 1)) (k : pm_J X (pc + 1) lv ((1, v) :: st) n V) : pm_J X pc lv ((0, i) :: (3, z) :: st) n V := by
  obtain ⟨p, l, e, R, s, m, args, below, meth, c, Q, G, nl, n0, n1⟩ := X
  intro d0 H locs ls h1 h2 h3 h4 h5 h6
  subst hz
  subst hv
  have k1 := k d0 H locs ls h1 h2 h3 h4 h5 h6
  obtain ⟨q1, q2⟩ := pm_ix hi hln
  have e1 : pm_rv G (3, (a : Int)) = .ref (G.1 + a) := pm_ref (Int.natCast_nonneg a)
  simp only [pm_sts, List.map_cons, e1] at k1 ⊢
  refine va_lald (s := s.setDrawn d0) hC.1 hC.2.1 hC.2.2.2.2.2.2.1.1 h2 a 1 (by rw [pm_ws_at han, pm_cell_a ha]; rfl) rfl q1 hd ?_
  rw [q2]
  exact k1
theorem pm_zaload (hC : pm_C X own cc nL d) {i z v : Int} {len : Nat} (a : Nat) (ha : pm_lay[a]? = some (1, 7, len)) (hz : z = (a : Int)) (han : a < n) (hi : 0 ≤ i ∧ i < (len : Int)) (hln : len < 2147483648) (hv : V a i.toNat = v) (hd : decode cc pc = .ok (.baload, 1)) (k : pm_J X (pc + 1) lv ((0, v) :: st) n V) : pm_J X pc lv ((0, i) :: (3, z) :: st) n V := by
  obtain ⟨p, l, e, R, s, m, args, below, meth, c, Q, G, nl, n0, n1⟩ := X
  intro d0 H locs ls h1 h2 h3 h4 h5 h6
  subst hz
  subst hv
  have k1 := k d0 H locs ls h1 h2 h3 h4 h5 h6
  obtain ⟨q1, q2⟩ := pm_ix hi hln
  have e1 : pm_rv G (3, (a : Int)) = .ref (G.1 + a) := pm_ref (Int.natCast_nonneg a)
  simp only [pm_sts, List.map_cons, e1] at k1 ⊢
  refine va_zald (s := s.setDrawn d0) hC.1 hC.2.1 hC.2.2.2.2.2.2.1.1 h2 a 3 (by rw [pm_ws_at han, pm_cell_a ha]; rfl) rfl q1 hd ?_
  rw [q2]
  exact k1
theorem pm_baload (hC : pm_C X own cc nL d) {i z v : Int} {len : Nat} (a : Nat) (ha : pm_lay[a]? = some (1, 8, len)) (hz : z = (a : Int)) (han : a < n) (hi : 0 ≤ i ∧ i < (len : Int)) (hln : len < 2147483648) (hv : V a i.toNat = v) (hd : decode cc pc = .ok (.baload, 1)) (k : pm_J X (pc + 1) lv ((0, v) :: st) n V) : pm_J X pc lv ((0, i) :: (3, z) :: st) n V := by
  obtain ⟨p, l, e, R, s, m, args, below, meth, c, Q, G, nl, n0, n1⟩ := X
  intro d0 H locs ls h1 h2 h3 h4 h5 h6
  subst hz
  subst hv
  have k1 := k d0 H locs ls h1 h2 h3 h4 h5 h6
  obtain ⟨q1, q2⟩ := pm_ix hi hln
  have e1 : pm_rv G (3, (a : Int)) = .ref (G.1 + a) := pm_ref (Int.natCast_nonneg a)
  simp only [pm_sts, List.map_cons, e1] at k1 ⊢
  refine va_bald (s := s.setDrawn d0) hC.1 hC.2.1 hC.2.2.2.2.2.2.1.1 h2 a 4 (by rw [pm_ws_at han, pm_cell_a ha]; rfl) rfl q1 hd ?_
  rw [q2]
  exact k1
theorem pm_aaload (hC : pm_C X own cc nL d) {i z v : Int} {len : Nat} (a : Nat) (ha : pm_lay[a]? = some (1, 3, len)) (hz : z = (a : Int)) (han : a < n) (hi : 0 ≤ i ∧ i < (len : Int)) (hln : len < 2147483648) (hv : V a i.toNat = v) (hd : decode cc pc = .ok (.aaload, 1)) (k : pm_J X (pc + 1) lv ((3, v) :: st) n V) : pm_J X pc lv ((0, i) :: (3, z) :: st) n V := by
  obtain ⟨p, l, e, R, s, m, args, below, meth, c, Q, G, nl, n0, n1⟩ := X
  intro d0 H locs ls h1 h2 h3 h4 h5 h6
  subst hz
  subst hv
  have k1 := k d0 H locs ls h1 h2 h3 h4 h5 h6
  obtain ⟨q1, q2⟩ := pm_ix hi hln
  have e1 : pm_rv G (3, (a : Int)) = .ref (G.1 + a) := pm_ref (Int.natCast_nonneg a)
  simp only [pm_sts, List.map_cons, e1] at k1 ⊢
  refine va_aldq (s := s.setDrawn d0) hC.1 hC.2.1 hC.2.2.2.2.2.2.1.1 h2 a 2 (by rw [pm_ws_at han, pm_cell_a ha]; rfl) rfl q1 hd ?_
  rw [q2]
  exact k1
theorem pm_iastore (hC : pm_C X own cc nL d) {i x z : Int} {len : Nat} (a : Nat) (ha : pm_lay[a]? = some (1, 0, len)) (hz : z = (a : Int)) (han : a < n) (hi : 0 ≤ i ∧ i < (len : Int)) (hln : len < 2147483648) (hd : decode cc pc = .ok (.iastore, 1)) (k : pm_J X (pc + 1) lv st n (pm_up V a i.toNat x)) : pm_J X pc lv ((0, x) :: (0, i) :: (3, z) :: st) n V := by
  obtain ⟨p, l, e, R, s, m, args, below, meth, c, Q, G, nl, n0, n1⟩ := X
  intro d0 H locs ls h1 h2 h3 h4 h5 h6
  subst hz
  obtain ⟨q1, q2⟩ := pm_ix hi hln
  have e1 : pm_rv G (3, (a : Int)) = .ref (G.1 + a) := pm_ref (Int.natCast_nonneg a)
  simp only [pm_sts, List.map_cons, e1]
  refine va_iast (s := s.setDrawn d0) (x := Int32.ofInt x) hC.1 hC.2.1 hC.2.2.2.2.2.2.1.1 h2 pm_D h3 a 0 (by rw [pm_ws_at han, pm_cell_a ha]; rfl) rfl q1 hd (fun H1 locs1 r1 r2 r3 => ?_)
  refine k d0 H1 locs1 ls h1 ?_ r3 h4 h5 h6
  have e2 : pm_cell G (pm_up V a i.toNat x) a = .inl (G.2.2.1 0, len, (.inl (upd (fun j => Int32.ofInt (V a j)) i.toNat (Int32.ofInt x)))) := by
    rw [pm_cell_a ha]
    exact congrArg (fun f => (Sum.inl (G.2.2.1 0, (len, .inl f)) : va_E)) (pm_ar_set G V a i.toNat x)
  rw [q2] at r1
  have r4 := (congrArg (fun z => va_P G.2.1 pm_cl ((pm_ws G n V).set a (G.1 + a, z)) H1) e2).mpr r1
  rw [pm_ws_set han] at r4
  exact r4
theorem pm_lastore (hC : pm_C X own cc nL d) {i x z : Int} {len : Nat} (a : Nat) (ha : pm_lay[a]? = some (1, 1, len)) (hz : z = (a : Int)) (han : a < n) (hi : 0 ≤ i ∧ i < (len : Int)) (hln : len < 2147483648) (hd : decode cc pc = .ok (.lastore, 1)) (k : pm_J X (pc + 1) lv st n (pm_up V a i.toNat x)) : pm_J X pc lv ((1, x) :: (0, i) :: (3, z) :: st) n V := by
  obtain ⟨p, l, e, R, s, m, args, below, meth, c, Q, G, nl, n0, n1⟩ := X
  intro d0 H locs ls h1 h2 h3 h4 h5 h6
  subst hz
  obtain ⟨q1, q2⟩ := pm_ix hi hln
  have e1 : pm_rv G (3, (a : Int)) = .ref (G.1 + a) := pm_ref (Int.natCast_nonneg a)
  simp only [pm_sts, List.map_cons, e1]
  refine va_last (s := s.setDrawn d0) (x := Int64.ofInt x) hC.1 hC.2.1 hC.2.2.2.2.2.2.1.1 h2 pm_D h3 a 1 (by rw [pm_ws_at han, pm_cell_a ha]; rfl) rfl q1 hd (fun H1 locs1 r1 r2 r3 => ?_)
  refine k d0 H1 locs1 ls h1 ?_ r3 h4 h5 h6
  have e2 : pm_cell G (pm_up V a i.toNat x) a = .inl (G.2.2.1 1, len, (.inr (.inl (vp_updL (fun j => Int64.ofInt (V a j)) i.toNat (Int64.ofInt x))))) := by
    rw [pm_cell_a ha]
    exact congrArg (fun f => (Sum.inl (G.2.2.1 1, (len, .inr (.inl f))) : va_E)) (pm_ar_setL G V a i.toNat x)
  rw [q2] at r1
  have r4 := (congrArg (fun z => va_P G.2.1 pm_cl ((pm_ws G n V).set a (G.1 + a, z)) H1) e2).mpr r1
  rw [pm_ws_set han] at r4
  exact r4
theorem pm_nz {x : Int} (h : x = 0 ∨ x = 1) : vp_nar .boolean (Int32.ofInt x) = Int32.ofInt x := by
  rcases h with rfl | rfl <;> rfl
theorem pm_nb8 {x : Int} (h : -128 ≤ x ∧ x ≤ 127) : vp_nar .byte (Int32.ofInt x) = Int32.ofInt x := by
  rw [vp_nar_byte, Int32.toInt8_ofInt]
  apply Int32.toInt.inj
  rw [Int8.toInt_toInt32, Int8.toInt_ofInt_of_le (by omega) (by omega), pm_toInt ⟨by omega, by omega⟩]
theorem pm_zastore (hC : pm_C X own cc nL d) {i x z : Int} {len : Nat} (a : Nat) (ha : pm_lay[a]? = some (1, 7, len)) (hz : z = (a : Int)) (han : a < n) (hi : 0 ≤ i ∧ i < (len : Int)) (hln : len < 2147483648) (hx : x = 0 ∨ x = 1) (hd : decode cc pc = .ok (.bastore, 1)) (k : pm_J X (pc + 1) lv st n (pm_up V a i.toNat x)) : pm_J X pc lv ((0, x) :: (0, i) :: (3, z) :: st) n V := by
  obtain ⟨p, l, e, R, s, m, args, below, meth, c, Q, G, nl, n0, n1⟩ := X
  intro d0 H locs ls h1 h2 h3 h4 h5 h6
  subst hz
  obtain ⟨q1, q2⟩ := pm_ix hi hln
  have e1 : pm_rv G (3, (a : Int)) = .ref (G.1 + a) := pm_ref (Int.natCast_nonneg a)
  simp only [pm_sts, List.map_cons, e1]
  refine va_zast (s := s.setDrawn d0) (x := Int32.ofInt x) hC.1 hC.2.1 hC.2.2.2.2.2.2.1.1 h2 pm_D h3 a 3 (by rw [pm_ws_at han, pm_cell_a ha]; rfl) rfl q1 hd (fun H1 locs1 r1 r2 r3 => ?_)
  refine k d0 H1 locs1 ls h1 ?_ r3 h4 h5 h6
  have e2 : pm_cell G (pm_up V a i.toNat x) a = .inl (G.2.2.1 7, len, (.inl (upd (fun j => Int32.ofInt (V a j)) i.toNat (Int32.ofInt x)))) := by
    rw [pm_cell_a ha]
    exact congrArg (fun f => (Sum.inl (G.2.2.1 7, (len, .inl f)) : va_E)) (pm_ar_set G V a i.toNat x)
  rw [q2, pm_nz hx] at r1
  have r4 := (congrArg (fun z => va_P G.2.1 pm_cl ((pm_ws G n V).set a (G.1 + a, z)) H1) e2).mpr r1
  rw [pm_ws_set han] at r4
  exact r4
theorem pm_bastore (hC : pm_C X own cc nL d) {i x z : Int} {len : Nat} (a : Nat) (ha : pm_lay[a]? = some (1, 8, len)) (hz : z = (a : Int)) (han : a < n) (hi : 0 ≤ i ∧ i < (len : Int)) (hln : len < 2147483648) (hx : -128 ≤ x ∧ x ≤ 127) (hd : decode cc pc = .ok (.bastore, 1)) (k : pm_J X (pc + 1) lv st n (pm_up V a i.toNat x)) : pm_J X pc lv ((0, x) :: (0, i) :: (3, z) :: st) n V := by
  obtain ⟨p, l, e, R, s, m, args, below, meth, c, Q, G, nl, n0, n1⟩ := X
  intro d0 H locs ls h1 h2 h3 h4 h5 h6
  subst hz
  obtain ⟨q1, q2⟩ := pm_ix hi hln
  have e1 : pm_rv G (3, (a : Int)) = .ref (G.1 + a) := pm_ref (Int.natCast_nonneg a)
  simp only [pm_sts, List.map_cons, e1]
  refine va_bast (s := s.setDrawn d0) (x := Int32.ofInt x) hC.1 hC.2.1 hC.2.2.2.2.2.2.1.1 h2 pm_D h3 a 4 (by rw [pm_ws_at han, pm_cell_a ha]; rfl) rfl q1 hd (fun H1 locs1 r1 r2 r3 => ?_)
  refine k d0 H1 locs1 ls h1 ?_ r3 h4 h5 h6
  have e2 : pm_cell G (pm_up V a i.toNat x) a = .inl (G.2.2.1 8, len, (.inl (upd (fun j => Int32.ofInt (V a j)) i.toNat (Int32.ofInt x)))) := by
    rw [pm_cell_a ha]
    exact congrArg (fun f => (Sum.inl (G.2.2.1 8, (len, .inl f)) : va_E)) (pm_ar_set G V a i.toNat x)
  rw [q2, pm_nb8 hx] at r1
  have r4 := (congrArg (fun z => va_P G.2.1 pm_cl ((pm_ws G n V).set a (G.1 + a, z)) H1) e2).mpr r1
  rw [pm_ws_set han] at r4
  exact r4
theorem pm_alen (hC : pm_C X own cc nL d) {z : Int} {tc len : Nat} (a : Nat) (ha : pm_lay[a]? = some (1, tc, len)) (htc : tc = 0 ∨ tc = 1 ∨ tc = 3 ∨ tc = 7 ∨ tc = 8) (hz : z = (a : Int)) (han : a < n) (hd : decode cc pc = .ok (.arraylength, 1)) (k : pm_J X (pc + 1) lv ((0, (len : Int)) :: st) n V) : pm_J X pc lv ((3, z) :: st) n V := by
  obtain ⟨p, l, e, R, s, m, args, below, meth, c, Q, G, nl, n0, n1⟩ := X
  intro d0 H locs ls h1 h2 h3 h4 h5 h6
  subst hz
  have k1 := k d0 H locs ls h1 h2 h3 h4 h5 h6
  have e1 : pm_rv G (3, (a : Int)) = .ref (G.1 + a) := pm_ref (Int.natCast_nonneg a)
  simp only [pm_sts, List.map_cons, e1] at k1 ⊢
  have hT := hC.2.2.2.2.2.2.1.1
  have hc : (pm_ws G n V)[a]? = some (G.1 + a, .inl (G.2.2.1 tc, len, pm_ar G tc (V a))) := by rw [pm_ws_at han, pm_cell_a ha]
  have hv : Int32.ofNat len = Int32.ofInt (len : Int) := Int32.ofInt_eq_ofNat.symm
  rcases htc with rfl | rfl | rfl | rfl | rfl
  · exact va_alen (s := s.setDrawn d0) (ty := .int) hC.1 hC.2.1 hT h2 a 0 hc rfl hv hd k1
  · exact va_alen (s := s.setDrawn d0) (ty := .long) hC.1 hC.2.1 hT h2 a 1 hc rfl hv hd k1
  · exact va_alen (s := s.setDrawn d0) (ty := .object "LipsVoice$Sheet") hC.1 hC.2.1 hT h2 a 2 hc rfl hv hd k1
  · exact va_alen (s := s.setDrawn d0) (ty := .boolean) hC.1 hC.2.1 hT h2 a 3 hc rfl hv hd k1
  · exact va_alen (s := s.setDrawn d0) (ty := .byte) hC.1 hC.2.1 hT h2 a 4 hc rfl hv hd k1
end PH2
