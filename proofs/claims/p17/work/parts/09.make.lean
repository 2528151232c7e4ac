section PCM3
variable {X : pm_X} {own : String} {cc : ByteArray} {nL d idx : Nat} {pc : Nat} {lv lv' : pm_L} {st stk : List pm_V} {n : Nat} {V : pm_M}
theorem pm_newa_int (hC : pm_C X own cc nL d) {x : Int} {len : Nat} (j : Nat) (ha : pm_lay[n]? = some (1, 0, len)) (hx : x = (len : Int)) (hln : len < 100000) (hw : (decide (pm_look j = some (.arrayClass .int)) && goodWord (.arrayClass .int)) = true) (htop : n + 1 ≤ pm_top X) (hd : decode cc pc = .ok (.newarray .int, 2)) (k : pm_J X (pc + 2) lv ((3, (n : Int)) :: st) (n + 1) (pm_clr V n fun _ => 0)) : pm_J X pc lv ((0, x) :: st) n V := by
  obtain ⟨p, l, e, R, s, m, args, below, meth, c, Q, G, nl, n0, n1⟩ := X
  intro d0 H locs ls h1 h2 h3 h4 h5 h6
  subst hx
  have htop : n + 1 ≤ n1 := htop
  have hts := dr_words hC.2.2.2.2.2.1 d0
  have hT := hC.2.2.2.2.2.2.1
  have hsz0 : s.heap.size = G.1 + n0 := hC.2.2.2.2.2.2.2.1
  have hcel := hC.2.2.2.2.2.2.2.2.2.2.1 (n + 1) (by omega) htop
  have hsl1 := pm_slm h5
  have hsl : pm_sl (n + 1) = pm_sl n + len := pm_sl_s ha
  have hR : pm_R (len : Int) := ⟨by omega, by omega⟩
  have hcl : (Int32.ofInt (len : Int)).toNatClampNeg = len := by rw [pm_clamp hR]; exact Int.toNat_natCast len
  refine va_newa (s := s.setDrawn d0) (ty := .int) (atype := .int) (N' := len) (a0 := (len, pm_ar G 0 fun _ => 0)) hC.1 hC.2.1 (hts _ (pm_in j hw)) rfl hT.1 h2 pm_D h3 (fun q hq => by have hq : s.heap.size ≤ q := hq; show G.1 ≤ q; omega) (fun cA => rfl) (fun q => by rw [← pm_0, pm_lt hR pm_R0] at q; omega) hcl (by show len * componentBytes .int ≤ _; simp [componentBytes]; omega) (by omega) (by omega) hd (fun q cA H1 r0 r1 r2 r3 => ?_)
  refine pm_Wsize (s := s.setDrawn d0) (fun hsz9 => ?_)
  have hq : q = G.1 + n := pm_next h2 r1 r2 (by have h9 : H1.size ≤ s.heap.size + (n - n0 + 1) := hsz9; omega)
  subst hq
  have hcA : cA = G.2.2.1 0 := by
    have a1 := (r0.2 5 _ rfl).2
    have a2 := (hT.1.2 0 _ rfl).2
    exact Option.some.inj (Eq.trans (Eq.symm a1) a2)
  subst hcA
  have e2 : pm_ws G n V ++ [(G.1 + n, .inl (G.2.2.1 0, (len, pm_ar G 0 fun _ => 0)))] = pm_ws G (n + 1) (pm_clr V n fun _ => 0) := by
    rw [pm_ws_push, pm_cell_a ha]
    have e9 : pm_clr V n (fun _ => 0) n = fun _ => 0 := by funext j; simp [pm_clr]
    rw [e9]
  rw [e2] at r1
  have k1 := k d0 H1 locs ls h1 r1 r3 h4 (by omega) htop
  have e3 : pm_rv G (3, (n : Int)) = .ref (G.1 + n) := pm_ref (Int.natCast_nonneg n)
  simp only [pm_sts, List.map_cons, e3] at k1
  have e4 : n + 1 - n0 = n - n0 + 1 := by omega
  have e5 : pm_sl (n + 1) - pm_sl n0 = pm_sl n - pm_sl n0 + len := by omega
  rw [e4, e5] at k1
  exact k1
theorem pm_newa_long (hC : pm_C X own cc nL d) {x : Int} {len : Nat} (j : Nat) (ha : pm_lay[n]? = some (1, 1, len)) (hx : x = (len : Int)) (hln : len < 100000) (hw : (decide (pm_look j = some (.arrayClass .long)) && goodWord (.arrayClass .long)) = true) (htop : n + 1 ≤ pm_top X) (hd : decode cc pc = .ok (.newarray .long, 2)) (k : pm_J X (pc + 2) lv ((3, (n : Int)) :: st) (n + 1) (pm_clr V n fun _ => 0)) : pm_J X pc lv ((0, x) :: st) n V := by
  obtain ⟨p, l, e, R, s, m, args, below, meth, c, Q, G, nl, n0, n1⟩ := X
  intro d0 H locs ls h1 h2 h3 h4 h5 h6
  subst hx
  have htop : n + 1 ≤ n1 := htop
  have hts := dr_words hC.2.2.2.2.2.1 d0
  have hT := hC.2.2.2.2.2.2.1
  have hsz0 : s.heap.size = G.1 + n0 := hC.2.2.2.2.2.2.2.1
  have hcel := hC.2.2.2.2.2.2.2.2.2.2.1 (n + 1) (by omega) htop
  have hsl1 := pm_slm h5
  have hsl : pm_sl (n + 1) = pm_sl n + len := pm_sl_s ha
  have hR : pm_R (len : Int) := ⟨by omega, by omega⟩
  have hcl : (Int32.ofInt (len : Int)).toNatClampNeg = len := by rw [pm_clamp hR]; exact Int.toNat_natCast len
  refine va_newa (s := s.setDrawn d0) (ty := .long) (atype := .long) (N' := len) (a0 := (len, pm_ar G 1 fun _ => 0)) hC.1 hC.2.1 (hts _ (pm_in j hw)) rfl hT.1 h2 pm_D h3 (fun q hq => by have hq : s.heap.size ≤ q := hq; show G.1 ≤ q; omega) (fun cA => rfl) (fun q => by rw [← pm_0, pm_lt hR pm_R0] at q; omega) hcl (by show len * componentBytes .long ≤ _; simp [componentBytes]; omega) (by omega) (by omega) hd (fun q cA H1 r0 r1 r2 r3 => ?_)
  refine pm_Wsize (s := s.setDrawn d0) (fun hsz9 => ?_)
  have hq : q = G.1 + n := pm_next h2 r1 r2 (by have h9 : H1.size ≤ s.heap.size + (n - n0 + 1) := hsz9; omega)
  subst hq
  have hcA : cA = G.2.2.1 1 := by
    have a1 := (r0.2 5 _ rfl).2
    have a2 := (hT.1.2 1 _ rfl).2
    exact Option.some.inj (Eq.trans (Eq.symm a1) a2)
  subst hcA
  have e2 : pm_ws G n V ++ [(G.1 + n, .inl (G.2.2.1 1, (len, pm_ar G 1 fun _ => 0)))] = pm_ws G (n + 1) (pm_clr V n fun _ => 0) := by
    rw [pm_ws_push, pm_cell_a ha]
    have e9 : pm_clr V n (fun _ => 0) n = fun _ => 0 := by funext j; simp [pm_clr]
    rw [e9]
  rw [e2] at r1
  have k1 := k d0 H1 locs ls h1 r1 r3 h4 (by omega) htop
  have e3 : pm_rv G (3, (n : Int)) = .ref (G.1 + n) := pm_ref (Int.natCast_nonneg n)
  simp only [pm_sts, List.map_cons, e3] at k1
  have e4 : n + 1 - n0 = n - n0 + 1 := by omega
  have e5 : pm_sl (n + 1) - pm_sl n0 = pm_sl n - pm_sl n0 + len := by omega
  rw [e4, e5] at k1
  exact k1
theorem pm_newa_boolean (hC : pm_C X own cc nL d) {x : Int} {len : Nat} (j : Nat) (ha : pm_lay[n]? = some (1, 7, len)) (hx : x = (len : Int)) (hln : len < 100000) (hw : (decide (pm_look j = some (.arrayClass .boolean)) && goodWord (.arrayClass .boolean)) = true) (htop : n + 1 ≤ pm_top X) (hd : decode cc pc = .ok (.newarray .boolean, 2)) (k : pm_J X (pc + 2) lv ((3, (n : Int)) :: st) (n + 1) (pm_clr V n fun _ => 0)) : pm_J X pc lv ((0, x) :: st) n V := by
  obtain ⟨p, l, e, R, s, m, args, below, meth, c, Q, G, nl, n0, n1⟩ := X
  intro d0 H locs ls h1 h2 h3 h4 h5 h6
  subst hx
  have htop : n + 1 ≤ n1 := htop
  have hts := dr_words hC.2.2.2.2.2.1 d0
  have hT := hC.2.2.2.2.2.2.1
  have hsz0 : s.heap.size = G.1 + n0 := hC.2.2.2.2.2.2.2.1
  have hcel := hC.2.2.2.2.2.2.2.2.2.2.1 (n + 1) (by omega) htop
  have hsl1 := pm_slm h5
  have hsl : pm_sl (n + 1) = pm_sl n + len := pm_sl_s ha
  have hR : pm_R (len : Int) := ⟨by omega, by omega⟩
  have hcl : (Int32.ofInt (len : Int)).toNatClampNeg = len := by rw [pm_clamp hR]; exact Int.toNat_natCast len
  refine va_newa (s := s.setDrawn d0) (ty := .boolean) (atype := .boolean) (N' := len) (a0 := (len, pm_ar G 7 fun _ => 0)) hC.1 hC.2.1 (hts _ (pm_in j hw)) rfl hT.1 h2 pm_D h3 (fun q hq => by have hq : s.heap.size ≤ q := hq; show G.1 ≤ q; omega) (fun cA => rfl) (fun q => by rw [← pm_0, pm_lt hR pm_R0] at q; omega) hcl (by show len * componentBytes .boolean ≤ _; simp [componentBytes]; omega) (by omega) (by omega) hd (fun q cA H1 r0 r1 r2 r3 => ?_)
  refine pm_Wsize (s := s.setDrawn d0) (fun hsz9 => ?_)
  have hq : q = G.1 + n := pm_next h2 r1 r2 (by have h9 : H1.size ≤ s.heap.size + (n - n0 + 1) := hsz9; omega)
  subst hq
  have hcA : cA = G.2.2.1 7 := by
    have a1 := (r0.2 5 _ rfl).2
    have a2 := (hT.1.2 3 _ rfl).2
    exact Option.some.inj (Eq.trans (Eq.symm a1) a2)
  subst hcA
  have e2 : pm_ws G n V ++ [(G.1 + n, .inl (G.2.2.1 7, (len, pm_ar G 7 fun _ => 0)))] = pm_ws G (n + 1) (pm_clr V n fun _ => 0) := by
    rw [pm_ws_push, pm_cell_a ha]
    have e9 : pm_clr V n (fun _ => 0) n = fun _ => 0 := by funext j; simp [pm_clr]
    rw [e9]
  rw [e2] at r1
  have k1 := k d0 H1 locs ls h1 r1 r3 h4 (by omega) htop
  have e3 : pm_rv G (3, (n : Int)) = .ref (G.1 + n) := pm_ref (Int.natCast_nonneg n)
  simp only [pm_sts, List.map_cons, e3] at k1
  have e4 : n + 1 - n0 = n - n0 + 1 := by omega
  have e5 : pm_sl (n + 1) - pm_sl n0 = pm_sl n - pm_sl n0 + len := by omega
  rw [e4, e5] at k1
  exact k1
theorem pm_newa_byte (hC : pm_C X own cc nL d) {x : Int} {len : Nat} (j : Nat) (ha : pm_lay[n]? = some (1, 8, len)) (hx : x = (len : Int)) (hln : len < 100000) (hw : (decide (pm_look j = some (.arrayClass .byte)) && goodWord (.arrayClass .byte)) = true) (htop : n + 1 ≤ pm_top X) (hd : decode cc pc = .ok (.newarray .byte, 2)) (k : pm_J X (pc + 2) lv ((3, (n : Int)) :: st) (n + 1) (pm_clr V n fun _ => 0)) : pm_J X pc lv ((0, x) :: st) n V := by
  obtain ⟨p, l, e, R, s, m, args, below, meth, c, Q, G, nl, n0, n1⟩ := X
  intro d0 H locs ls h1 h2 h3 h4 h5 h6
  subst hx
  have htop : n + 1 ≤ n1 := htop
  have hts := dr_words hC.2.2.2.2.2.1 d0
  have hT := hC.2.2.2.2.2.2.1
  have hsz0 : s.heap.size = G.1 + n0 := hC.2.2.2.2.2.2.2.1
  have hcel := hC.2.2.2.2.2.2.2.2.2.2.1 (n + 1) (by omega) htop
  have hsl1 := pm_slm h5
  have hsl : pm_sl (n + 1) = pm_sl n + len := pm_sl_s ha
  have hR : pm_R (len : Int) := ⟨by omega, by omega⟩
  have hcl : (Int32.ofInt (len : Int)).toNatClampNeg = len := by rw [pm_clamp hR]; exact Int.toNat_natCast len
  refine va_newa (s := s.setDrawn d0) (ty := .byte) (atype := .byte) (N' := len) (a0 := (len, pm_ar G 8 fun _ => 0)) hC.1 hC.2.1 (hts _ (pm_in j hw)) rfl hT.1 h2 pm_D h3 (fun q hq => by have hq : s.heap.size ≤ q := hq; show G.1 ≤ q; omega) (fun cA => rfl) (fun q => by rw [← pm_0, pm_lt hR pm_R0] at q; omega) hcl (by show len * componentBytes .byte ≤ _; simp [componentBytes]; omega) (by omega) (by omega) hd (fun q cA H1 r0 r1 r2 r3 => ?_)
  refine pm_Wsize (s := s.setDrawn d0) (fun hsz9 => ?_)
  have hq : q = G.1 + n := pm_next h2 r1 r2 (by have h9 : H1.size ≤ s.heap.size + (n - n0 + 1) := hsz9; omega)
  subst hq
  have hcA : cA = G.2.2.1 8 := by
    have a1 := (r0.2 5 _ rfl).2
    have a2 := (hT.1.2 4 _ rfl).2
    exact Option.some.inj (Eq.trans (Eq.symm a1) a2)
  subst hcA
  have e2 : pm_ws G n V ++ [(G.1 + n, .inl (G.2.2.1 8, (len, pm_ar G 8 fun _ => 0)))] = pm_ws G (n + 1) (pm_clr V n fun _ => 0) := by
    rw [pm_ws_push, pm_cell_a ha]
    have e9 : pm_clr V n (fun _ => 0) n = fun _ => 0 := by funext j; simp [pm_clr]
    rw [e9]
  rw [e2] at r1
  have k1 := k d0 H1 locs ls h1 r1 r3 h4 (by omega) htop
  have e3 : pm_rv G (3, (n : Int)) = .ref (G.1 + n) := pm_ref (Int.natCast_nonneg n)
  simp only [pm_sts, List.map_cons, e3] at k1
  have e4 : n + 1 - n0 = n - n0 + 1 := by omega
  have e5 : pm_sl (n + 1) - pm_sl n0 = pm_sl n - pm_sl n0 + len := by omega
  rw [e4, e5] at k1
  exact k1
theorem pm_anew (hC : pm_C X own cc nL d) {x : Int} {len : Nat} (i : Nat) (ha : pm_lay[n]? = some (1, 3, len)) (hx : x = (len : Int)) (hln : len < 100000) (hl : (decide (pm_look i = some (.classLink own idx "LipsVoice$Sheet")) && goodWord (.classLink own idx "LipsVoice$Sheet")) = true) (htop : n + 1 ≤ pm_top X) (hd : decode cc pc = .ok (.anewarray idx, 3)) (k : pm_J X (pc + 3) lv ((3, (n : Int)) :: st) (n + 1) (pm_clr V n fun _ => -1)) : pm_J X pc lv ((0, x) :: st) n V := by
  obtain ⟨p, l, e, R, s, m, args, below, meth, c, Q, G, nl, n0, n1⟩ := X
  intro d0 H locs ls h1 h2 h3 h4 h5 h6
  subst hx
  have htop : n + 1 ≤ n1 := htop
  have hts := dr_words hC.2.2.2.2.2.1 d0
  have hT := hC.2.2.2.2.2.2.1
  have hsz0 : s.heap.size = G.1 + n0 := hC.2.2.2.2.2.2.2.1
  have hcel := hC.2.2.2.2.2.2.2.2.2.2.1 (n + 1) (by omega) htop
  have hsl1 := pm_slm h5
  have hsl : pm_sl (n + 1) = pm_sl n + len := pm_sl_s ha
  have hR : pm_R (len : Int) := ⟨by omega, by omega⟩
  have hcl : (Int32.ofInt (len : Int)).toNatClampNeg = len := by rw [pm_clamp hR]; exact Int.toNat_natCast len
  refine va_newq (s := s.setDrawn d0) (C := "LipsVoice$Sheet") (N' := len) hC.1 hC.2.1 hC.2.2.2.2.1 (hts _ (pm_in i hl)) hT.2.2.2.2.2.2 hT.1 h2 pm_D h3 (fun q hq => by have hq : s.heap.size ≤ q := hq; show G.1 ≤ q; omega) (fun q => by rw [← pm_0, pm_lt hR pm_R0] at q; omega) hcl (by omega) (by omega) (by omega) hd (fun q cA H1 r0 r1 r2 r3 => ?_)
  refine pm_Wsize (s := s.setDrawn d0) (fun hsz9 => ?_)
  have hq : q = G.1 + n := pm_next h2 r1 r2 (by have h9 : H1.size ≤ s.heap.size + (n - n0 + 1) := hsz9; omega)
  subst hq
  have hcA : cA = G.2.2.1 3 := by
    obtain ⟨_, _, _, _, _, a1⟩ := (r0.2 5 _ rfl).2
    obtain ⟨_, _, _, _, _, a2⟩ := (hT.1.2 2 _ rfl).2
    exact Option.some.inj (Eq.trans (Eq.symm a1) a2)
  subst hcA
  have e2 : pm_ws G n V ++ [(G.1 + n, .inl (G.2.2.1 3, (len, .inr (.inr (.inr (.inr (fun _ => none)))))))] = pm_ws G (n + 1) (pm_clr V n fun _ => -1) := by
    rw [pm_ws_push, pm_cell_a ha]
    have e9 : pm_clr V n (fun _ => -1) n = fun _ => -1 := by funext j; simp [pm_clr]
    rw [e9]
    rfl
  rw [e2] at r1
  have k1 := k d0 H1 locs ls h1 r1 r3 h4 (by omega) htop
  have e3 : pm_rv G (3, (n : Int)) = .ref (G.1 + n) := pm_ref (Int.natCast_nonneg n)
  simp only [pm_sts, List.map_cons, e3] at k1
  have e4 : n + 1 - n0 = n - n0 + 1 := by omega
  have e5 : pm_sl (n + 1) - pm_sl n0 = pm_sl n - pm_sl n0 + len := by omega
  rw [e4, e5] at k1
  exact k1
theorem pm_aastore (hC : pm_C X own cc nL d) {i x z : Int} {len : Nat} (a b : Nat) (ha : pm_lay[a]? = some (1, 3, len)) (hb : pm_lay[b]? = some (0, 7, 12)) (hz : z = (a : Int)) (hx : x = (b : Int)) (han : a < n) (hbn : b < n) (hi : 0 ≤ i ∧ i < (len : Int)) (hln : len < 2147483648) (hd : decode cc pc = .ok (.aastore, 1)) (k : pm_J X (pc + 1) lv st n (pm_up V a i.toNat x)) : pm_J X pc lv ((3, x) :: (0, i) :: (3, z) :: st) n V := by
  obtain ⟨p, l, e, R, s, m, args, below, meth, c, Q, G, nl, n0, n1⟩ := X
  intro d0 H locs ls h1 h2 h3 h4 h5 h6
  subst hz
  subst hx
  obtain ⟨q1, q2⟩ := pm_ix hi hln
  have e1 : pm_rv G (3, (a : Int)) = .ref (G.1 + a) := pm_ref (Int.natCast_nonneg a)
  have e0 : pm_rv G (3, (b : Int)) = .ref (G.1 + b) := pm_ref (Int.natCast_nonneg b)
  simp only [pm_sts, List.map_cons, e1, e0]
  refine va_astq (s := s.setDrawn d0) (r := (RX7, TX7, 12)) (v := G.1 + b) hC.1 hC.2.1 hC.2.2.2.2.2.2.1.1 h2 pm_D h3 a 2 b 7 (by rw [pm_ws_at han, pm_cell_a ha]; rfl) rfl (by rw [pm_ws_at hbn, pm_cell_o hb]) rfl q1 hd (fun H1 locs1 r1 r2 r3 => ?_)
  refine k d0 H1 locs1 ls h1 ?_ r3 h4 h5 h6
  have e3 : some (G.1 + b) = pm_rf G.1 (b : Int) := by
    unfold pm_rf
    rw [if_neg (by omega), Int.toNat_natCast]
  have e2 : pm_cell G (pm_up V a i.toNat (b : Int)) a = .inl (G.2.2.1 3, len, (.inr (.inr (.inr (.inr (va_up (fun j => pm_rf G.1 (V a j)) i.toNat (some (G.1 + b)))))))) := by
    rw [pm_cell_a ha, e3]
    exact congrArg (fun f => (Sum.inl (G.2.2.1 3, (len, .inr (.inr (.inr (.inr f))))) : va_E)) (pm_ar_setR G V a i.toNat (b : Int))
  rw [q2] at r1
  have r4 := (congrArg (fun z => va_P G.2.1 pm_cl ((pm_ws G n V).set a (G.1 + a, z)) H1) e2).mpr r1
  rw [pm_ws_set han] at r4
  exact r4
theorem pm_ldcwString {p : Program} {l : Launch} {e : Env} {R : Room} {s : State} {m : MethodId} {args : Array Value} {below : List Frame} {meth : Method} {c : Code} {T : State} {locs : List Loc} {cells slots : Nat}
    (X : Stand p l e R s m args below meth c T locs cells slots) (hexec : p.tables.exec = Jvm.exec) {own text : String} {index : Nat} {a : Addr} (hown : s.vm.findClass own = some m.cls)
    (hZ : vk_R own index text a s) {g : JFrame} (hg : g.method = m) (hdg : decode c.code g.pc = .ok (.ldc_w index, 3)) :
    ∀ target, Steps p.tables e below (T.setTop { g with pc := g.pc + 3, stack := .ref a :: g.stack }) target → Steps p.tables e below (T.setTop g) target := by
  obtain ⟨k, cf, i, a', hk, hcf, hcp, -, hr, hev'⟩ := Cond.stringRef_spec hown hZ.1
  cases hZ.2.symm.trans hev'
  obtain ⟨k', hk', he⟩ := X.warmed.alike.2.2 _ _ hk
  have hr' : k'.resolved[index]? = some (some (.string a)) := by
    rcases X.warmed.entry hk hk' index with h | ⟨h, -⟩
    · rw [h]; exact hr
    · rw [hr] at h; cases h
  intro target hrest
  subst hg
  jvm_step X.here [hexec, hdg, ldc_w.wp_string (e := e) (s := T) (f := g) X.here.top hk' (by rw [he]; exact hcf) hcp hr']
  exact hrest
theorem pm_ldcS (hC : pm_C X "LipsVoiceModel" cc nL d) {tx : String} {q : Nat} (hq : (idx, tx, q) ∈ pm_lits) (hd : decode cc pc = .ok (.ldc idx, 2)) (k : pm_J X (pc + 2) lv ((4, (q : Int)) :: st) n V) : pm_J X pc lv st n V := by
  obtain ⟨p, l, e, R, s, m, args, below, meth, c, Q, G, nl, n0, n1⟩ := X
  intro d0 H locs ls h1 h2 h3 h4 h5 h6
  have hR := vk_R.same (U := s.setDrawn d0) rfl (hC.2.2.2.2.2.2.1.2.2.1 _ hq)
  have k1 := k d0 H locs ls h1 h2 h3 h4 h5 h6
  have e1 : pm_rv G (4, (q : Int)) = .ref (G.2.2.2.1 q) := by
    show Value.ref (G.2.2.2.1 (q : Int).toNat) = _
    rw [Int.toNat_natCast]
  simp only [pm_sts, List.map_cons, e1] at k1
  exact va_ldcS (s := s.setDrawn d0) hC.1 hC.2.1 hC.2.2.2.2.1 hR hd k1
theorem pm_ldcwS (hC : pm_C X "LipsVoiceModel" cc nL d) {tx : String} {q : Nat} (hq : (idx, tx, q) ∈ pm_lits) (hd : decode cc pc = .ok (.ldc_w idx, 3)) (k : pm_J X (pc + 3) lv ((4, (q : Int)) :: st) n V) : pm_J X pc lv st n V := by
  obtain ⟨p, l, e, R, s, m, args, below, meth, c, Q, G, nl, n0, n1⟩ := X
  intro d0 H locs ls h1 h2 h3 h4 h5 h6
  have hR := vk_R.same (U := s.setDrawn d0) rfl (hC.2.2.2.2.2.2.1.2.2.1 _ hq)
  have k1 := k d0 H locs ls h1 h2 h3 h4 h5 h6
  have e1 : pm_rv G (4, (q : Int)) = .ref (G.2.2.2.1 q) := by
    show Value.ref (G.2.2.2.1 (q : Int).toNat) = _
    rw [Int.toNat_natCast]
  simp only [pm_sts, List.map_cons, e1] at k1
  intro T hT X0
  obtain ⟨t, a, b⟩ := k1 T hT X0
  exact ⟨t, pm_ldcwString X0 hC.1 hC.2.2.2.2.1 hR (g := F0 m pc ls (pm_sts G st)) rfl (by rw [hC.2.1]; exact hd) t a, b⟩
/-- the script -/
def pm_Sc (X : pm_X) (L : Nat) (xs : Nat → Int32) : Prop := match X with
  | (_, _, _, _, s, _, _, _, _, _, _, G, _, _, _) => va_X G.2.2.2.2.2 L xs s s.heap ∧ G.2.2.2.2.2 < s.heap.size ∧ ¬ pm_A G G.2.2.2.2.2
theorem pm_sld (hC : pm_C X own cc nL d) {L : Nat} {xs : Nat → Int32} {i z : Int} (hS : pm_Sc X L xs) (hi : 0 ≤ i ∧ i < (L : Int)) (hL : L < 100000) (hd : decode cc pc = .ok (.iaload, 1)) (k : pm_J X (pc + 1) lv ((0, (xs i.toNat).toInt) :: st) n V) : pm_J X pc lv ((0, i) :: (5, z) :: st) n V := by
  obtain ⟨p, l, e, R, s, m, args, below, meth, c, Q, G, nl, n0, n1⟩ := X
  intro d0 H locs ls h1 h2 h3 h4 h5 h6
  obtain ⟨q1, q2⟩ := pm_ix hi (by omega)
  have k1 := k d0 H locs ls h1 h2 h3 h4 h5 h6
  have e1 : pm_rv G (0, (xs i.toNat).toInt) = .int (xs i.toNat) := congrArg Value.int (Int32.ofInt_toInt _)
  simp only [pm_sts, List.map_cons, e1] at k1
  refine va_sld (s := s.setDrawn d0) (H0 := s.heap) (A := pm_A G) hC.1 hC.2.1 hS.1 hS.2.1 hS.2.2 h3 q1 hd ?_
  rw [q2]
  exact k1
theorem pm_slen (hC : pm_C X own cc nL d) {L : Nat} {xs : Nat → Int32} {z : Int} (hS : pm_Sc X L xs) (hd : decode cc pc = .ok (.arraylength, 1)) (k : pm_J X (pc + 1) lv ((0, (L : Int)) :: st) n V) : pm_J X pc lv ((5, z) :: st) n V := by
  obtain ⟨p, l, e, R, s, m, args, below, meth, c, Q, G, nl, n0, n1⟩ := X
  intro d0 H locs ls h1 h2 h3 h4 h5 h6
  have k1 := k d0 H locs ls h1 h2 h3 h4 h5 h6
  have e1 : pm_rv G (0, (L : Int)) = .int (Int32.ofNat L) := congrArg Value.int Int32.ofInt_eq_ofNat
  simp only [pm_sts, List.map_cons, e1] at k1
  exact va_slen (s := s.setDrawn d0) (H0 := s.heap) (A := pm_A G) hC.1 hC.2.1 hS.1 hS.2.1 hS.2.2 h3 hd k1
end PCM3
