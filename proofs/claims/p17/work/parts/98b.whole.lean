/-! THE CLAIM OUT OF ONE WALK OF THE LAW'S BODY. Your part is whole_start (and what it stands on); all else here is the same for every law, but numbers. -/
def R_law : String := "LipsVoiceLaw"
def lw_P (b : Addr) (xs : List Int32) (args : Array Value) (s : State) : Prop := args = #[.ref b] ∧ s.IntsAt b xs ∧ xs.length ≤ 3072 ∧ (Jvm.Cond.and given_1 narrow_1).before args s = true
/-- what a walk over the start with the record d0 says of its end, said of the start itself -/
theorem lw_closed {s t : State} {o : Outcome} {d0 : Drawn} {L : List Loc} {k n : Nat} (hd0 : s.drawn.sameBut d0 lw_cs) (hv : ∃ v, o = .returned v) (hW : (s.setDrawn d0).WarmedH t.vm) (hs : (s.setDrawn d0).sameButNew ({ t with vm := s.vm } : State) L k n) : State.butDraws s t lw_cs (fun t1 => Framed s o t1 L k n) := by
  have h2 : t.drawn = d0 := congrArg State.drawn hs.1
  refine ⟨⟨hv, hW, State.sameButNew.setDrawn hs s.drawn⟩, ?_, by decide⟩
  rw [h2]
  exact hd0
def lw_Q (_ : Array Value) (s : State) (o : Outcome) (t : State) : Prop := o = .returned (some (.int 1)) ∧ State.butDraws s t lw_cs (fun t1 => Framed s o t1 [] 600000 7302250)
def lw_Z (below : List Frame) (a : Array Value) (s : State) : State → Prop := fun t => ∃ o, t.status = .running ∧ Ended t below o ∧ lw_Q a s o t
/-- the law's own end, with 1 on the stack, nothing written that was there before, its room as the claim has it; d0: the record of draws at this point (at the entry s.drawn: begin with 'refine W.base ?_' and 'have hd0 := Drawn.sameBut.refl s.drawn lw_cs') -/
theorem lw_ret {p : Program} {l : Launch} {e : Env} {s : State} {m : MethodId} {below : List Frame} {meth : Method} {c : Code} {b : Nat} {d0 : Drawn} (hd0 : s.drawn.sameBut d0 lw_cs) (hx : p.tables.exec = Jvm.exec) (hb : c.code = code) (hr : meth.sig.returnType = ret) (hlocks : meth.locks = false) {pc : Nat} {H : Heap} {ls : Array Slot} (hdg : decode code pc = .ok (.ireturn, 1)) : W p l e room_1 (s.setDrawn d0) m #[Value.ref b] below meth c H [] 600000 7302250 (lw_Z below #[Value.ref b] s) (F0 m pc ls [.int 1]) := by
  intro T hT X
  obtain ⟨fs, hret, hrun, hended, hW, hframe⟩ := X.leave (v := some (.int 1)) (hlocks := hlocks) (fun h => by rw [hr] at h; cases h)
  have hmeth' : T.vm.method? m = some meth := X.method'
  refine ⟨T.setFrames fs, ?_, .returned (some (.int 1)), hrun, hended, rfl, lw_closed hd0 ⟨_, rfl⟩ hW hframe⟩
  jvm_step X.here [X.here.top, hx, hb, hdg, hmeth', hr, ret, narrow_b1]
  (try refine ⟨rfl, ?_⟩); (try refine ⟨rfl, ?_⟩)
  first | (intro acts; rw [hret _ acts rfl rfl rfl]) | rw [hret _ _ rfl rfl rfl]
  exact Steps.refl _
/-- what holds at the law's entry: the machine, the code, the tables' words (any of lw_tbl by 'hts w (by decide +kernel)'), the script of L ints xs at the cell b, what the Statement gives of the start (any of its parts by flat_of_before) -/
def lw_At (p : Program) (s : State) (m : MethodId) (meth : Method) (c : Code) (b L : Nat) (xs : Nat → Int32) : Prop :=
  p.tables.exec = Jvm.exec ∧ c.code = code ∧ meth.sig.returnType = ret ∧ c.maxLocals = 4 ∧ s.vm.findClass R_law = some m.cls ∧ (∀ w ∈ lw_tbl, w.before #[Value.ref b] s = true) ∧ va_X b L xs s s.heap ∧ b < s.heap.size ∧ meth.locks = false ∧ (Jvm.Cond.and given_1 narrow_1).before #[Value.ref b] s = true
theorem lw_sl : pm_sl 118 = 11991 := by decide +kernel
theorem whole_start {p : Program} {e : Env} {s : State} {m : MethodId} {below : List Frame} {meth : Method} {c : Code} (l : Launch) (hflags : l.flags = flags0) {b L : Nat} {xs : Nat → Int32} (hL : L ≤ 3072) (C0 : lw_At p s m meth c b L xs) : W p l e room_1 s m #[Value.ref b] below meth c s.heap [] 0 0 (lw_Z below #[Value.ref b] s) (entryFrame m ([Value.ref b] : List Value).toArray 4) := by
  obtain ⟨hx, hb, hr, hml, hown, hts, hX, hbl, hlocks, hgv⟩ := id C0
  have hd0 := Drawn.sameBut.refl s.drawn lw_cs
  obtain ⟨G, hG1, hG2, hT⟩ := lt_T b hts (flat_of_before _ hgv)
  have hl := lv_entry ([.ref b]) (n := 4) (Nat.le_of_ble_eq_true rfl)
  rw [lg_entry_eq]
  generalize (lg_sl ([.ref b]) ++ List.replicate (4 - (lg_sl ([.ref b])).length) Slot.unset).toArray = ls at hl ⊢
  have e5 : pm_rv G (5, 0) = .ref b := by
    show Value.ref G.2.2.2.2.2 = _
    rw [hG2]
  have hl : lv_has ls 4 (pm_lvs G [(0, (5, 0))]) := by
    show lv_has ls 4 [(0, pm_rv G (5, 0))]
    rw [e5]
    exact hl
  obtain ⟨X, hX0⟩ : ∃ X : pm_X, X = (p, l, e, room_1, s, m, #[Value.ref b], below, meth, c, lw_Z below #[Value.ref b] s, G, 4, 0, 118) := ⟨_, rfl⟩
  have hC : pm_C X RL cL_law 4 60 := by
    rw [hX0]
    refine ⟨hx, hb, hml, rfl, hown, fun w h => hts w (List.mem_filter.mp h).1, hT, hG1.symm, hlocks, ⟨by decide, by decide⟩, fun n h1 h2 => ⟨?_, ?_⟩, Nat.le_refl _⟩
    · show n - 0 ≤ 600000
      omega
    · have h3 := pm_slm h2
      have h4 := lw_sl
      show pm_sl n - pm_sl 0 ≤ 7302250
      omega
  have hSc : pm_Sc X L xs := by
    rw [hX0]
    refine ⟨?_, ?_, ?_⟩
    · show va_X G.2.2.2.2.2 L xs s s.heap
      rw [hG2]
      exact hX
    · show G.2.2.2.2.2 < s.heap.size
      rw [hG2]
      exact hbl
    · show ¬ G.1 ≤ G.2.2.2.2.2
      rw [hG1, hG2]
      omega
  have hEnd : ∀ (i : Int) (V : pm_M), lw_J V → pm_J X 1572 (lw_lv i) [] 118 V := by
    intro i V hV
    refine pm_iconst (v := 1) hC dL_law_1572 ?_
    rw [hX0]
    intro d0 H locs ls h1 h2 h3 h4 h5 h6
    refine W.widen (k := 600000) (n := 7302250) (by omega) (by have h4 := lw_sl; omega) ?_
    refine va_forget (fun q hq => ?_) ?_
    · have h9 : G.1 ≤ q.base := h3.2.2 q hq
      show s.heap.size ≤ q.base
      omega
    · exact lw_ret h1 hx hb hr hlocks dL_law_1573
  have key := lw_entry hC hSc hL (by rw [hX0]; rfl) hEnd (fun _ _ => 0)
  rw [hX0] at key
  refine W.base ?_
  have k1 := key s.drawn s.heap [] ls hd0 (fun k q h => by simp [pm_ws] at h) va_S.rf hl (Nat.le_refl _) (Nat.zero_le _)
  rw [Nat.sub_self, Nat.sub_self] at k1
  exact k1
