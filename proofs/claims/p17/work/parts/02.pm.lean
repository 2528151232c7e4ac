/-! A PURE MACHINE over numbers: the world is a fixed list of cells (made one behind another from the law's entry on), each a row of integers; a walk over it is a walk of the machine. -/
abbrev pm_V : Type := Nat × Int
abbrev pm_M : Type := Nat → Nat → Int
abbrev pm_L : Type := List (Nat × pm_V)
/-- first address, class tables, array classes, the literals' objects and byte arrays, the script -/
abbrev pm_G : Type := Nat × va_G × (Nat → ClassId) × (Nat → Nat) × (Nat → Nat) × Nat
abbrev pm_cl : List vw_C := [(RX0, TX0, 3), (RX1, TX1, 2), (RX2, TX2, 8), (RX3, TX3, 2), (RX4, TX4, 2), (RX5, TX5, 13), (RX6, TX6, 7), (RX7, TX7, 12), (RX8, TX8, 2), (RX9, TX9, 5), (RX10, TX10, 16), (RX11, TX11, 17), (RX12, TX12, 58)]
def pm_ty (ci : Nat) : Nat → FieldType := match ci with
  | 0 => tyX0 | 1 => tyX1 | 2 => tyX2 | 3 => tyX3 | 4 => tyX4 | 5 => tyX5 | 6 => tyX6 | 7 => tyX7 | 8 => tyX8 | 9 => tyX9 | 10 => tyX10 | 11 => tyX11 | _ => tyX12
/-- the tag of a value of a type: 0 int, 1 long, 2 double, 3 a cell -/
def pm_tag : FieldType → Nat
  | .long => 1
  | .double => 2
  | .object _ => 3
  | .array _ => 3
  | _ => 0
def pm_rf (h : Nat) (x : Int) : Option Nat := if x < 0 then none else some (h + x.toNat)
/-- what a pure value is in the machine -/
def pm_rv (G : pm_G) (v : pm_V) : Value := match v.1 with
  | 0 => .int (Int32.ofInt v.2)
  | 1 => .long (Int64.ofInt v.2)
  | 2 => .double (UInt64.ofNat v.2.toNat)
  | 3 => va_rf (pm_rf G.1 v.2)
  | 4 => .ref (G.2.2.2.1 v.2.toNat)
  | _ => .ref G.2.2.2.2.2
/-- the cells in the order of their making: (0, class, fields) an object; (1, type, length) an array of 0 int, 1 long, 3 Sheets, 7 boolean, 8 byte -/
def pm_lay : List (Nat × Nat × Nat) := [
  (0,11,17), (0,8,2), (1,0,500), (0,9,5),
  (0,7,12), (1,0,10), (1,0,10), (1,0,10), (1,0,10), (1,0,60), (1,0,60), (1,0,60), (1,0,60), (1,7,60),
  (1,3,3),
  (0,7,12), (1,0,10), (1,0,10), (1,0,10), (1,0,10), (1,0,60), (1,0,60), (1,0,60), (1,0,60), (1,7,60),
  (0,7,12), (1,0,10), (1,0,10), (1,0,10), (1,0,10), (1,0,60), (1,0,60), (1,0,60), (1,0,60), (1,7,60),
  (0,7,12), (1,0,10), (1,0,10), (1,0,10), (1,0,10), (1,0,60), (1,0,60), (1,0,60), (1,0,60), (1,7,60),
  (0,5,13), (1,0,9), (1,0,9), (1,0,9), (1,0,12), (1,0,12),
  (0,5,13), (1,0,9), (1,0,9), (1,0,9), (1,0,12), (1,0,12),
  (0,2,8), (1,0,10), (1,0,10), (1,0,10), (1,0,500), (1,1,64),
  (0,2,8), (1,0,10), (1,0,10), (1,0,10), (1,0,500), (1,1,64),
  (0,6,7), (1,1,9), (1,7,9),
  (0,3,2),
  (0,10,16), (1,1,9), (1,1,9), (1,1,9), (1,1,9),
  (0,4,2), (0,1,2), (1,1,128), (0,1,2), (1,1,128),
  (1,1,7),
  (0,0,3), (1,1,60), (1,1,60),
  (0,0,3), (1,1,60), (1,1,60),
  (0,12,58), (1,8,500), (1,1,9), (1,0,27), (1,7,9), (1,0,4), (1,0,36), (1,0,27), (1,0,4), (1,0,36), (1,0,40), (1,0,300), (1,7,3), (1,0,3), (1,0,120), (1,0,3), (1,0,900), (1,0,1200), (1,0,1200), (1,0,600), (1,0,9), (1,0,9), (1,1,9), (1,0,2400), (1,0,8), (1,1,9), (1,0,7), (1,0,600)]
/-- the slots of the first n cells -/
def pm_sl (n : Nat) : Nat := ((pm_lay.take n).map (fun q => q.2.2)).sum
def pm_ar (G : pm_G) (tc : Nat) (f : Nat → Int) : (Nat → Int32) ⊕ (Nat → Int64) ⊕ (Nat → UInt32) ⊕ (Nat → UInt64) ⊕ (Nat → Option Nat) := match tc with
  | 1 => .inr (.inl fun j => Int64.ofInt (f j))
  | 3 => .inr (.inr (.inr (.inr fun j => pm_rf G.1 (f j))))
  | _ => .inl fun j => Int32.ofInt (f j)
def pm_cell (G : pm_G) (V : pm_M) (k : Nat) : va_E := match pm_lay[k]? with
  | some (0, ci, N) => .inr (ci, (List.range N).map fun i => pm_rv G (pm_tag (pm_ty ci i), V k i))
  | some (_, tc, n) => .inl (G.2.2.1 tc, n, pm_ar G tc (V k))
  | none => .inr (0, [])
def pm_ws (G : pm_G) (n : Nat) (V : pm_M) : va_W := (List.range n).map fun k => (G.1 + k, pm_cell G V k)
def pm_tys (G : pm_G) : List (ClassId × FieldType) := [(G.2.2.1 0, .int), (G.2.2.1 1, .long), (G.2.2.1 3, .object "LipsVoice$Sheet"), (G.2.2.1 7, .boolean), (G.2.2.1 8, .byte)]
/-- the literals: pool index, text, place -/
def pm_lits : List (Nat × String × Nat) := [(154, "sound", 0), (160, "voice", 1), (162, "face", 2), (164, "odds", 3), (166, "hold", 4), (168, "learn", 5), (252, "third", 6), (254, "noticed", 7), (256, "noise", 8), (258, "dark", 9), (260, "late", 10), (269, "call", 11), (274, "fused", 12), (276, "apart", 13), (278, "heard", 14), (280, "seen", 15), (282, "if", 16), (287, "and", 17)]
def pm_len : List Nat := [5, 5, 4, 4, 4, 5, 5, 7, 5, 4, 4, 4, 5, 5, 5, 4, 2, 3]
def pm_byt : List (List Int32) := [[115, 111, 117, 110, 100], [118, 111, 105, 99, 101], [102, 97, 99, 101], [111, 100, 100, 115], [104, 111, 108, 100], [108, 101, 97, 114, 110], [116, 104, 105, 114, 100], [110, 111, 116, 105, 99, 101, 100], [110, 111, 105, 115, 101], [100, 97, 114, 107], [108, 97, 116, 101], [99, 97, 108, 108], [102, 117, 115, 101, 100], [97, 112, 97, 114, 116], [104, 101, 97, 114, 100], [115, 101, 101, 110], [105, 102], [97, 110, 100]]
def pm_isN : Cond → Bool
  | .fieldLinkNest _ _ _ _ _ _ => true
  | .methodLinkNest _ _ _ _ => true
  | _ => false
/-- the words that every method takes with it -/
def pm_all : List Cond := lw_tbl.filter goodWord
/-- the words in pieces: piece k's j-th by 1000 k + j -/
def pm_chunk (k : Nat) : List Cond := match k with
  | 0 => k2_sels lw_privs
  | 1 => tables_1_1 | 2 => tables_1_2 | 3 => tables_1_3 | 4 => tables_1_4 | 5 => tables_1_5 | 6 => tables_1_6 | 7 => tables_1_7 | 8 => tables_1_8
  | _ => []
def pm_look (i : Nat) : Option Cond := (pm_chunk (i / 1000))[i % 1000]?
theorem pm_look_mem {w : Cond} {i : Nat} (h : pm_look i = some w) : w ∈ lw_tbl := by
  have h1 := List.mem_of_getElem? h
  generalize i / 1000 = k at h1
  have e : lw_tbl = k2_sels lw_privs ++ (tables_1_1 ++ (tables_1_2 ++ (tables_1_3 ++ (tables_1_4 ++ (tables_1_5 ++ (tables_1_6 ++ (tables_1_7 ++ tables_1_8))))))) := rfl
  rw [e]
  simp only [List.mem_append]
  match k, h1 with
  | 0, h => exact Or.inl h
  | 1, h => exact Or.inr (Or.inl h)
  | 2, h => exact Or.inr (Or.inr (Or.inl h))
  | 3, h => exact Or.inr (Or.inr (Or.inr (Or.inl h)))
  | 4, h => exact Or.inr (Or.inr (Or.inr (Or.inr (Or.inl h))))
  | 5, h => exact Or.inr (Or.inr (Or.inr (Or.inr (Or.inr (Or.inl h)))))
  | 6, h => exact Or.inr (Or.inr (Or.inr (Or.inr (Or.inr (Or.inr (Or.inl h))))))
  | 7, h => exact Or.inr (Or.inr (Or.inr (Or.inr (Or.inr (Or.inr (Or.inr (Or.inl h)))))))
  | 8, h => exact Or.inr (Or.inr (Or.inr (Or.inr (Or.inr (Or.inr (Or.inr (Or.inr h)))))))
  | k + 9, h => exact absurd h List.not_mem_nil
theorem pm_in {w : Cond} (i : Nat) (h : (decide (pm_look i = some w) && goodWord w) = true) : w ∈ pm_all := by
  simp only [Bool.and_eq_true, decide_eq_true_eq] at h
  exact List.mem_filter.mpr ⟨pm_look_mem h.1, h.2⟩
theorem pm_inR {w : Cond} (i : Nat) (h : pm_look i = some w) (hg : goodWord w = true) : w ∈ pm_all := List.mem_filter.mpr ⟨pm_look_mem h, hg⟩
theorem pm_good : GoodIn pm_all pm_all := fun w h => ⟨h, good_of_word (List.mem_filter.mp h).2⟩
/-- the literals; the byte array of the literal q stands at 18 + q -/
def pm_S4 (G : pm_G) (U : State) (H : Heap) : Prop := vk_S 18 pm_len pm_byt G.2.2.2.1 G.2.2.2.2.1 (fun q => G.1 ≤ q) U H ∧ ∀ q, q < 18 → G.2.2.2.1 (18 + q) = G.2.2.2.2.1 q
/-- the formatter: null, or the cell at 36 -/
def pm_ZF (G : pm_G) (U : State) (H : Heap) : Prop := va_Z "jdk/internal/util/Preconditions" "SIOOBE_FORMATTER" "Ljava/util/function/BiFunction;" .null (fun q => G.1 ≤ q) U H ∨ va_Z "jdk/internal/util/Preconditions" "SIOOBE_FORMATTER" "Ljava/util/function/BiFunction;" (.ref (G.2.2.2.1 36)) (fun q => G.1 ≤ q) U H
theorem pm_ZF.moved {G : pm_G} {u U : State} {H : Heap} (hvm : u.vm.Alike U.vm) (h : pm_ZF G u H) : pm_ZF G U H := h.elim (fun h => Or.inl (va_Z.moved hvm h)) (fun h => Or.inr (va_Z.moved hvm h))
theorem pm_ZF.kept {G : pm_G} {U : State} {H H1 : Heap} (h : pm_ZF G U H) (hq : ∀ a : Nat, a < H.size → ¬ G.1 ≤ a → H1[a]? = H[a]?) : pm_ZF G U H1 := h.elim (fun h => Or.inl (h.kept hq)) (fun h => Or.inr (h.kept hq))
/-- what the tables, the literals and the JDK's statics hold, at a state -/
def pm_T (G : pm_G) (U : State) (H : Heap) : Prop := va_K G.2.1 pm_cl (pm_tys G) U ∧ (∀ w ∈ lw_tbl, pm_isN w = true → va_Nw w U) ∧ (∀ q ∈ pm_lits, vk_R "LipsVoiceModel" q.1 q.2.1 (G.2.2.2.1 q.2.2) U) ∧ pm_S4 G U H ∧ va_Z "java/lang/String" "COMPACT_STRINGS" "Z" (.int 1) (fun q => G.1 ≤ q) U H ∧ pm_ZF G U H ∧ va_AO "LipsVoice$Sheet" U
theorem pm_Nw_warm {w : Cond} (hw : pm_isN w = true) {s U : State} (hW : s.WarmedH U.vm) (h : va_Nw w s) : va_Nw w U := by
  cases w <;> first | exact absurd hw Bool.false_ne_true | exact va_Nw.warmF hW h | exact va_Nw.warmM hW h
theorem pm_T.move {G : pm_G} {s U : State} {H0 H : Heap} (h : pm_T G s H0) (hW : s.WarmedH U.vm) (hq : ∀ a : Nat, a < H0.size → ¬ G.1 ≤ a → H[a]? = H0[a]?) : pm_T G U H :=
  ⟨va_K.moved hW.alike h.1, fun w hm hn => pm_Nw_warm hn hW (h.2.1 w hm hn), fun q hm => vk_R.warm hW (h.2.2.1 q hm), ⟨(vk_S.moved hW.alike h.2.2.2.1.1).kept hq, h.2.2.2.1.2⟩, (va_Z.moved hW.alike h.2.2.2.2.1).kept hq, (pm_ZF.moved hW.alike h.2.2.2.2.2.1).kept hq, va_AO.moved hW.alike h.2.2.2.2.2.2⟩
theorem pm_T.same {G : pm_G} {s U : State} {H : Heap} (h : pm_T G s H) (hv : s.vm = U.vm) : pm_T G U H := by
  refine ⟨va_K.moved (by rw [hv]; exact Vm.Alike.refl _) h.1, fun w hm hn => va_Nw.same ?_ hv (h.2.1 w hm hn), fun q hm => vk_R.same hv.symm (h.2.2.1 q hm), ⟨vk_S.moved (by rw [hv]; exact Vm.Alike.refl _) h.2.2.2.1.1, h.2.2.2.1.2⟩, va_Z.moved (by rw [hv]; exact Vm.Alike.refl _) h.2.2.2.2.1, pm_ZF.moved (by rw [hv]; exact Vm.Alike.refl _) h.2.2.2.2.2.1, va_AO.moved (by rw [hv]; exact Vm.Alike.refl _) h.2.2.2.2.2.2⟩
  cases w <;> first | exact absurd hn Bool.false_ne_true | rfl
/-- the world: its cells, from the first address on -/
def pm_H (G : pm_G) (n : Nat) (V : pm_M) (H : Heap) : Prop := va_P G.2.1 pm_cl (pm_ws G n V) H
def pm_A (G : pm_G) : Nat → Prop := fun q => G.1 ≤ q
theorem pm_ws_at {G : pm_G} {n k : Nat} {V : pm_M} (h : k < n) : (pm_ws G n V)[k]? = some (G.1 + k, pm_cell G V k) := by
  simp [pm_ws, List.getElem?_map, List.getElem?_range h]
theorem pm_D {G : pm_G} {n : Nat} {V : pm_M} : va_D (pm_A G) (pm_ws G n V) := by
  have key : ∀ (k : Nat) (q : Nat × va_E), (pm_ws G n V)[k]? = some q → q.1 = G.1 + k := by
    intro k q h
    have hk : k < n := by simpa [pm_ws] using (List.getElem?_eq_some_iff.mp h).1
    rw [pm_ws_at hk] at h
    cases h
    rfl
  refine ⟨fun i j p q hi hj hpq => ?_, fun k q hk => ?_⟩
  · have h1 := key i p hi
    have h2 := key j q hj
    omega
  · show G.1 ≤ q.1
    rw [key k q hk]
    omega
def pm_up (V : pm_M) (k i : Nat) (x : Int) : pm_M := fun a j => if a = k then (if j = i then x else V a j) else V a j
theorem pm_up_s {V : pm_M} {k i : Nat} {x : Int} : pm_up V k i x k i = x := by simp [pm_up]
theorem pm_up_c {V : pm_M} {k i a j : Nat} {x : Int} (h : a ≠ k) : pm_up V k i x a j = V a j := by simp [pm_up, h]
theorem pm_up_i {V : pm_M} {k i a j : Nat} {x : Int} (h : j ≠ i) : pm_up V k i x a j = V a j := by simp [pm_up, h]
theorem pm_cell_ne {G : pm_G} {V : pm_M} {k i j : Nat} {x : Int} (h : j ≠ k) : pm_cell G (pm_up V k i x) j = pm_cell G V j := by
  have e : pm_up V k i x j = V j := by funext t; simp [pm_up, h]
  unfold pm_cell
  rw [e]
/-- a cell is written -/
theorem pm_ws_set {G : pm_G} {n k i : Nat} {V : pm_M} {x : Int} (h : k < n) : (pm_ws G n V).set k (G.1 + k, pm_cell G (pm_up V k i x) k) = pm_ws G n (pm_up V k i x) := by
  apply List.ext_getElem?
  intro j
  by_cases hj : j = k
  · subst hj
    rw [List.getElem?_set_self (by simpa [pm_ws] using h), pm_ws_at h]
  · rw [List.getElem?_set_ne (Ne.symm hj)]
    by_cases hn : j < n
    · rw [pm_ws_at hn, pm_ws_at hn, pm_cell_ne hj]
    · rw [List.getElem?_eq_none (by simpa [pm_ws] using hn), List.getElem?_eq_none (by simpa [pm_ws] using hn)]
