/-! decode rows by their bytes -/
def dk_q (code : ByteArray) (p : Nat) : Option UInt8 := code.data.toList[p]?
theorem dk_u1 {code : ByteArray} {p : Nat} {u : UInt8} (h : dk_q code p = some u) : (Reader.u1 : Decoder Nat) code p = .ok (u.toNat, p + 1) := by
  unfold dk_q at h
  obtain ⟨hp, hu⟩ := List.getElem?_eq_some_iff.mp h
  have hp2 : p < code.size := hp
  have e : code[p] = u := hu
  show (dite (p < code.size) (fun h => (do set (p + 1); pure code[p].toNat : Decoder Nat)) (fun _ => throw (HasTruncated.truncated p))) code p = _
  rw [dif_pos hp2, e]
  rfl
theorem dk_bind {A B : Type} {x : Decoder A} {f : A → Decoder B} {code : ByteArray} {p q : Nat} {a : A} (h : x code p = .ok (a, q)) : (x >>= f) code p = f a code q := by
  show Except.bind (x code p) (fun r => f r.1 code r.2) = _
  rw [h]
  rfl
theorem dk_fin {code : ByteArray} {p n : Nat} {i : Instr} (h : Decoder.instr p code p = .ok (i, p + n)) : decode code p = .ok (i, n) := by
  show Except.bind (Decoder.instr p code p) (fun r => Except.ok (r.1, r.2 - p)) = _
  rw [h]
  show Except.ok (i, p + n - p) = _
  rw [Nat.add_sub_cancel_left]
theorem dk_u2 {code : ByteArray} {p : Nat} {u v : UInt8} (h : dk_q code p = some u) (h2 : dk_q code (p + 1) = some v) : (Reader.u2 : Decoder Nat) code p = .ok (u.toNat * 256 + v.toNat, p + 2) :=
  (dk_bind (f := fun hi => Reader.u1 >>= fun lo => pure (hi * 256 + lo)) (dk_u1 h)).trans ((dk_bind (f := fun lo => pure (u.toNat * 256 + lo)) (dk_u1 h2)).trans rfl)
theorem dk_s1 {code : ByteArray} {p : Nat} {u : UInt8} (h : dk_q code p = some u) : (Reader.s1 : Decoder Int) code p = .ok (Reader.signed 8 u.toNat, p + 1) := by
  show Except.map (fun r => (Reader.signed 8 r.1, r.2)) ((Reader.u1 : Decoder Nat) code p) = _
  rw [dk_u1 h]
  rfl
theorem dk_s2 {code : ByteArray} {p : Nat} {u v : UInt8} (h : dk_q code p = some u) (h2 : dk_q code (p + 1) = some v) : (Reader.s2 : Decoder Int) code p = .ok (Reader.signed 16 (u.toNat * 256 + v.toNat), p + 2) := by
  show Except.map (fun r => (Reader.signed 16 r.1, r.2)) ((Reader.u2 : Decoder Nat) code p) = _
  rw [dk_u2 h h2]
  rfl
/-- the bytes from p on -/
def dk_a (code : ByteArray) (p : Nat) (a : UInt8) : Bool := match code.data.toList.drop p with
  | x :: _ => x == a
  | _ => false
def dk_b (code : ByteArray) (p : Nat) (a b : UInt8) : Bool := match code.data.toList.drop p with
  | x :: y :: _ => x == a && y == b
  | _ => false
def dk_c (code : ByteArray) (p : Nat) (a b c : UInt8) : Bool := match code.data.toList.drop p with
  | x :: y :: z :: _ => x == a && (y == b && z == c)
  | _ => false
theorem dk_dr {code : ByteArray} {p j : Nat} {l : List UInt8} (h : code.data.toList.drop p = l) : dk_q code (p + j) = l[j]? := by
  unfold dk_q
  rw [← h, List.getElem?_drop]
theorem dk_a_q {code : ByteArray} {p : Nat} {a : UInt8} (h : dk_a code p a = true) : dk_q code p = some a := by
  unfold dk_a at h
  split at h
  · rename_i x r e
    have e0 := dk_dr (j := 0) e
    rw [eq_of_beq h] at e0
    exact e0
  · exact absurd h Bool.false_ne_true
theorem dk_b_q {code : ByteArray} {p : Nat} {a b : UInt8} (h : dk_b code p a b = true) : dk_q code p = some a ∧ dk_q code (p + 1) = some b := by
  unfold dk_b at h
  split at h
  · rename_i x y r e
    rw [Bool.and_eq_true] at h
    have e0 := dk_dr (j := 0) e
    have e1 := dk_dr (j := 1) e
    rw [eq_of_beq h.1] at e0
    rw [eq_of_beq h.2] at e1
    exact ⟨e0, e1⟩
  · exact absurd h Bool.false_ne_true
theorem dk_c_q {code : ByteArray} {p : Nat} {a b c : UInt8} (h : dk_c code p a b c = true) : dk_q code p = some a ∧ dk_q code (p + 1) = some b ∧ dk_q code (p + 2) = some c := by
  unfold dk_c at h
  split at h
  · rename_i x y z r e
    rw [Bool.and_eq_true, Bool.and_eq_true] at h
    have e0 := dk_dr (j := 0) e
    have e1 := dk_dr (j := 1) e
    have e2 := dk_dr (j := 2) e
    rw [eq_of_beq h.1] at e0
    rw [eq_of_beq h.2.1] at e1
    rw [eq_of_beq h.2.2] at e2
    exact ⟨e0, e1, e2⟩
  · exact absurd h Bool.false_ne_true
/-- a list begins with these -/
def dk_pre : List UInt8 → List UInt8 → Bool
  | [], _ => true
  | _ :: _, [] => false
  | x :: xs, y :: ys => x == y && dk_pre xs ys
theorem dk_pre_app : ∀ (l r : List UInt8), dk_pre l r = true → ∃ t, r = l ++ t
  | [], r, _ => ⟨r, rfl⟩
  | _ :: _, [], h => absurd h Bool.false_ne_true
  | x :: xs, y :: ys, h => by
    simp only [dk_pre, Bool.and_eq_true] at h
    obtain ⟨t, ht⟩ := dk_pre_app xs ys h.2
    exact ⟨t, by rw [ht, eq_of_beq h.1]; rfl⟩
theorem dk_pre_dr {code : ByteArray} {p : Nat} {l : List UInt8} (h : dk_pre l (code.data.toList.drop p) = true) {j : Nat} {x : UInt8} {r : List UInt8} (hj : l.drop j = x :: r) : ∃ t, code.data.toList.drop (p + j) = x :: (r ++ t) := by
  obtain ⟨t, ht⟩ := dk_pre_app _ _ h
  have hl : j ≤ l.length := by
    rcases Nat.lt_or_ge l.length j with hlt | hle
    · rw [List.drop_eq_nil_of_le (Nat.le_of_lt hlt)] at hj
      exact absurd hj.symm (List.cons_ne_nil _ _)
    · exact hle
  refine ⟨t, ?_⟩
  rw [← List.drop_drop, ht, List.drop_append_of_le_length hl, hj]
  rfl
def dk_al (l : List UInt8) (a : UInt8) : Bool := match l with
  | x :: _ => x == a
  | _ => false
def dk_bl (l : List UInt8) (a b : UInt8) : Bool := match l with
  | x :: y :: _ => x == a && y == b
  | _ => false
def dk_cl (l : List UInt8) (a b c : UInt8) : Bool := match l with
  | x :: y :: z :: _ => x == a && (y == b && z == c)
  | _ => false
theorem dk_aP {code : ByteArray} {p j : Nat} {l : List UInt8} {a : UInt8} (h : dk_pre l (code.data.toList.drop p) = true) (hc : dk_al (l.drop j) a = true) : dk_a code (p + j) a = true := by
  unfold dk_al at hc
  split at hc
  · rename_i x r e
    obtain ⟨t, ht⟩ := dk_pre_dr h e
    unfold dk_a
    rw [ht]
    exact hc
  · exact absurd hc Bool.false_ne_true
theorem dk_bP {code : ByteArray} {p j : Nat} {l : List UInt8} {a b : UInt8} (h : dk_pre l (code.data.toList.drop p) = true) (hc : dk_bl (l.drop j) a b = true) : dk_b code (p + j) a b = true := by
  unfold dk_bl at hc
  split at hc
  · rename_i x y r e
    obtain ⟨t, ht⟩ := dk_pre_dr h e
    unfold dk_b
    rw [ht]
    exact hc
  · exact absurd hc Bool.false_ne_true
theorem dk_cP {code : ByteArray} {p j : Nat} {l : List UInt8} {a b c : UInt8} (h : dk_pre l (code.data.toList.drop p) = true) (hc : dk_cl (l.drop j) a b c = true) : dk_c code (p + j) a b c = true := by
  unfold dk_cl at hc
  split at hc
  · rename_i x y z r e
    obtain ⟨t, ht⟩ := dk_pre_dr h e
    unfold dk_c
    rw [ht]
    exact hc
  · exact absurd hc Bool.false_ne_true
theorem dk_2 {code : ByteArray} {p : Nat} (h : dk_a code p 2 = true) : decode code p = .ok (.iconst (-1), 1) := dk_fin ((dk_bind (x := Reader.u1) (dk_u1 (dk_a_q h))).trans rfl)
theorem dk_3 {code : ByteArray} {p : Nat} (h : dk_a code p 3 = true) : decode code p = .ok (.iconst 0, 1) := dk_fin ((dk_bind (x := Reader.u1) (dk_u1 (dk_a_q h))).trans rfl)
theorem dk_4 {code : ByteArray} {p : Nat} (h : dk_a code p 4 = true) : decode code p = .ok (.iconst 1, 1) := dk_fin ((dk_bind (x := Reader.u1) (dk_u1 (dk_a_q h))).trans rfl)
theorem dk_5 {code : ByteArray} {p : Nat} (h : dk_a code p 5 = true) : decode code p = .ok (.iconst 2, 1) := dk_fin ((dk_bind (x := Reader.u1) (dk_u1 (dk_a_q h))).trans rfl)
theorem dk_6 {code : ByteArray} {p : Nat} (h : dk_a code p 6 = true) : decode code p = .ok (.iconst 3, 1) := dk_fin ((dk_bind (x := Reader.u1) (dk_u1 (dk_a_q h))).trans rfl)
theorem dk_7 {code : ByteArray} {p : Nat} (h : dk_a code p 7 = true) : decode code p = .ok (.iconst 4, 1) := dk_fin ((dk_bind (x := Reader.u1) (dk_u1 (dk_a_q h))).trans rfl)
theorem dk_8 {code : ByteArray} {p : Nat} (h : dk_a code p 8 = true) : decode code p = .ok (.iconst 5, 1) := dk_fin ((dk_bind (x := Reader.u1) (dk_u1 (dk_a_q h))).trans rfl)
theorem dk_9 {code : ByteArray} {p : Nat} (h : dk_a code p 9 = true) : decode code p = .ok (.lconst 0, 1) := dk_fin ((dk_bind (x := Reader.u1) (dk_u1 (dk_a_q h))).trans rfl)
theorem dk_10 {code : ByteArray} {p : Nat} (h : dk_a code p 10 = true) : decode code p = .ok (.lconst 1, 1) := dk_fin ((dk_bind (x := Reader.u1) (dk_u1 (dk_a_q h))).trans rfl)
theorem dk_15 {code : ByteArray} {p : Nat} (h : dk_a code p 15 = true) : decode code p = .ok (.dconst 1, 1) := dk_fin ((dk_bind (x := Reader.u1) (dk_u1 (dk_a_q h))).trans rfl)
theorem dk_16 {code : ByteArray} {p : Nat} {i : Int} {u : UInt8} (h : dk_b code p 16 u = true) (hi : Reader.signed 8 u.toNat = i) : decode code p = .ok (.bipush i, 2) := by
  obtain ⟨h0, h1⟩ := dk_b_q h
  refine dk_fin ((dk_bind (x := Reader.u1) (dk_u1 h0)).trans ?_)
  show (Reader.s1 >>= fun x => pure (Instr.bipush x) : Decoder Instr) code (p + 1) = _
  refine (dk_bind (dk_s1 h1)).trans ?_
  rw [hi]
  rfl
theorem dk_17 {code : ByteArray} {p : Nat} {i : Int} {u v : UInt8} (h : dk_c code p 17 u v = true) (hi : Reader.signed 16 (u.toNat * 256 + v.toNat) = i) : decode code p = .ok (.sipush i, 3) := by
  obtain ⟨h0, h1, h2⟩ := dk_c_q h
  refine dk_fin ((dk_bind (x := Reader.u1) (dk_u1 h0)).trans ?_)
  show (Reader.s2 >>= fun x => pure (Instr.sipush x) : Decoder Instr) code (p + 1) = _
  refine (dk_bind (dk_s2 h1 h2)).trans ?_
  rw [hi]
  rfl
theorem dk_18 {code : ByteArray} {p : Nat} {i : Nat} {u : UInt8} (h : dk_b code p 18 u = true) (hi : u.toNat = i) : decode code p = .ok (.ldc i, 2) := by
  obtain ⟨h0, h1⟩ := dk_b_q h
  refine dk_fin ((dk_bind (x := Reader.u1) (dk_u1 h0)).trans ?_)
  show (Reader.u1 >>= fun x => pure (Instr.ldc x) : Decoder Instr) code (p + 1) = _
  refine (dk_bind (dk_u1 h1)).trans ?_
  rw [hi]
  rfl
theorem dk_19 {code : ByteArray} {p : Nat} {i : Nat} {u v : UInt8} (h : dk_c code p 19 u v = true) (hi : u.toNat * 256 + v.toNat = i) : decode code p = .ok (.ldc_w i, 3) := by
  obtain ⟨h0, h1, h2⟩ := dk_c_q h
  refine dk_fin ((dk_bind (x := Reader.u1) (dk_u1 h0)).trans ?_)
  show (Reader.u2 >>= fun x => pure (Instr.ldc_w x) : Decoder Instr) code (p + 1) = _
  refine (dk_bind (dk_u2 h1 h2)).trans ?_
  rw [hi]
  rfl
theorem dk_20 {code : ByteArray} {p : Nat} {i : Nat} {u v : UInt8} (h : dk_c code p 20 u v = true) (hi : u.toNat * 256 + v.toNat = i) : decode code p = .ok (.ldc2_w i, 3) := by
  obtain ⟨h0, h1, h2⟩ := dk_c_q h
  refine dk_fin ((dk_bind (x := Reader.u1) (dk_u1 h0)).trans ?_)
  show (Reader.u2 >>= fun x => pure (Instr.ldc2_w x) : Decoder Instr) code (p + 1) = _
  refine (dk_bind (dk_u2 h1 h2)).trans ?_
  rw [hi]
  rfl
theorem dk_21 {code : ByteArray} {p : Nat} {i : Nat} {u : UInt8} (h : dk_b code p 21 u = true) (hi : u.toNat = i) : decode code p = .ok (.iload i, 2) := by
  obtain ⟨h0, h1⟩ := dk_b_q h
  refine dk_fin ((dk_bind (x := Reader.u1) (dk_u1 h0)).trans ?_)
  show (Reader.u1 >>= fun x => pure (Instr.iload x) : Decoder Instr) code (p + 1) = _
  refine (dk_bind (dk_u1 h1)).trans ?_
  rw [hi]
  rfl
theorem dk_22 {code : ByteArray} {p : Nat} {i : Nat} {u : UInt8} (h : dk_b code p 22 u = true) (hi : u.toNat = i) : decode code p = .ok (.lload i, 2) := by
  obtain ⟨h0, h1⟩ := dk_b_q h
  refine dk_fin ((dk_bind (x := Reader.u1) (dk_u1 h0)).trans ?_)
  show (Reader.u1 >>= fun x => pure (Instr.lload x) : Decoder Instr) code (p + 1) = _
  refine (dk_bind (dk_u1 h1)).trans ?_
  rw [hi]
  rfl
theorem dk_24 {code : ByteArray} {p : Nat} {i : Nat} {u : UInt8} (h : dk_b code p 24 u = true) (hi : u.toNat = i) : decode code p = .ok (.dload i, 2) := by
  obtain ⟨h0, h1⟩ := dk_b_q h
  refine dk_fin ((dk_bind (x := Reader.u1) (dk_u1 h0)).trans ?_)
  show (Reader.u1 >>= fun x => pure (Instr.dload x) : Decoder Instr) code (p + 1) = _
  refine (dk_bind (dk_u1 h1)).trans ?_
  rw [hi]
  rfl
theorem dk_26 {code : ByteArray} {p : Nat} (h : dk_a code p 26 = true) : decode code p = .ok (.iload_n 0, 1) := dk_fin ((dk_bind (x := Reader.u1) (dk_u1 (dk_a_q h))).trans rfl)
theorem dk_27 {code : ByteArray} {p : Nat} (h : dk_a code p 27 = true) : decode code p = .ok (.iload_n 1, 1) := dk_fin ((dk_bind (x := Reader.u1) (dk_u1 (dk_a_q h))).trans rfl)
theorem dk_28 {code : ByteArray} {p : Nat} (h : dk_a code p 28 = true) : decode code p = .ok (.iload_n 2, 1) := dk_fin ((dk_bind (x := Reader.u1) (dk_u1 (dk_a_q h))).trans rfl)
theorem dk_29 {code : ByteArray} {p : Nat} (h : dk_a code p 29 = true) : decode code p = .ok (.iload_n 3, 1) := dk_fin ((dk_bind (x := Reader.u1) (dk_u1 (dk_a_q h))).trans rfl)
theorem dk_30 {code : ByteArray} {p : Nat} (h : dk_a code p 30 = true) : decode code p = .ok (.lload_n 0, 1) := dk_fin ((dk_bind (x := Reader.u1) (dk_u1 (dk_a_q h))).trans rfl)
theorem dk_31 {code : ByteArray} {p : Nat} (h : dk_a code p 31 = true) : decode code p = .ok (.lload_n 1, 1) := dk_fin ((dk_bind (x := Reader.u1) (dk_u1 (dk_a_q h))).trans rfl)
theorem dk_32 {code : ByteArray} {p : Nat} (h : dk_a code p 32 = true) : decode code p = .ok (.lload_n 2, 1) := dk_fin ((dk_bind (x := Reader.u1) (dk_u1 (dk_a_q h))).trans rfl)
theorem dk_33 {code : ByteArray} {p : Nat} (h : dk_a code p 33 = true) : decode code p = .ok (.lload_n 3, 1) := dk_fin ((dk_bind (x := Reader.u1) (dk_u1 (dk_a_q h))).trans rfl)
theorem dk_41 {code : ByteArray} {p : Nat} (h : dk_a code p 41 = true) : decode code p = .ok (.dload_n 3, 1) := dk_fin ((dk_bind (x := Reader.u1) (dk_u1 (dk_a_q h))).trans rfl)
theorem dk_42 {code : ByteArray} {p : Nat} (h : dk_a code p 42 = true) : decode code p = .ok (.aload_n 0, 1) := dk_fin ((dk_bind (x := Reader.u1) (dk_u1 (dk_a_q h))).trans rfl)
theorem dk_43 {code : ByteArray} {p : Nat} (h : dk_a code p 43 = true) : decode code p = .ok (.aload_n 1, 1) := dk_fin ((dk_bind (x := Reader.u1) (dk_u1 (dk_a_q h))).trans rfl)
theorem dk_44 {code : ByteArray} {p : Nat} (h : dk_a code p 44 = true) : decode code p = .ok (.aload_n 2, 1) := dk_fin ((dk_bind (x := Reader.u1) (dk_u1 (dk_a_q h))).trans rfl)
theorem dk_45 {code : ByteArray} {p : Nat} (h : dk_a code p 45 = true) : decode code p = .ok (.aload_n 3, 1) := dk_fin ((dk_bind (x := Reader.u1) (dk_u1 (dk_a_q h))).trans rfl)
theorem dk_46 {code : ByteArray} {p : Nat} (h : dk_a code p 46 = true) : decode code p = .ok (.iaload, 1) := dk_fin ((dk_bind (x := Reader.u1) (dk_u1 (dk_a_q h))).trans rfl)
theorem dk_47 {code : ByteArray} {p : Nat} (h : dk_a code p 47 = true) : decode code p = .ok (.laload, 1) := dk_fin ((dk_bind (x := Reader.u1) (dk_u1 (dk_a_q h))).trans rfl)
theorem dk_50 {code : ByteArray} {p : Nat} (h : dk_a code p 50 = true) : decode code p = .ok (.aaload, 1) := dk_fin ((dk_bind (x := Reader.u1) (dk_u1 (dk_a_q h))).trans rfl)
theorem dk_51 {code : ByteArray} {p : Nat} (h : dk_a code p 51 = true) : decode code p = .ok (.baload, 1) := dk_fin ((dk_bind (x := Reader.u1) (dk_u1 (dk_a_q h))).trans rfl)
theorem dk_54 {code : ByteArray} {p : Nat} {i : Nat} {u : UInt8} (h : dk_b code p 54 u = true) (hi : u.toNat = i) : decode code p = .ok (.istore i, 2) := by
  obtain ⟨h0, h1⟩ := dk_b_q h
  refine dk_fin ((dk_bind (x := Reader.u1) (dk_u1 h0)).trans ?_)
  show (Reader.u1 >>= fun x => pure (Instr.istore x) : Decoder Instr) code (p + 1) = _
  refine (dk_bind (dk_u1 h1)).trans ?_
  rw [hi]
  rfl
theorem dk_55 {code : ByteArray} {p : Nat} {i : Nat} {u : UInt8} (h : dk_b code p 55 u = true) (hi : u.toNat = i) : decode code p = .ok (.lstore i, 2) := by
  obtain ⟨h0, h1⟩ := dk_b_q h
  refine dk_fin ((dk_bind (x := Reader.u1) (dk_u1 h0)).trans ?_)
  show (Reader.u1 >>= fun x => pure (Instr.lstore x) : Decoder Instr) code (p + 1) = _
  refine (dk_bind (dk_u1 h1)).trans ?_
  rw [hi]
  rfl
theorem dk_57 {code : ByteArray} {p : Nat} {i : Nat} {u : UInt8} (h : dk_b code p 57 u = true) (hi : u.toNat = i) : decode code p = .ok (.dstore i, 2) := by
  obtain ⟨h0, h1⟩ := dk_b_q h
  refine dk_fin ((dk_bind (x := Reader.u1) (dk_u1 h0)).trans ?_)
  show (Reader.u1 >>= fun x => pure (Instr.dstore x) : Decoder Instr) code (p + 1) = _
  refine (dk_bind (dk_u1 h1)).trans ?_
  rw [hi]
  rfl
theorem dk_60 {code : ByteArray} {p : Nat} (h : dk_a code p 60 = true) : decode code p = .ok (.istore_n 1, 1) := dk_fin ((dk_bind (x := Reader.u1) (dk_u1 (dk_a_q h))).trans rfl)
theorem dk_61 {code : ByteArray} {p : Nat} (h : dk_a code p 61 = true) : decode code p = .ok (.istore_n 2, 1) := dk_fin ((dk_bind (x := Reader.u1) (dk_u1 (dk_a_q h))).trans rfl)
theorem dk_62 {code : ByteArray} {p : Nat} (h : dk_a code p 62 = true) : decode code p = .ok (.istore_n 3, 1) := dk_fin ((dk_bind (x := Reader.u1) (dk_u1 (dk_a_q h))).trans rfl)
theorem dk_64 {code : ByteArray} {p : Nat} (h : dk_a code p 64 = true) : decode code p = .ok (.lstore_n 1, 1) := dk_fin ((dk_bind (x := Reader.u1) (dk_u1 (dk_a_q h))).trans rfl)
theorem dk_65 {code : ByteArray} {p : Nat} (h : dk_a code p 65 = true) : decode code p = .ok (.lstore_n 2, 1) := dk_fin ((dk_bind (x := Reader.u1) (dk_u1 (dk_a_q h))).trans rfl)
theorem dk_66 {code : ByteArray} {p : Nat} (h : dk_a code p 66 = true) : decode code p = .ok (.lstore_n 3, 1) := dk_fin ((dk_bind (x := Reader.u1) (dk_u1 (dk_a_q h))).trans rfl)
theorem dk_74 {code : ByteArray} {p : Nat} (h : dk_a code p 74 = true) : decode code p = .ok (.dstore_n 3, 1) := dk_fin ((dk_bind (x := Reader.u1) (dk_u1 (dk_a_q h))).trans rfl)
theorem dk_76 {code : ByteArray} {p : Nat} (h : dk_a code p 76 = true) : decode code p = .ok (.astore_n 1, 1) := dk_fin ((dk_bind (x := Reader.u1) (dk_u1 (dk_a_q h))).trans rfl)
theorem dk_77 {code : ByteArray} {p : Nat} (h : dk_a code p 77 = true) : decode code p = .ok (.astore_n 2, 1) := dk_fin ((dk_bind (x := Reader.u1) (dk_u1 (dk_a_q h))).trans rfl)
theorem dk_78 {code : ByteArray} {p : Nat} (h : dk_a code p 78 = true) : decode code p = .ok (.astore_n 3, 1) := dk_fin ((dk_bind (x := Reader.u1) (dk_u1 (dk_a_q h))).trans rfl)
theorem dk_79 {code : ByteArray} {p : Nat} (h : dk_a code p 79 = true) : decode code p = .ok (.iastore, 1) := dk_fin ((dk_bind (x := Reader.u1) (dk_u1 (dk_a_q h))).trans rfl)
theorem dk_80 {code : ByteArray} {p : Nat} (h : dk_a code p 80 = true) : decode code p = .ok (.lastore, 1) := dk_fin ((dk_bind (x := Reader.u1) (dk_u1 (dk_a_q h))).trans rfl)
theorem dk_83 {code : ByteArray} {p : Nat} (h : dk_a code p 83 = true) : decode code p = .ok (.aastore, 1) := dk_fin ((dk_bind (x := Reader.u1) (dk_u1 (dk_a_q h))).trans rfl)
theorem dk_84 {code : ByteArray} {p : Nat} (h : dk_a code p 84 = true) : decode code p = .ok (.bastore, 1) := dk_fin ((dk_bind (x := Reader.u1) (dk_u1 (dk_a_q h))).trans rfl)
theorem dk_87 {code : ByteArray} {p : Nat} (h : dk_a code p 87 = true) : decode code p = .ok (.pop, 1) := dk_fin ((dk_bind (x := Reader.u1) (dk_u1 (dk_a_q h))).trans rfl)
theorem dk_89 {code : ByteArray} {p : Nat} (h : dk_a code p 89 = true) : decode code p = .ok (.dup, 1) := dk_fin ((dk_bind (x := Reader.u1) (dk_u1 (dk_a_q h))).trans rfl)
theorem dk_92 {code : ByteArray} {p : Nat} (h : dk_a code p 92 = true) : decode code p = .ok (.dup2, 1) := dk_fin ((dk_bind (x := Reader.u1) (dk_u1 (dk_a_q h))).trans rfl)
theorem dk_96 {code : ByteArray} {p : Nat} (h : dk_a code p 96 = true) : decode code p = .ok (.iadd, 1) := dk_fin ((dk_bind (x := Reader.u1) (dk_u1 (dk_a_q h))).trans rfl)
theorem dk_97 {code : ByteArray} {p : Nat} (h : dk_a code p 97 = true) : decode code p = .ok (.ladd, 1) := dk_fin ((dk_bind (x := Reader.u1) (dk_u1 (dk_a_q h))).trans rfl)
theorem dk_100 {code : ByteArray} {p : Nat} (h : dk_a code p 100 = true) : decode code p = .ok (.isub, 1) := dk_fin ((dk_bind (x := Reader.u1) (dk_u1 (dk_a_q h))).trans rfl)
theorem dk_101 {code : ByteArray} {p : Nat} (h : dk_a code p 101 = true) : decode code p = .ok (.lsub, 1) := dk_fin ((dk_bind (x := Reader.u1) (dk_u1 (dk_a_q h))).trans rfl)
theorem dk_104 {code : ByteArray} {p : Nat} (h : dk_a code p 104 = true) : decode code p = .ok (.imul, 1) := dk_fin ((dk_bind (x := Reader.u1) (dk_u1 (dk_a_q h))).trans rfl)
theorem dk_105 {code : ByteArray} {p : Nat} (h : dk_a code p 105 = true) : decode code p = .ok (.lmul, 1) := dk_fin ((dk_bind (x := Reader.u1) (dk_u1 (dk_a_q h))).trans rfl)
theorem dk_107 {code : ByteArray} {p : Nat} (h : dk_a code p 107 = true) : decode code p = .ok (.dmul, 1) := dk_fin ((dk_bind (x := Reader.u1) (dk_u1 (dk_a_q h))).trans rfl)
theorem dk_108 {code : ByteArray} {p : Nat} (h : dk_a code p 108 = true) : decode code p = .ok (.idiv, 1) := dk_fin ((dk_bind (x := Reader.u1) (dk_u1 (dk_a_q h))).trans rfl)
theorem dk_109 {code : ByteArray} {p : Nat} (h : dk_a code p 109 = true) : decode code p = .ok (.ldiv, 1) := dk_fin ((dk_bind (x := Reader.u1) (dk_u1 (dk_a_q h))).trans rfl)
theorem dk_111 {code : ByteArray} {p : Nat} (h : dk_a code p 111 = true) : decode code p = .ok (.ddiv, 1) := dk_fin ((dk_bind (x := Reader.u1) (dk_u1 (dk_a_q h))).trans rfl)
theorem dk_112 {code : ByteArray} {p : Nat} (h : dk_a code p 112 = true) : decode code p = .ok (.irem, 1) := dk_fin ((dk_bind (x := Reader.u1) (dk_u1 (dk_a_q h))).trans rfl)
theorem dk_113 {code : ByteArray} {p : Nat} (h : dk_a code p 113 = true) : decode code p = .ok (.lrem, 1) := dk_fin ((dk_bind (x := Reader.u1) (dk_u1 (dk_a_q h))).trans rfl)
theorem dk_116 {code : ByteArray} {p : Nat} (h : dk_a code p 116 = true) : decode code p = .ok (.ineg, 1) := dk_fin ((dk_bind (x := Reader.u1) (dk_u1 (dk_a_q h))).trans rfl)
theorem dk_117 {code : ByteArray} {p : Nat} (h : dk_a code p 117 = true) : decode code p = .ok (.lneg, 1) := dk_fin ((dk_bind (x := Reader.u1) (dk_u1 (dk_a_q h))).trans rfl)
theorem dk_121 {code : ByteArray} {p : Nat} (h : dk_a code p 121 = true) : decode code p = .ok (.lshl, 1) := dk_fin ((dk_bind (x := Reader.u1) (dk_u1 (dk_a_q h))).trans rfl)
theorem dk_122 {code : ByteArray} {p : Nat} (h : dk_a code p 122 = true) : decode code p = .ok (.ishr, 1) := dk_fin ((dk_bind (x := Reader.u1) (dk_u1 (dk_a_q h))).trans rfl)
theorem dk_124 {code : ByteArray} {p : Nat} (h : dk_a code p 124 = true) : decode code p = .ok (.iushr, 1) := dk_fin ((dk_bind (x := Reader.u1) (dk_u1 (dk_a_q h))).trans rfl)
theorem dk_125 {code : ByteArray} {p : Nat} (h : dk_a code p 125 = true) : decode code p = .ok (.lushr, 1) := dk_fin ((dk_bind (x := Reader.u1) (dk_u1 (dk_a_q h))).trans rfl)
theorem dk_126 {code : ByteArray} {p : Nat} (h : dk_a code p 126 = true) : decode code p = .ok (.iand, 1) := dk_fin ((dk_bind (x := Reader.u1) (dk_u1 (dk_a_q h))).trans rfl)
theorem dk_127 {code : ByteArray} {p : Nat} (h : dk_a code p 127 = true) : decode code p = .ok (.land, 1) := dk_fin ((dk_bind (x := Reader.u1) (dk_u1 (dk_a_q h))).trans rfl)
theorem dk_129 {code : ByteArray} {p : Nat} (h : dk_a code p 129 = true) : decode code p = .ok (.lor, 1) := dk_fin ((dk_bind (x := Reader.u1) (dk_u1 (dk_a_q h))).trans rfl)
theorem dk_132 {code : ByteArray} {p i : Nat} {j : Int} {u v : UInt8} (h : dk_c code p 132 u v = true) (hi : u.toNat = i) (hj : Reader.signed 8 v.toNat = j) : decode code p = .ok (.iinc i j, 3) := by
  obtain ⟨h0, h1, h2⟩ := dk_c_q h
  refine dk_fin ((dk_bind (x := Reader.u1) (dk_u1 h0)).trans ?_)
  show (Reader.u1 >>= fun x => Reader.s1 >>= fun y => pure (Instr.iinc x y) : Decoder Instr) code (p + 1) = _
  refine (dk_bind (dk_u1 h1)).trans ((dk_bind (dk_s1 h2)).trans ?_)
  rw [hi, hj]
  rfl
theorem dk_133 {code : ByteArray} {p : Nat} (h : dk_a code p 133 = true) : decode code p = .ok (.i2l, 1) := dk_fin ((dk_bind (x := Reader.u1) (dk_u1 (dk_a_q h))).trans rfl)
theorem dk_136 {code : ByteArray} {p : Nat} (h : dk_a code p 136 = true) : decode code p = .ok (.l2i, 1) := dk_fin ((dk_bind (x := Reader.u1) (dk_u1 (dk_a_q h))).trans rfl)
theorem dk_138 {code : ByteArray} {p : Nat} (h : dk_a code p 138 = true) : decode code p = .ok (.l2d, 1) := dk_fin ((dk_bind (x := Reader.u1) (dk_u1 (dk_a_q h))).trans rfl)
theorem dk_145 {code : ByteArray} {p : Nat} (h : dk_a code p 145 = true) : decode code p = .ok (.i2b, 1) := dk_fin ((dk_bind (x := Reader.u1) (dk_u1 (dk_a_q h))).trans rfl)
theorem dk_148 {code : ByteArray} {p : Nat} (h : dk_a code p 148 = true) : decode code p = .ok (.lcmp, 1) := dk_fin ((dk_bind (x := Reader.u1) (dk_u1 (dk_a_q h))).trans rfl)
theorem dk_151 {code : ByteArray} {p : Nat} (h : dk_a code p 151 = true) : decode code p = .ok (.dcmp .l, 1) := dk_fin ((dk_bind (x := Reader.u1) (dk_u1 (dk_a_q h))).trans rfl)
theorem dk_152 {code : ByteArray} {p : Nat} (h : dk_a code p 152 = true) : decode code p = .ok (.dcmp .g, 1) := dk_fin ((dk_bind (x := Reader.u1) (dk_u1 (dk_a_q h))).trans rfl)
theorem dk_153 {code : ByteArray} {p : Nat} {i : Int} {u v : UInt8} (h : dk_c code p 153 u v = true) (hi : Reader.signed 16 (u.toNat * 256 + v.toNat) = i) : decode code p = .ok (.ifCond .eq i, 3) := by
  obtain ⟨h0, h1, h2⟩ := dk_c_q h
  refine dk_fin ((dk_bind (x := Reader.u1) (dk_u1 h0)).trans ?_)
  show (Reader.s2 >>= fun x => pure (Instr.ifCond .eq x) : Decoder Instr) code (p + 1) = _
  refine (dk_bind (dk_s2 h1 h2)).trans ?_
  rw [hi]
  rfl
theorem dk_154 {code : ByteArray} {p : Nat} {i : Int} {u v : UInt8} (h : dk_c code p 154 u v = true) (hi : Reader.signed 16 (u.toNat * 256 + v.toNat) = i) : decode code p = .ok (.ifCond .ne i, 3) := by
  obtain ⟨h0, h1, h2⟩ := dk_c_q h
  refine dk_fin ((dk_bind (x := Reader.u1) (dk_u1 h0)).trans ?_)
  show (Reader.s2 >>= fun x => pure (Instr.ifCond .ne x) : Decoder Instr) code (p + 1) = _
  refine (dk_bind (dk_s2 h1 h2)).trans ?_
  rw [hi]
  rfl
theorem dk_155 {code : ByteArray} {p : Nat} {i : Int} {u v : UInt8} (h : dk_c code p 155 u v = true) (hi : Reader.signed 16 (u.toNat * 256 + v.toNat) = i) : decode code p = .ok (.ifCond .lt i, 3) := by
  obtain ⟨h0, h1, h2⟩ := dk_c_q h
  refine dk_fin ((dk_bind (x := Reader.u1) (dk_u1 h0)).trans ?_)
  show (Reader.s2 >>= fun x => pure (Instr.ifCond .lt x) : Decoder Instr) code (p + 1) = _
  refine (dk_bind (dk_s2 h1 h2)).trans ?_
  rw [hi]
  rfl
theorem dk_156 {code : ByteArray} {p : Nat} {i : Int} {u v : UInt8} (h : dk_c code p 156 u v = true) (hi : Reader.signed 16 (u.toNat * 256 + v.toNat) = i) : decode code p = .ok (.ifCond .ge i, 3) := by
  obtain ⟨h0, h1, h2⟩ := dk_c_q h
  refine dk_fin ((dk_bind (x := Reader.u1) (dk_u1 h0)).trans ?_)
  show (Reader.s2 >>= fun x => pure (Instr.ifCond .ge x) : Decoder Instr) code (p + 1) = _
  refine (dk_bind (dk_s2 h1 h2)).trans ?_
  rw [hi]
  rfl
theorem dk_157 {code : ByteArray} {p : Nat} {i : Int} {u v : UInt8} (h : dk_c code p 157 u v = true) (hi : Reader.signed 16 (u.toNat * 256 + v.toNat) = i) : decode code p = .ok (.ifCond .gt i, 3) := by
  obtain ⟨h0, h1, h2⟩ := dk_c_q h
  refine dk_fin ((dk_bind (x := Reader.u1) (dk_u1 h0)).trans ?_)
  show (Reader.s2 >>= fun x => pure (Instr.ifCond .gt x) : Decoder Instr) code (p + 1) = _
  refine (dk_bind (dk_s2 h1 h2)).trans ?_
  rw [hi]
  rfl
theorem dk_158 {code : ByteArray} {p : Nat} {i : Int} {u v : UInt8} (h : dk_c code p 158 u v = true) (hi : Reader.signed 16 (u.toNat * 256 + v.toNat) = i) : decode code p = .ok (.ifCond .le i, 3) := by
  obtain ⟨h0, h1, h2⟩ := dk_c_q h
  refine dk_fin ((dk_bind (x := Reader.u1) (dk_u1 h0)).trans ?_)
  show (Reader.s2 >>= fun x => pure (Instr.ifCond .le x) : Decoder Instr) code (p + 1) = _
  refine (dk_bind (dk_s2 h1 h2)).trans ?_
  rw [hi]
  rfl
theorem dk_159 {code : ByteArray} {p : Nat} {i : Int} {u v : UInt8} (h : dk_c code p 159 u v = true) (hi : Reader.signed 16 (u.toNat * 256 + v.toNat) = i) : decode code p = .ok (.if_icmp .eq i, 3) := by
  obtain ⟨h0, h1, h2⟩ := dk_c_q h
  refine dk_fin ((dk_bind (x := Reader.u1) (dk_u1 h0)).trans ?_)
  show (Reader.s2 >>= fun x => pure (Instr.if_icmp .eq x) : Decoder Instr) code (p + 1) = _
  refine (dk_bind (dk_s2 h1 h2)).trans ?_
  rw [hi]
  rfl
theorem dk_160 {code : ByteArray} {p : Nat} {i : Int} {u v : UInt8} (h : dk_c code p 160 u v = true) (hi : Reader.signed 16 (u.toNat * 256 + v.toNat) = i) : decode code p = .ok (.if_icmp .ne i, 3) := by
  obtain ⟨h0, h1, h2⟩ := dk_c_q h
  refine dk_fin ((dk_bind (x := Reader.u1) (dk_u1 h0)).trans ?_)
  show (Reader.s2 >>= fun x => pure (Instr.if_icmp .ne x) : Decoder Instr) code (p + 1) = _
  refine (dk_bind (dk_s2 h1 h2)).trans ?_
  rw [hi]
  rfl
theorem dk_161 {code : ByteArray} {p : Nat} {i : Int} {u v : UInt8} (h : dk_c code p 161 u v = true) (hi : Reader.signed 16 (u.toNat * 256 + v.toNat) = i) : decode code p = .ok (.if_icmp .lt i, 3) := by
  obtain ⟨h0, h1, h2⟩ := dk_c_q h
  refine dk_fin ((dk_bind (x := Reader.u1) (dk_u1 h0)).trans ?_)
  show (Reader.s2 >>= fun x => pure (Instr.if_icmp .lt x) : Decoder Instr) code (p + 1) = _
  refine (dk_bind (dk_s2 h1 h2)).trans ?_
  rw [hi]
  rfl
theorem dk_162 {code : ByteArray} {p : Nat} {i : Int} {u v : UInt8} (h : dk_c code p 162 u v = true) (hi : Reader.signed 16 (u.toNat * 256 + v.toNat) = i) : decode code p = .ok (.if_icmp .ge i, 3) := by
  obtain ⟨h0, h1, h2⟩ := dk_c_q h
  refine dk_fin ((dk_bind (x := Reader.u1) (dk_u1 h0)).trans ?_)
  show (Reader.s2 >>= fun x => pure (Instr.if_icmp .ge x) : Decoder Instr) code (p + 1) = _
  refine (dk_bind (dk_s2 h1 h2)).trans ?_
  rw [hi]
  rfl
theorem dk_163 {code : ByteArray} {p : Nat} {i : Int} {u v : UInt8} (h : dk_c code p 163 u v = true) (hi : Reader.signed 16 (u.toNat * 256 + v.toNat) = i) : decode code p = .ok (.if_icmp .gt i, 3) := by
  obtain ⟨h0, h1, h2⟩ := dk_c_q h
  refine dk_fin ((dk_bind (x := Reader.u1) (dk_u1 h0)).trans ?_)
  show (Reader.s2 >>= fun x => pure (Instr.if_icmp .gt x) : Decoder Instr) code (p + 1) = _
  refine (dk_bind (dk_s2 h1 h2)).trans ?_
  rw [hi]
  rfl
theorem dk_164 {code : ByteArray} {p : Nat} {i : Int} {u v : UInt8} (h : dk_c code p 164 u v = true) (hi : Reader.signed 16 (u.toNat * 256 + v.toNat) = i) : decode code p = .ok (.if_icmp .le i, 3) := by
  obtain ⟨h0, h1, h2⟩ := dk_c_q h
  refine dk_fin ((dk_bind (x := Reader.u1) (dk_u1 h0)).trans ?_)
  show (Reader.s2 >>= fun x => pure (Instr.if_icmp .le x) : Decoder Instr) code (p + 1) = _
  refine (dk_bind (dk_s2 h1 h2)).trans ?_
  rw [hi]
  rfl
theorem dk_167 {code : ByteArray} {p : Nat} {i : Int} {u v : UInt8} (h : dk_c code p 167 u v = true) (hi : Reader.signed 16 (u.toNat * 256 + v.toNat) = i) : decode code p = .ok (.goto i, 3) := by
  obtain ⟨h0, h1, h2⟩ := dk_c_q h
  refine dk_fin ((dk_bind (x := Reader.u1) (dk_u1 h0)).trans ?_)
  show (Reader.s2 >>= fun x => pure (Instr.goto x) : Decoder Instr) code (p + 1) = _
  refine (dk_bind (dk_s2 h1 h2)).trans ?_
  rw [hi]
  rfl
theorem dk_172 {code : ByteArray} {p : Nat} (h : dk_a code p 172 = true) : decode code p = .ok (.ireturn, 1) := dk_fin ((dk_bind (x := Reader.u1) (dk_u1 (dk_a_q h))).trans rfl)
theorem dk_173 {code : ByteArray} {p : Nat} (h : dk_a code p 173 = true) : decode code p = .ok (.lreturn, 1) := dk_fin ((dk_bind (x := Reader.u1) (dk_u1 (dk_a_q h))).trans rfl)
theorem dk_175 {code : ByteArray} {p : Nat} (h : dk_a code p 175 = true) : decode code p = .ok (.dreturn, 1) := dk_fin ((dk_bind (x := Reader.u1) (dk_u1 (dk_a_q h))).trans rfl)
theorem dk_177 {code : ByteArray} {p : Nat} (h : dk_a code p 177 = true) : decode code p = .ok (.return_, 1) := dk_fin ((dk_bind (x := Reader.u1) (dk_u1 (dk_a_q h))).trans rfl)
theorem dk_180 {code : ByteArray} {p : Nat} {i : Nat} {u v : UInt8} (h : dk_c code p 180 u v = true) (hi : u.toNat * 256 + v.toNat = i) : decode code p = .ok (.getfield i, 3) := by
  obtain ⟨h0, h1, h2⟩ := dk_c_q h
  refine dk_fin ((dk_bind (x := Reader.u1) (dk_u1 h0)).trans ?_)
  show (Reader.u2 >>= fun x => pure (Instr.getfield x) : Decoder Instr) code (p + 1) = _
  refine (dk_bind (dk_u2 h1 h2)).trans ?_
  rw [hi]
  rfl
theorem dk_181 {code : ByteArray} {p : Nat} {i : Nat} {u v : UInt8} (h : dk_c code p 181 u v = true) (hi : u.toNat * 256 + v.toNat = i) : decode code p = .ok (.putfield i, 3) := by
  obtain ⟨h0, h1, h2⟩ := dk_c_q h
  refine dk_fin ((dk_bind (x := Reader.u1) (dk_u1 h0)).trans ?_)
  show (Reader.u2 >>= fun x => pure (Instr.putfield x) : Decoder Instr) code (p + 1) = _
  refine (dk_bind (dk_u2 h1 h2)).trans ?_
  rw [hi]
  rfl
theorem dk_182 {code : ByteArray} {p : Nat} {i : Nat} {u v : UInt8} (h : dk_c code p 182 u v = true) (hi : u.toNat * 256 + v.toNat = i) : decode code p = .ok (.invokevirtual i, 3) := by
  obtain ⟨h0, h1, h2⟩ := dk_c_q h
  refine dk_fin ((dk_bind (x := Reader.u1) (dk_u1 h0)).trans ?_)
  show (Reader.u2 >>= fun x => pure (Instr.invokevirtual x) : Decoder Instr) code (p + 1) = _
  refine (dk_bind (dk_u2 h1 h2)).trans ?_
  rw [hi]
  rfl
theorem dk_183 {code : ByteArray} {p : Nat} {i : Nat} {u v : UInt8} (h : dk_c code p 183 u v = true) (hi : u.toNat * 256 + v.toNat = i) : decode code p = .ok (.invokespecial i, 3) := by
  obtain ⟨h0, h1, h2⟩ := dk_c_q h
  refine dk_fin ((dk_bind (x := Reader.u1) (dk_u1 h0)).trans ?_)
  show (Reader.u2 >>= fun x => pure (Instr.invokespecial x) : Decoder Instr) code (p + 1) = _
  refine (dk_bind (dk_u2 h1 h2)).trans ?_
  rw [hi]
  rfl
theorem dk_184 {code : ByteArray} {p : Nat} {i : Nat} {u v : UInt8} (h : dk_c code p 184 u v = true) (hi : u.toNat * 256 + v.toNat = i) : decode code p = .ok (.invokestatic i, 3) := by
  obtain ⟨h0, h1, h2⟩ := dk_c_q h
  refine dk_fin ((dk_bind (x := Reader.u1) (dk_u1 h0)).trans ?_)
  show (Reader.u2 >>= fun x => pure (Instr.invokestatic x) : Decoder Instr) code (p + 1) = _
  refine (dk_bind (dk_u2 h1 h2)).trans ?_
  rw [hi]
  rfl
theorem dk_187 {code : ByteArray} {p : Nat} {i : Nat} {u v : UInt8} (h : dk_c code p 187 u v = true) (hi : u.toNat * 256 + v.toNat = i) : decode code p = .ok (.new i, 3) := by
  obtain ⟨h0, h1, h2⟩ := dk_c_q h
  refine dk_fin ((dk_bind (x := Reader.u1) (dk_u1 h0)).trans ?_)
  show (Reader.u2 >>= fun x => pure (Instr.new x) : Decoder Instr) code (p + 1) = _
  refine (dk_bind (dk_u2 h1 h2)).trans ?_
  rw [hi]
  rfl
theorem dk_189 {code : ByteArray} {p : Nat} {i : Nat} {u v : UInt8} (h : dk_c code p 189 u v = true) (hi : u.toNat * 256 + v.toNat = i) : decode code p = .ok (.anewarray i, 3) := by
  obtain ⟨h0, h1, h2⟩ := dk_c_q h
  refine dk_fin ((dk_bind (x := Reader.u1) (dk_u1 h0)).trans ?_)
  show (Reader.u2 >>= fun x => pure (Instr.anewarray x) : Decoder Instr) code (p + 1) = _
  refine (dk_bind (dk_u2 h1 h2)).trans ?_
  rw [hi]
  rfl
theorem dk_190 {code : ByteArray} {p : Nat} (h : dk_a code p 190 = true) : decode code p = .ok (.arraylength, 1) := dk_fin ((dk_bind (x := Reader.u1) (dk_u1 (dk_a_q h))).trans rfl)
