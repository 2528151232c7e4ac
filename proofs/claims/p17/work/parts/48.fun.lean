/-! WHAT A METHOD DOES, AS A PURE FUNCTION: names for values (pf_let), calls (pf_call), loops (pf_val: the end of an iteration, if there is one) -/
def pf_let {A B : Type} (x : A) (f : A → B) : B := f x
def pf_call {B : Type} (p : Int × pm_M) (f : Int → pm_M → B) : B := f p.1 p.2
theorem pf_let_eq {A B : Type} {x y : A} {f : A → B} (h : x = y) : pf_let x f = f y := by rw [h]; rfl
theorem pf_call_eq {B : Type} {p : Int × pm_M} {y : Int} {V : pm_M} {f : Int → pm_M → B} (h : p = (y, V)) : pf_call p f = f y V := by rw [h]; rfl
def pf_run {S O : Type} (b : S → S ⊕ O) : Nat → S → Option O
  | 0, _ => none
  | k + 1, s => match b s with
    | .inl s1 => pf_run b k s1
    | .inr o => some o
noncomputable def pf_val {S O : Type} (d : O) (b : S → S ⊕ O) (s : S) : O := @dite O (∃ o, ∃ k, pf_run b k s = some o) (Classical.propDecidable _) (fun h => Classical.choose h) (fun _ => d)
theorem pf_run_mono {S O : Type} {b : S → S ⊕ O} : ∀ (k : Nat) (s : S) (o : O), pf_run b k s = some o → ∀ j, pf_run b (k + j) s = some o := by
  intro k
  induction k with
  | zero => intro s o h; exact absurd h (by simp [pf_run])
  | succ k ih =>
    intro s o h j
    rw [show k + 1 + j = (k + j) + 1 by omega]
    show (match b s with | .inl s1 => pf_run b (k + j) s1 | .inr o => some o) = some o
    have h2 : (match b s with | .inl s1 => pf_run b k s1 | .inr o => some o) = some o := h
    cases e : b s with
    | inl s1 => rw [e] at h2; exact ih s1 o h2 j
    | inr o1 => rw [e] at h2; exact h2
theorem pf_val_of {S O : Type} {d : O} {b : S → S ⊕ O} {s : S} {o : O} (h : ∃ k, pf_run b k s = some o) : pf_val d b s = o := by
  have h0 : ∃ o, ∃ k, pf_run b k s = some o := ⟨o, h⟩
  unfold pf_val
  rw [dif_pos h0]
  obtain ⟨k1, h1⟩ := Classical.choose_spec h0
  obtain ⟨k2, h2⟩ := h
  have e1 := pf_run_mono k1 s _ h1 k2
  have e2 := pf_run_mono k2 s _ h2 k1
  rw [Nat.add_comm, e2] at e1
  cases e1
  rfl
theorem pf_val_inr {S O : Type} {d : O} {b : S → S ⊕ O} {s : S} {o : O} (h : b s = .inr o) : pf_val d b s = o := pf_val_of ⟨1, by show (match b s with | .inl s1 => pf_run b 0 s1 | .inr o => some o) = some o; rw [h]⟩
theorem pf_val_inl {S O : Type} {d : O} {b : S → S ⊕ O} {s s1 : S} (h : b s = .inl s1) : pf_val d b s = pf_val d b s1 := by
  have hs : ∀ k, pf_run b (k + 1) s = pf_run b k s1 := fun k => by
    show (match b s with | .inl s1 => pf_run b k s1 | .inr o => some o) = _
    rw [h]
  by_cases hx : ∃ o, ∃ k, pf_run b k s1 = some o
  · obtain ⟨o, k, hk⟩ := hx
    rw [pf_val_of (o := o) ⟨k, hk⟩, pf_val_of (o := o) ⟨k + 1, by rw [hs]; exact hk⟩]
  · have hy : ¬ ∃ o, ∃ k, pf_run b k s = some o := by
      rintro ⟨o, k, hk⟩
      cases k with
      | zero => exact absurd hk (by simp [pf_run])
      | succ k => exact hx ⟨o, k, by rw [← hs]; exact hk⟩
    unfold pf_val
    rw [dif_neg hx, dif_neg hy]
/-- a loop that a measure ends: from a state with P it comes to an end with Q -/
theorem pf_val_ind {S O : Type} {d : O} {b : S → S ⊕ O} (P : S → Prop) (Q : O → Prop) (mu : S → Nat) (hl : ∀ s s1, P s → b s = .inl s1 → P s1 ∧ mu s1 < mu s) (hr : ∀ s o, P s → b s = .inr o → Q o) : ∀ s, P s → Q (pf_val d b s) := by
  have key : ∀ (n : Nat) (s : S), mu s = n → P s → Q (pf_val d b s) := by
    intro n
    induction n using Nat.strongRecOn with
    | _ n ih =>
      intro s hn hP
      cases e : b s with
      | inl s1 =>
        rw [pf_val_inl e]
        obtain ⟨h1, h2⟩ := hl s s1 hP e
        exact ih (mu s1) (by omega) s1 rfl h1
      | inr o =>
        rw [pf_val_inr e]
        exact hr s o hP e
  exact fun s => key (mu s) s rfl
/-- a loop's body behind a name -/
theorem pf_loop {S O : Type} {R d : O} {b : S → S ⊕ O} {s : S} (h : R = pf_val d b s) : ∃ b', b' = b ∧ R = pf_val d b' s := ⟨b, rfl, h⟩
/-- numbers brought into the range of an int, a long -/
def pm_w32 (x : Int) : Int := (Int32.ofInt x).toInt
def pm_w64 (x : Int) : Int := (Int64.ofInt x).toInt
theorem pm_w32_id {x : Int} (h : pm_R x) : pm_w32 x = x := pm_toInt h
theorem pm_w64_id {x : Int} (h : pm_RL x) : pm_w64 x = x := pm_toIntL h
section PWR
variable {X : pm_X} {own : String} {cc : ByteArray} {nL d : Nat} {pc : Nat} {lv : pm_L} {st : List pm_V} {n : Nat} {V : pm_M}
theorem pm_wr (hC : pm_C X own cc nL d) {x : Int} (k : ∀ y : Int, pm_w32 x = y → pm_R y → pm_J X pc lv ((0, y) :: st) n V) : pm_J X pc lv ((0, x) :: st) n V :=
  pm_as hC (Int32.ofInt_toInt _).symm (k _ rfl (pm_i32r _))
theorem pm_wrL (hC : pm_C X own cc nL d) {x : Int} (k : ∀ y : Int, pm_w64 x = y → pm_RL y → pm_J X pc lv ((1, y) :: st) n V) : pm_J X pc lv ((1, x) :: st) n V :=
  pm_asL hC (Int64.ofInt_toInt _).symm (k _ rfl (pm_i64r _))
end PWR
theorem pm_cmp_u {x y r : Int} (h : (r = 1 ∧ y < x) ∨ (r = 0 ∧ x = y) ∨ (r = -1 ∧ x < y)) : pm_cmp x y = r := by
  unfold pm_cmp
  rcases h with ⟨h1, h2⟩ | ⟨h1, h2⟩ | ⟨h1, h2⟩
  · rw [if_pos h2, h1]
  · rw [if_neg (by omega), if_pos h2, h1]
  · rw [if_neg (by omega), if_neg (by omega), h1]
theorem pm_cmp_eq0 {x y : Int} : pm_cmp x y = 0 ↔ x = y := by
  rcases pm_cmp_s x y with h | h | h <;> omega
theorem pm_cmp_le0 {x y : Int} : pm_cmp x y ≤ 0 ↔ x ≤ y := by
  rcases pm_cmp_s x y with h | h | h <;> omega
theorem pm_cmp_lt0 {x y : Int} : pm_cmp x y < 0 ↔ x < y := by
  rcases pm_cmp_s x y with h | h | h <;> omega
theorem pm_cmp_ge0 {x y : Int} : 0 ≤ pm_cmp x y ↔ y ≤ x := by
  rcases pm_cmp_s x y with h | h | h <;> omega
theorem pm_cmp_gt0 {x y : Int} : 0 < pm_cmp x y ↔ y < x := by
  rcases pm_cmp_s x y with h | h | h <;> omega
/-- a literal's letters in one number -/
def pm_pkc (q : Nat) : Nat → Int
  | 0 => 0
  | i + 1 => pm_lorV (pm_lshlV (pm_pkc q i) 8) (pm_chr q i)
def pm_pk (q : Nat) : Int := pm_pkc q (pm_len.getD q 0)
theorem pm_pkc_r (q i : Nat) : -9223372036854775808 ≤ pm_pkc q i ∧ pm_pkc q i ≤ 9223372036854775807 := by
  cases i with
  | zero => exact (by decide : (-9223372036854775808 : Int) ≤ 0 ∧ (0 : Int) ≤ 9223372036854775807)
  | succ i => exact pm_lorr _ _
theorem pm_pk_r (q : Nat) : -9223372036854775808 ≤ pm_pk q ∧ pm_pk q ≤ 9223372036854775807 := pm_pkc_r _ _
theorem c_packed {a : Int} (ha : 0 ≤ a ∧ a ≤ 17) : pm_SP 4 yX12_packed cX12_packed 4 (some .long) (fun av => av = [(4, a)]) (fun _ r => r = some (1, pm_pk a.toNat)) := by
  obtain ⟨q, hq, rfl⟩ : ∃ q : Nat, q < 18 ∧ a = (q : Int) := ⟨a.toNat, by omega, by omega⟩
  rw [Int.toNat_natCast]
  refine pm_MT.of (by decide) ⟨Nat.le_refl _, by decide⟩ (fun av V h => by rw [h]; exact (by decide : pm_words [(4, 0)] ≤ 4)) ?_
  rintro X av V0 hC - hR rfl
  change pm_J X 0 [(0, (4, (q : Int)))] [] 118 V0
  have hlen := pm_len_ok q hq
  refine pm_lconst (x := 0) hC dX12_packed_0 rfl ?_
  refine pm_lstore_n (lv' := [(1, (1, 0)), (0, (4, (q : Int)))]) hC dX12_packed_1 (by decide) rfl ?_
  refine pm_iconst (v := 0) hC dX12_packed_2 ?_
  refine pm_istore_n (lv' := [(3, (0, 0)), (1, (1, 0)), (0, (4, (q : Int)))]) hC dX12_packed_3 (by decide) rfl ?_
  have key : ∀ (N i : Nat), i ≤ pm_len.getD q 0 → pm_len.getD q 0 - i = N → pm_J X 4 [(3, (0, (i : Int))), (1, (1, pm_pkc q i)), (0, (4, (q : Int)))] [] 118 V0 := by
    intro N
    induction N with
    | zero =>
      intro i h1 h2
      have hi : i = pm_len.getD q 0 := by omega
      refine pm_iload_n hC 0 dX12_packed_4 rfl ?_
      refine pm_aloadS hC 2 (by decide) dX12_packed_5 rfl ?_
      refine pm_callStr (as := []) (st := [(0, (i : Int))]) hC hq (c_Slen hq) lm_M131 li_Slen (by decide) (by decide) rfl rfl (Nat.le_of_ble_eq_true rfl) ⟨Nat.le_refl _, Or.inl rfl⟩ dX12_packed_6 rfl (fun r V hp => ?_)
      obtain ⟨rfl, rfl⟩ := hp
      refine pm_icmp_ge (x := (i : Int)) (y := ((pm_len.getD q 0 : Nat) : Int)) (tgt := 30) hC ⟨by omega, by omega⟩ ⟨by omega, by omega⟩ dX12_packed_9 (by decide) (fun c => ?_) (fun c => by exfalso; omega)
      refine pm_lload_n hC 1 dX12_packed_30 rfl ?_
      exact pm_lret hC hR ⟨by rw [hi]; rfl, rfl⟩ dX12_packed_31
    | succ N ih =>
      intro i h1 h2
      refine pm_iload_n hC 0 dX12_packed_4 rfl ?_
      refine pm_aloadS hC 2 (by decide) dX12_packed_5 rfl ?_
      refine pm_callStr (as := []) (st := [(0, (i : Int))]) hC hq (c_Slen hq) lm_M131 li_Slen (by decide) (by decide) rfl rfl (Nat.le_of_ble_eq_true rfl) ⟨Nat.le_refl _, Or.inl rfl⟩ dX12_packed_6 rfl (fun r V hp => ?_)
      obtain ⟨rfl, rfl⟩ := hp
      refine pm_icmp_ge (x := (i : Int)) (y := ((pm_len.getD q 0 : Nat) : Int)) (tgt := 30) hC ⟨by omega, by omega⟩ ⟨by omega, by omega⟩ dX12_packed_9 (by decide) (fun c => by exfalso; omega) (fun c => ?_)
      refine pm_lload_n hC 1 dX12_packed_12 rfl ?_
      refine pm_bipush (v := 8) hC dX12_packed_13 (by decide) ?_
      refine pm_lshl hC dX12_packed_15 ?_
      refine pm_aloadS hC 2 (by decide) dX12_packed_16 rfl ?_
      refine pm_iload_n hC 0 dX12_packed_17 rfl ?_
      refine pm_callStr (as := [(0, (i : Int))]) (st := [(1, pm_lshlV (pm_pkc q i) 8)]) hC hq (c_Schar (i := (i : Int)) hq ⟨by omega, by omega⟩) lm_M137 li_Schar (by decide) (by decide) rfl rfl (Nat.le_of_ble_eq_true rfl) ⟨Nat.le_refl _, Or.inl rfl⟩ dX12_packed_18 rfl (fun r V hp => ?_)
      obtain ⟨rfl, rfl⟩ := hp
      rw [Int.toNat_natCast]
      have hb := pm_byt_ok q hq i (by omega)
      have hb2 : 97 ≤ pm_chr q i ∧ pm_chr q i ≤ 122 := hb
      refine pm_i2l hC ⟨by omega, by omega⟩ dX12_packed_21 ?_
      refine pm_lor hC dX12_packed_22 ?_
      refine pm_lstore_n (lv' := [(1, (1, pm_pkc q (i + 1))), (3, (0, (i : Int))), (0, (4, (q : Int)))]) hC dX12_packed_23 (by decide) rfl ?_
      refine pm_iinc (y := ((i + 1 : Nat) : Int)) (lv' := [(3, (0, ((i + 1 : Nat) : Int))), (1, (1, pm_pkc q (i + 1))), (0, (4, (q : Int)))]) hC 1 dX12_packed_24 (by decide) rfl (by omega) rfl ?_
      refine pm_goto (tgt := 4) hC dX12_packed_27 (by decide) ?_
      exact ih (i + 1) (by omega) (by omega)
  exact key _ 0 (Nat.zero_le _) rfl
