/-! TOKENS, FOR THEMSELVES -/
theorem pm_up_f {V : pm_M} {k i k1 : Nat} {x : Int} (h : k1 ≠ k) : pm_up V k i x k1 = V k1 := by
  funext j
  exact pm_up_c h
abbrev tk_bl (b : Int) : Prop := b = 32 ∨ b = 10
abbrev tk_le (b : Int) : Prop := 97 ≤ b ∧ b ≤ 122
abbrev tk_di (b : Int) : Prop := 48 ≤ b ∧ b ≤ 57
/-- a word's letters in one number -/
def tk_pk (T : Nat → Int) (q : Nat) : Nat → Int
  | 0 => 0
  | m + 1 => pm_lorV (pm_lshlV (tk_pk T q m) 8) (T (q + m))
/-- a number, no more than a hundred thousand -/
def tk_nm (T : Nat → Int) (q : Nat) : Nat → Int
  | 0 => 0
  | m + 1 => min (10 * tk_nm T q m + T (q + m) - 48) 100000
theorem tk_nm_r (T : Nat → Int) (q m : Nat) (h : ∀ i, q ≤ i → i < q + m → 48 ≤ T i) : 0 ≤ tk_nm T q m ∧ tk_nm T q m ≤ 100000 := by
  induction m with
  | zero => exact (by decide : (0 : Int) ≤ 0 ∧ (0 : Int) ≤ 100000)
  | succ m ih =>
    have h1 := ih fun i h1 h2 => h i h1 (by omega)
    have h2 := h (q + m) (by omega) (by omega)
    show 0 ≤ min (10 * tk_nm T q m + T (q + m) - 48) 100000 ∧ min (10 * tk_nm T q m + T (q + m) - 48) 100000 ≤ 100000
    omega
/-- the token of a text of n bytes from place p on: its sort (0 none, 1 word, 2 number, 3 else), value, place, end -/
def TK (T : Nat → Int) (n p s a q e : Int) : Prop :=
  p ≤ q ∧ (∀ i : Nat, p ≤ i → (i : Int) < q → tk_bl (T i)) ∧
  ((q = n ∧ s = 0 ∧ a = 0 ∧ e = n) ∨
   (q < n ∧ tk_le (T q.toNat) ∧ s = 1 ∧ q < e ∧ e ≤ n ∧ (∀ i : Nat, q ≤ i → (i : Int) < e → tk_le (T i)) ∧ (e = n ∨ ¬ tk_le (T e.toNat)) ∧ a = (if e - q ≤ 8 then tk_pk T q.toNat (e - q).toNat else 0)) ∨
   (q < n ∧ tk_di (T q.toNat) ∧ s = 2 ∧ q < e ∧ e ≤ n ∧ (∀ i : Nat, q ≤ i → (i : Int) < e → tk_di (T i)) ∧ (e = n ∨ ¬ tk_di (T e.toNat)) ∧ a = tk_nm T q.toNat (e - q).toNat) ∨
   (q < n ∧ ¬ tk_bl (T q.toNat) ∧ ¬ tk_le (T q.toNat) ∧ ¬ tk_di (T q.toNat) ∧ s = 3 ∧ a = T q.toNat ∧ e = q + 1))
theorem TK_le {T : Nat → Int} {n p s a q e : Int} (h : TK T n p s a q e) : p ≤ q ∧ q ≤ n ∧ q ≤ e ∧ e ≤ n ∧ 0 ≤ s ∧ s ≤ 3 ∧ (s ≠ 0 → q + 1 ≤ e) ∧ (s = 0 → q = n ∧ e = n) := by
  obtain ⟨h1, -, h3⟩ := h
  rcases h3 with ⟨a1, a2, -, a4⟩ | ⟨a1, -, a3, a4, a5, -⟩ | ⟨a1, -, a3, a4, a5, -⟩ | ⟨a1, -, -, -, a3, -, a4⟩
  · exact ⟨by omega, by omega, by omega, by omega, by omega, by omega, by omega, by omega⟩
  · exact ⟨by omega, by omega, by omega, by omega, by omega, by omega, by omega, by omega⟩
  · exact ⟨by omega, by omega, by omega, by omega, by omega, by omega, by omega, by omega⟩
  · exact ⟨by omega, by omega, by omega, by omega, by omega, by omega, by omega, by omega⟩
theorem TK_nb {T : Nat → Int} {n p s a q e : Int} (h : TK T n p s a q e) (hq : q < n) : ¬ tk_bl (T q.toNat) := by
  obtain ⟨h1, -, h3⟩ := h
  unfold tk_bl
  rcases h3 with ⟨a1, a2, -, a4⟩ | ⟨a1, a2, a3, a4, a5, -⟩ | ⟨a1, a2, a3, a4, a5, -⟩ | ⟨a1, a2, -, -, a3, -, a4⟩
  · omega
  · unfold tk_le at a2; omega
  · unfold tk_di at a2; omega
  · exact a2
theorem TK_q {T : Nat → Int} {n p s a q e s1 a1 q1 e1 : Int} (hp : 0 ≤ p) (h : TK T n p s a q e) (h1 : TK T n p s1 a1 q1 e1) : q = q1 := by
  have b := TK_le h
  have b1 := TK_le h1
  rcases Int.lt_trichotomy q q1 with c | c | c
  · have k := h1.2.1 q.toNat (by omega) (by omega)
    exact absurd k (TK_nb h (by omega))
  · exact c
  · have k := h.2.1 q1.toNat (by omega) (by omega)
    exact absurd k (TK_nb h1 (by omega))
theorem tk_run_u {P : Int → Prop} {T : Nat → Int} {n q e e1 : Int} (hq : 0 ≤ q) (h1 : q < e ∧ e ≤ n) (h2 : ∀ i : Nat, q ≤ i → (i : Int) < e → P (T i)) (h3 : e = n ∨ ¬ P (T e.toNat)) (g1 : q < e1 ∧ e1 ≤ n) (g2 : ∀ i : Nat, q ≤ i → (i : Int) < e1 → P (T i)) (g3 : e1 = n ∨ ¬ P (T e1.toNat)) : e = e1 := by
  rcases Int.lt_trichotomy e e1 with c | c | c
  · rcases h3 with h3 | h3
    · omega
    · exact absurd (g2 e.toNat (by omega) (by omega)) h3
  · exact c
  · rcases g3 with g3 | g3
    · omega
    · exact absurd (h2 e1.toNat (by omega) (by omega)) g3
/-- there is one token alone -/
theorem TK_u {T : Nat → Int} {n p s a q e s1 a1 q1 e1 : Int} (hp : 0 ≤ p) (h : TK T n p s a q e) (h1 : TK T n p s1 a1 q1 e1) : s = s1 ∧ a = a1 ∧ q = q1 ∧ e = e1 := by
  have hq := TK_q hp h h1
  subst hq
  have hp2 := (TK_le h).1
  obtain ⟨-, -, h⟩ := h
  obtain ⟨-, -, h1⟩ := h1
  have x1 : ∀ b, tk_le b → tk_di b → False := fun b c d => by unfold tk_le at c; unfold tk_di at d; omega
  rcases h with ⟨a1, a2, a3, a4⟩ | ⟨a1, a2, a3, a4, a5, a6, a7, a8⟩ | ⟨a1, a2, a3, a4, a5, a6, a7, a8⟩ | ⟨a1, a2, a3, a4, a5, a6, a7⟩ <;> rcases h1 with ⟨b1, b2, b3, b4⟩ | ⟨b1, b2, b3, b4, b5, b6, b7, b8⟩ | ⟨b1, b2, b3, b4, b5, b6, b7, b8⟩ | ⟨b1, b2, b3, b4, b5, b6, b7⟩
  · exact ⟨by omega, by omega, rfl, by omega⟩
  · omega
  · omega
  · omega
  · omega
  · have he := tk_run_u (P := tk_le) (by omega) ⟨a4, a5⟩ a6 a7 ⟨b4, b5⟩ b6 b7
    subst he
    exact ⟨by omega, by rw [a8, b8], rfl, rfl⟩
  · exact absurd b2 (fun k => x1 _ a2 k)
  · exact absurd a2 b3
  · omega
  · exact absurd a2 (fun k => x1 _ b2 k)
  · have he := tk_run_u (P := tk_di) (by omega) ⟨a4, a5⟩ a6 a7 ⟨b4, b5⟩ b6 b7
    subst he
    exact ⟨by omega, by rw [a8, b8], rfl, rfl⟩
  · exact absurd a2 b4
  · omega
  · exact absurd b2 a3
  · exact absurd b2 a4
  · exact ⟨by omega, by rw [a6, b6], rfl, by omega⟩
/-- a byte's sort, as the class tells it -/
def tk_cl (b : Int) : Int := if 97 ≤ b ∧ b ≤ 122 then 1 else if 48 ≤ b ∧ b ≤ 57 then 2 else if b = 32 ∨ b = 10 then 4 else 3
theorem tk_cl_s (b : Int) : (tk_cl b = 1 ∧ tk_le b) ∨ (tk_cl b = 2 ∧ tk_di b) ∨ (tk_cl b = 4 ∧ tk_bl b) ∨ (tk_cl b = 3 ∧ ¬ tk_le b ∧ ¬ tk_di b ∧ ¬ tk_bl b) := by
  unfold tk_cl tk_le tk_di tk_bl
  split
  · exact Or.inl ⟨rfl, by omega⟩
  · split
    · exact Or.inr (Or.inl ⟨rfl, by omega⟩)
    · split
      · exact Or.inr (Or.inr (Or.inl ⟨rfl, by omega⟩))
      · exact Or.inr (Or.inr (Or.inr ⟨rfl, by omega, by omega, by omega⟩))
theorem c_sortOf (b : Int) (V : pm_M) : F_X9_sortOf b V = (tk_cl b, V) := by
  have h := tk_cl_s b
  unfold tk_le tk_di tk_bl at h
  rw [F_X9_sortOf_eq]
  repeat' split
  all_goals first
    | (exfalso; omega)
    | (have e : tk_cl b = 1 := by omega
       rw [e])
    | (have e : tk_cl b = 2 := by omega
       rw [e])
    | (have e : tk_cl b = 3 := by omega
       rw [e])
    | (have e : tk_cl b = 4 := by omega
       rw [e])
/-- but for cell 3 and but for its value -/
def tk_f3 (V V1 : pm_M) : Prop := (∀ k, k ≠ 3 → V1 k = V k) ∧ ∀ i, i ≠ 3 → V1 3 i = V 3 i
theorem c_take {b : Int} {V : pm_M} : ∃ V1, F_X9_take b V = (0, V1) ∧ tk_f3 V V1 ∧ (V 3 1 = 1 → V1 3 3 = pm_lorV (pm_lshlV (V 3 3) 8) b) ∧ (V 3 1 = 2 → 48 ≤ b → b ≤ 57 → 0 ≤ V 3 3 → V 3 3 ≤ 1000000 → V1 3 3 = min (10 * V 3 3 + b - 48) 1000000) ∧ (V 3 1 ≠ 1 → V 3 1 ≠ 2 → V1 3 3 = b) := by
  rw [F_X9_take_eq]
  simp only [pf_let]
  have f : ∀ x, tk_f3 V (pm_up V 3 3 x) := fun x => ⟨fun k h => pm_up_f h, fun i h => pm_up_i h⟩
  have f2 : ∀ x y, tk_f3 V (pm_up (pm_up V 3 3 x) 3 3 y) := fun x y => ⟨fun k h => by rw [pm_up_f h, pm_up_f h], fun i h => by rw [pm_up_i h, pm_up_i h]⟩
  by_cases h1 : V 3 1 = 1
  · rw [if_neg (fun q => q h1)]
    exact ⟨_, rfl, f _, fun _ => pm_up_s, fun q => absurd (h1.symm.trans q) (by decide), fun q => absurd h1 q⟩
  · rw [if_pos h1]
    by_cases h2 : V 3 1 = 2
    · rw [if_neg (fun q => q h2)]
      by_cases hr : 48 ≤ b ∧ b ≤ 57 ∧ 0 ≤ V 3 3 ∧ V 3 3 ≤ 1000000
      · have e1 : pm_w64 (V 3 3 * 10) = V 3 3 * 10 := pm_w64_id ⟨by omega, by omega⟩
        have e2 : pm_w64 (V 3 3 * 10 + b) = V 3 3 * 10 + b := pm_w64_id ⟨by omega, by omega⟩
        have e3 : pm_w64 (V 3 3 * 10 + b - 48) = V 3 3 * 10 + b - 48 := pm_w64_id ⟨by omega, by omega⟩
        rw [e1, e2, e3]
        by_cases hc : pm_cmp (V 3 3 * 10 + b - 48) 1000000 ≤ 0
        · rw [if_pos hc]
          have hc2 := pm_cmp_le0.mp hc
          exact ⟨_, rfl, f2 _ _, fun q => absurd q h1, fun _ _ _ _ _ => by rw [pm_up_s]; omega, fun _ q => absurd h2 q⟩
        · rw [if_neg hc]
          have hc2 : 1000000 < V 3 3 * 10 + b - 48 := Int.not_le.mp (fun q => hc (pm_cmp_le0.mpr q))
          exact ⟨_, rfl, f2 _ _, fun q => absurd q h1, fun _ _ _ _ _ => by rw [pm_up_s]; omega, fun _ q => absurd h2 q⟩
      · split
        · exact ⟨_, rfl, f2 _ _, fun q => absurd q h1, fun _ a1 a2 a3 a4 => absurd ⟨a1, a2, a3, a4⟩ hr, fun _ q => absurd h2 q⟩
        · exact ⟨_, rfl, f2 _ _, fun q => absurd q h1, fun _ a1 a2 a3 a4 => absurd ⟨a1, a2, a3, a4⟩ hr, fun _ q => absurd h2 q⟩
    · rw [if_pos h2]
      exact ⟨_, rfl, f _, fun q => absurd q h1, fun q => absurd q h2, fun _ _ => pm_up_s⟩
theorem pf_val_ind2 {S O : Type} {d : O} {b : S → S ⊕ O} (P : S → Prop) (Q : O → Prop) (mu : S → Nat) (h : ∀ s, P s → (∃ s1, b s = .inl s1 ∧ P s1 ∧ mu s1 < mu s) ∨ (∃ o, b s = .inr o ∧ Q o)) : ∀ s, P s → Q (pf_val d b s) := by
  refine pf_val_ind P Q mu (fun s s1 hP e => ?_) (fun s o hP e => ?_)
  · rcases h s hP with ⟨s2, h1, h2, h3⟩ | ⟨o, h1, h2⟩
    · rw [h1] at e
      cases e
      exact ⟨h2, h3⟩
    · rw [h1] at e
      cases e
  · rcases h s hP with ⟨s2, h1, h2, h3⟩ | ⟨o, h1, h2⟩
    · rw [h1] at e
      cases e
    · rw [h1] at e
      cases e
      exact h2
/-! the class's step -/
noncomputable def s_inb (en : Int) : pm_M → pm_M ⊕ (pm_M ⊕ (Int × pm_M)) := (fun (q : pm_M) => match q with | V40 => (pf_let (V40 3 4) fun y51 => (if en ≤ y51 then (pf_let (V40 3 1) fun y55 => (if ¬ (y55 = 1) then ((.inr (.inr (0, V40)))) else (pf_let (V40 3 2) fun y59 => (if (y51 - y59) ≤ 8 then ((.inr (.inr (0, V40)))) else ((.inr (.inr (0, (pm_up V40 3 3 0))))))))) else (pf_let (V40 2 (y51 : Int).toNat) fun y65 => pf_call (F_X9_sortOf y65 V40) fun y71 _ => pf_let (V40 3 1) fun y74 => (if ¬ (y71 = y74) then ((if ¬ (y74 = 1) then ((.inr (.inr (0, V40)))) else (pf_let (V40 3 2) fun y79 => (if (y51 - y79) ≤ 8 then ((.inr (.inr (0, V40)))) else ((.inr (.inr (0, (pm_up V40 3 3 0))))))))) else (pf_call (F_X9_take y65 V40) fun _ V84 => (.inl (pm_up V84 3 4 (y51 + 1)))))))))
def tk_P (V0 : pm_M) (s q en : Int) (V : pm_M) : Prop :=
  (∀ k, k ≠ 3 → V k = V0 k) ∧ V 3 0 = V0 3 0 ∧ V 3 1 = s ∧ V 3 2 = q ∧ ∃ m : Nat, V 3 4 = q + m ∧ q + m ≤ en ∧ (∀ i : Nat, q ≤ i → (i : Int) < q + m → tk_cl (V0 2 i) = s) ∧ (m = 0 → V 3 3 = 0) ∧ (s = 1 → V 3 3 = tk_pk (V0 2) q.toNat m) ∧ (s = 2 → tk_nm (V0 2) q.toNat m = min (V 3 3) 100000 ∧ 0 ≤ V 3 3 ∧ V 3 3 ≤ 1000000) ∧ (m = 1 → s = 3 → V 3 3 = V0 2 q.toNat)
def tk_E (V0 : pm_M) (s q en : Int) (V : pm_M) : Prop :=
  (∀ k, k ≠ 3 → V k = V0 k) ∧ V 3 0 = V0 3 0 ∧ V 3 1 = s ∧ V 3 2 = q ∧ ∃ m : Nat, V 3 4 = q + m ∧ q + m ≤ en ∧ (∀ i : Nat, q ≤ i → (i : Int) < q + m → tk_cl (V0 2 i) = s) ∧ (q + m = en ∨ tk_cl (V0 2 (q.toNat + m)) ≠ s) ∧ (m = 0 → V 3 3 = 0) ∧ (s = 1 → V 3 3 = if (m : Int) ≤ 8 then tk_pk (V0 2) q.toNat m else 0) ∧ (s = 2 → tk_nm (V0 2) q.toNat m = min (V 3 3) 100000) ∧ (m = 1 → s = 3 → V 3 3 = V0 2 q.toNat)
theorem c_inner {V0 W : pm_M} {d : pm_M ⊕ (Int × pm_M)} {s q en : Int} (hq : 0 ≤ q) (h4 : s ≠ 4) (h : tk_P V0 s q en W) : ∃ V1, pf_val d (s_inb en) W = .inr (0, V1) ∧ tk_E V0 s q en V1 := by
  refine pf_val_ind2 (tk_P V0 s q en) (fun (o : pm_M ⊕ (Int × pm_M)) => ∃ V1, o = .inr (0, V1) ∧ tk_E V0 s q en V1) (fun V => (en - V 3 4).toNat) ?_ W h
  rintro V ⟨f1, f2, f3, f4, m, f5, f6, f7, f8, f9, f10, f11⟩
  have hn : (V 3 4).toNat = q.toNat + m := by omega
  -- the end
  have fin : (q + m = en ∨ tk_cl (V0 2 (q.toNat + m)) ≠ s) → ∃ o, (if ¬ (V 3 1 = 1) then (.inr (.inr (0, V))) else (if (V 3 4 - V 3 2) ≤ 8 then (.inr (.inr (0, V))) else (.inr (.inr (0, (pm_up V 3 3 0))))) : pm_M ⊕ (pm_M ⊕ (Int × pm_M))) = .inr o ∧ ∃ V1, o = .inr (0, V1) ∧ tk_E V0 s q en V1 := by
    intro hx
    by_cases c : V 3 1 = 1
    · have hs : s = 1 := by omega
      rw [if_neg (fun z => z c)]
      by_cases c8 : V 3 4 - V 3 2 ≤ 8
      · rw [if_pos c8]
        exact ⟨_, rfl, _, rfl, f1, f2, f3, f4, m, f5, f6, f7, hx, f8, fun z => by rw [if_pos (by omega)]; exact f9 z, fun z => (f10 z).1, f11⟩
      · rw [if_neg c8]
        refine ⟨_, rfl, _, rfl, fun k hk => by rw [pm_up_f hk]; exact f1 k hk, f2, f3, f4, m, f5, f6, f7, hx, fun _ => pm_up_s, fun z => by rw [if_neg (by omega)]; exact pm_up_s, fun z => by omega, fun _ z => by omega⟩
    · rw [if_pos c]
      exact ⟨_, rfl, _, rfl, f1, f2, f3, f4, m, f5, f6, f7, hx, f8, fun z => absurd (f3.trans z) c, fun z => (f10 z).1, f11⟩
  by_cases c1 : en ≤ V 3 4
  · refine Or.inr ?_
    obtain ⟨o, o1, o2⟩ := fin (Or.inl (by omega))
    refine ⟨o, ?_, o2⟩
    simp only [s_inb, pf_let, pf_call]
    rw [if_pos c1]
    exact o1
  · have eV : V 2 = V0 2 := f1 2 (by decide)
    by_cases c2 : tk_cl (V 2 (V 3 4).toNat) = V 3 1
    · refine Or.inl ?_
      obtain ⟨V2, t1, t2, t3, t4, t5⟩ := c_take (b := V 2 (V 3 4).toNat) (V := V)
      refine ⟨pm_up V2 3 4 (V 3 4 + 1), ?_, ⟨fun k hk => by rw [pm_up_f hk, t2.1 k hk]; exact f1 k hk, by rw [pm_up_i (by decide), t2.2 0 (by decide)]; exact f2, by rw [pm_up_i (by decide), t2.2 1 (by decide)]; exact f3, by rw [pm_up_i (by decide), t2.2 2 (by decide)]; exact f4, m + 1, by rw [pm_up_s]; omega, by omega, ?_, fun z => absurd z (Nat.succ_ne_zero m), ?_, ?_, ?_⟩, ?_⟩
      · simp only [s_inb, pf_let, pf_call, c_sortOf]
        rw [if_neg c1, if_neg (fun z => z c2), t1]
      · intro i i1 i2
        by_cases hi : (i : Int) < q + m
        · exact f7 i i1 hi
        · have : i = (V 3 4).toNat := by omega
          rw [this, ← eV, c2, f3]
      · intro z
        rw [pm_up_i (by decide), t3 (f3.trans z), f9 z, hn, eV]
        rfl
      · intro z
        have hd : tk_di (V 2 (V 3 4).toNat) := by
          have hc : tk_cl (V 2 (V 3 4).toNat) = 2 := by rw [c2, f3, z]
          rcases tk_cl_s (V 2 (V 3 4).toNat) with k | k | k | k
          · omega
          · exact k.2
          · omega
          · omega
        unfold tk_di at hd
        have g := f10 z
        rw [pm_up_i (by decide), t4 (f3.trans z) hd.1 hd.2 g.2.1 g.2.2]
        refine ⟨?_, by omega, by omega⟩
        show min (10 * tk_nm (V0 2) q.toNat m + V0 2 (q.toNat + m) - 48) 100000 = _
        rw [g.1, ← hn, ← eV]
        omega
      · intro z1 z
        have hm : m = 0 := by omega
        rw [pm_up_i (by decide), t5 (by omega) (by omega), hn, hm, eV]
        rfl
      · show (en - (pm_up V2 3 4 (V 3 4 + 1)) 3 4).toNat < (en - V 3 4).toNat
        rw [pm_up_s]
        omega
    · refine Or.inr ?_
      obtain ⟨o, o1, o2⟩ := fin (Or.inr (by rw [← hn, ← eV]; rw [f3] at c2; exact c2))
      refine ⟨o, ?_, o2⟩
      simp only [s_inb, pf_let, pf_call, c_sortOf]
      rw [if_neg c1, if_pos c2]
      exact o1
/-- the class's tokens hold this token -/
def tk_c (V : pm_M) (s a q e : Int) : Prop := V 3 1 = s ∧ V 3 2 = q ∧ V 3 4 = e ∧ (s = 2 → min (V 3 3) 100000 = a) ∧ (s ≠ 2 → V 3 3 = a)
/-- at the end of its inner loop the class has the token -/
theorem c_fin {V0 V1 : pm_M} {s q n p : Int} (hp : 0 ≤ p ∧ p ≤ q ∧ q < n) (hs : s = tk_cl (V0 2 q.toNat)) (h4 : s ≠ 4) (hb : ∀ i : Nat, p ≤ i → (i : Int) < q → tk_bl (V0 2 i)) (h : tk_E V0 s q (if s = 3 then q + 1 else n) V1) : ∃ a e, TK (V0 2) n p s a q e ∧ tk_c V1 s a q e := by
  obtain ⟨f1, f2, f3, f4, m, f5, f6, f7, fx, f8, f9, f10, f11⟩ := h
  have hm : 1 ≤ m := by
    rcases Nat.eq_zero_or_pos m with c | c
    · subst c
      exfalso
      rcases fx with fx | fx
      · split at fx <;> omega
      · exact fx hs.symm
    · exact c
  have he : (q + (m : Int)).toNat = q.toNat + m := by omega
  have hme : (q + (m : Int) - q).toNat = m := by omega
  have hq3 := tk_cl_s (V0 2 q.toNat)
  rw [← hs] at hq3
  rcases hq3 with ⟨k1, k2⟩ | ⟨k1, k2⟩ | ⟨k1, k2⟩ | ⟨k1, k2, k3, k4⟩
  · subst k1
    rw [if_neg (by decide)] at f6 fx
    refine ⟨V1 3 3, q + m, ⟨hp.2.1, hb, Or.inr (Or.inl ⟨hp.2.2, k2, rfl, by omega, f6, fun i i1 i2 => ?_, ?_, ?_⟩)⟩, f3, f4, f5, fun z => absurd z (by decide), fun _ => rfl⟩
    · have := f7 i i1 i2
      rcases tk_cl_s (V0 2 i) with c | c | c | c
      · exact c.2
      · omega
      · omega
      · omega
    · rcases fx with fx | fx
      · exact Or.inl fx
      · refine Or.inr (fun c => fx ?_)
        rw [← he]
        rcases tk_cl_s (V0 2 (q + (m : Int)).toNat) with d | d | d | d
        · exact d.1
        · exact absurd d.2 (fun z => by unfold tk_di at z; unfold tk_le at c; omega)
        · exact absurd d.2 (fun z => by unfold tk_bl at z; unfold tk_le at c; omega)
        · exact absurd c d.2.1
    · rw [hme, f9 rfl]
      have e8 : q + (m : Int) - q = m := by omega
      rw [e8]
  · subst k1
    rw [if_neg (by decide)] at f6 fx
    refine ⟨tk_nm (V0 2) q.toNat m, q + m, ⟨hp.2.1, hb, Or.inr (Or.inr (Or.inl ⟨hp.2.2, k2, rfl, by omega, f6, fun i i1 i2 => ?_, ?_, ?_⟩))⟩, f3, f4, f5, fun _ => (f10 rfl).symm, fun z => absurd rfl z⟩
    · have := f7 i i1 i2
      rcases tk_cl_s (V0 2 i) with c | c | c | c
      · omega
      · exact c.2
      · omega
      · omega
    · rcases fx with fx | fx
      · exact Or.inl fx
      · refine Or.inr (fun c => fx ?_)
        rw [← he]
        rcases tk_cl_s (V0 2 (q + (m : Int)).toNat) with d | d | d | d
        · exact absurd d.2 (fun z => by unfold tk_le at z; unfold tk_di at c; omega)
        · exact d.1
        · exact absurd d.2 (fun z => by unfold tk_bl at z; unfold tk_di at c; omega)
        · exact absurd c d.2.2.1
    · rw [hme]
  · exact absurd k1 h4
  · subst k1
    rw [if_pos rfl] at f6 fx
    have hm1 : m = 1 := by omega
    refine ⟨V0 2 q.toNat, q + m, ⟨hp.2.1, hb, Or.inr (Or.inr (Or.inr ⟨hp.2.2, k4, k2, k3, rfl, rfl, by omega⟩))⟩, f3, f4, f5, fun z => absurd z (by decide), fun _ => f11 hm1 rfl⟩
/-- THE CLASS'S STEP comes to the next token -/
theorem c_step {V : pm_M} (h0 : 0 ≤ V 3 4 ∧ V 3 4 ≤ V 1 1) : ∃ V1 s a q e, F_X9_step V = (0, V1) ∧ (∀ k, k ≠ 3 → V1 k = V k) ∧ V1 3 0 = V 3 0 ∧ TK (V 2) (V 1 1) (V 3 4) s a q e ∧ tk_c V1 s a q e := by
  rw [F_X9_step_eq]
  refine pf_val_ind2 (fun (W : pm_M) => (∀ k, k ≠ 3 → W k = V k) ∧ W 3 0 = V 3 0 ∧ V 3 4 ≤ W 3 2 ∧ W 3 2 ≤ V 1 1 ∧ ∀ i : Nat, V 3 4 ≤ i → (i : Int) < W 3 2 → tk_bl (V 2 i)) (fun (o : Int × pm_M) => ∃ V1 s a q e, o = (0, V1) ∧ (∀ k, k ≠ 3 → V1 k = V k) ∧ V1 3 0 = V 3 0 ∧ TK (V 2) (V 1 1) (V 3 4) s a q e ∧ tk_c V1 s a q e) (fun W => (V 1 1 - W 3 2).toNat) ?_ _ ⟨fun k hk => pm_up_f hk, pm_up_i (by decide), by rw [pm_up_s]; exact Int.le_refl _, by rw [pm_up_s]; exact h0.2, fun i i1 i2 => by rw [pm_up_s] at i2; omega⟩
  rintro W ⟨g1, g2, g3, g4, g5⟩
  have e1 : W 1 = V 1 := g1 1 (by decide)
  have e2 : W 2 = V 2 := g1 2 (by decide)
  have hfr : ∀ x y z, ∀ k, k ≠ 3 → pm_up (pm_up (pm_up W 3 4 x) 3 3 y) 3 1 z k = V k := fun x y z k hk => by rw [pm_up_f hk, pm_up_f hk, pm_up_f hk]; exact g1 k hk
  have hP : ∀ (s : Int) (en : Int), W 3 2 ≤ en → tk_P V s (W 3 2) en (pm_up (pm_up (pm_up W 3 4 (W 3 2)) 3 3 0) 3 1 s) := by
    intro s en hen
    refine ⟨hfr _ _ _, by rw [pm_up_i (by decide), pm_up_i (by decide), pm_up_i (by decide)]; exact g2, pm_up_s, by rw [pm_up_i (by decide), pm_up_i (by decide), pm_up_i (by decide)], 0, by rw [pm_up_i (by decide), pm_up_i (by decide), pm_up_s]; omega, by omega, fun i i1 i2 => by omega, fun _ => by rw [pm_up_i (by decide), pm_up_s], fun _ => by rw [pm_up_i (by decide), pm_up_s]; rfl, fun _ => by rw [pm_up_i (by decide), pm_up_s]; exact ⟨rfl, by decide, by decide⟩, fun z => absurd z (by decide)⟩
  have c4 : ∀ {s en : Int} {V1 : pm_M}, tk_E V s (W 3 2) en V1 → (∀ k, k ≠ 3 → V1 k = V k) ∧ V1 3 0 = V 3 0 := fun h => ⟨h.1, h.2.1⟩
  simp only [pf_let, pf_call, c_sortOf]
  by_cases c1 : W 1 1 ≤ W 3 2
  · refine Or.inr ?_
    rw [if_pos c1, if_pos c1]
    obtain ⟨V1, r1, r2⟩ := c_inner (d := .inr ((0 : Int), V)) (by omega) (by decide) (hP 0 (W 1 1) (by rw [e1]; exact g4))
    (delta s_inb at r1; simp only [pf_let, pf_call, c_sortOf] at r1)
    refine ⟨(0, V1), r1, V1, 0, 0, W 3 2, W 3 2, rfl, (c4 r2).1, (c4 r2).2, ?_, ?_⟩
    · rw [e1] at c1
      exact ⟨g3, g5, Or.inl ⟨by omega, rfl, rfl, by omega⟩⟩
    · obtain ⟨-, -, f3, f4, m, f5, f6, -, -, f8, -⟩ := r2
      have hm : m = 0 := by omega
      exact ⟨f3, f4, by omega, fun z => absurd z (by decide), fun _ => f8 hm⟩
  · rw [if_neg c1]
    by_cases c2 : tk_cl (W 2 (W 3 2).toNat) = 4
    · refine Or.inl ⟨pm_up W 3 2 (W 3 2 + 1), ?_, ⟨fun k hk => by rw [pm_up_f hk]; exact g1 k hk, by rw [pm_up_i (by decide)]; exact g2, by rw [pm_up_s]; omega, by rw [pm_up_s]; rw [e1] at c1; omega, fun i i1 i2 => ?_⟩, ?_⟩
      · rw [if_neg (fun z => z c2)]
      · rw [pm_up_s] at i2
        by_cases hi : (i : Int) < W 3 2
        · exact g5 i i1 hi
        · have hi2 : i = (W 3 2).toNat := by omega
          rw [e2, ← hi2] at c2
          rcases tk_cl_s (V 2 i) with d | d | d | d
          · omega
          · omega
          · exact d.2
          · omega
      · show (V 1 1 - (pm_up W 3 2 (W 3 2 + 1)) 3 2).toNat < (V 1 1 - W 3 2).toNat
        rw [pm_up_s]
        rw [e1] at c1
        omega
    · refine Or.inr ?_
      rw [if_pos c2, if_neg c1]
      have hlt : W 3 2 < V 1 1 := by rw [e1] at c1; omega
      by_cases c3 : tk_cl (W 2 (W 3 2).toNat) = 3
      · rw [if_neg (fun z => z c3)]
        obtain ⟨V1, r1, r2⟩ := c_inner (d := .inr ((0 : Int), V)) (by omega) c2 (hP (tk_cl (W 2 (W 3 2).toNat)) (W 3 2 + 1) (by omega))
        obtain ⟨a, e, k1, k2⟩ := c_fin (V0 := V) (n := V 1 1) ⟨h0.1, g3, hlt⟩ (by rw [e2]) c2 g5 (by rw [if_pos c3]; exact r2)
        (delta s_inb at r1; simp only [pf_let, pf_call, c_sortOf] at r1)
        exact ⟨(0, V1), r1, V1, _, a, _, e, rfl, (c4 r2).1, (c4 r2).2, k1, k2⟩
      · rw [if_pos c3]
        obtain ⟨V1, r1, r2⟩ := c_inner (d := .inr ((0 : Int), V)) (by omega) c2 (hP (tk_cl (W 2 (W 3 2).toNat)) (W 1 1) (by rw [e1]; exact g4))
        obtain ⟨a, e, k1, k2⟩ := c_fin (V0 := V) (n := V 1 1) ⟨h0.1, g3, hlt⟩ (by rw [e2]) c2 g5 (by rw [if_neg c3, ← e1]; exact r2)
        (delta s_inb at r1; simp only [pf_let, pf_call, c_sortOf] at r1)
        exact ⟨(0, V1), r1, V1, _, a, _, e, rfl, (c4 r2).1, (c4 r2).2, k1, k2⟩
