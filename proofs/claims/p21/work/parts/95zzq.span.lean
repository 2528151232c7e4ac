/-! OWN SPANS: what fits best, of like ones the first -/
def lx (A B x y : Int) : Prop := A.natAbs + B.natAbs < x.natAbs + y.natAbs ∨ (A.natAbs + B.natAbs = x.natAbs + y.natAbs ∧ (A < x ∨ (A = x ∧ B < y)))
/-- A, B fits more than x, y, or alike and is no later -/
def bt (f g : Int → Int → Nat) (A B x y : Int) : Prop := f x y * g A B < f A B * g x y ∨ (f x y * g A B = f A B * g x y ∧ ((A = x ∧ B = y) ∨ lx A B x y))
def sgr (a b : Int) : Prop := (-12 ≤ a ∧ a ≤ 12) ∧ (-12 ≤ b ∧ b ≤ 12)
theorem bt_n1 {F G f1 g1 f2 g2 : Nat} (h1 : F * g1 < f1 * G) (h2 : f2 * G ≤ F * g2) (p2 : 0 < g2) : f2 * g1 < f1 * g2 := by
  refine Nat.lt_of_mul_lt_mul_right (a := G) ?_
  calc f2 * g1 * G = f2 * G * g1 := by ac_rfl
    _ ≤ F * g2 * g1 := Nat.mul_le_mul_right _ h2
    _ = F * g1 * g2 := by ac_rfl
    _ < f1 * G * g2 := Nat.mul_lt_mul_of_pos_right h1 p2
    _ = f1 * g2 * G := by ac_rfl
theorem bt_n2 {F G f1 g1 f2 g2 : Nat} (h1 : F * g1 = f1 * G) (h2 : f2 * G < F * g2) (p1 : 0 < g1) : f2 * g1 < f1 * g2 := by
  refine Nat.lt_of_mul_lt_mul_right (a := G) ?_
  calc f2 * g1 * G = f2 * G * g1 := by ac_rfl
    _ < F * g2 * g1 := Nat.mul_lt_mul_of_pos_right h2 p1
    _ = F * g1 * g2 := by ac_rfl
    _ = f1 * G * g2 := by rw [h1]
    _ = f1 * g2 * G := by ac_rfl
theorem bt_n3 {F G f1 g1 f2 g2 : Nat} (h1 : F * g1 = f1 * G) (h2 : f2 * G = F * g2) (pG : 0 < G) : f2 * g1 = f1 * g2 := by
  refine Nat.eq_of_mul_eq_mul_right pG ?_
  calc f2 * g1 * G = f2 * G * g1 := by ac_rfl
    _ = F * g2 * g1 := by rw [h2]
    _ = F * g1 * g2 := by ac_rfl
    _ = f1 * G * g2 := by rw [h1]
    _ = f1 * g2 * G := by ac_rfl
theorem bt.new {f g : Int → Int → Nat} {A B a b x y : Int} (h : bt f g A B x y) (h1 : f A B * g a b < f a b * g A B) (p2 : 0 < g x y) : bt f g a b x y := Or.inl (bt_n1 h1 (by rcases h with h | ⟨h, -⟩ <;> omega) p2)
theorem lx.tr {A B a b x y : Int} (h : lx a b A B) (h2 : lx A B x y) : lx a b x y := by
  unfold lx at *
  omega
theorem bt.tie {f g : Int → Int → Nat} {A B a b x y : Int} (h : bt f g A B x y) (h1 : f A B * g a b = f a b * g A B) (hl : lx a b A B) (p1 : 0 < g a b) (pG : 0 < g A B) : bt f g a b x y := by
  rcases h with h | ⟨h, h2⟩
  · exact Or.inl (bt_n2 h1 h p1)
  · refine Or.inr ⟨bt_n3 h1 h pG, Or.inr ?_⟩
    rcases h2 with ⟨rfl, rfl⟩ | h2
    · exact hl
    · exact hl.tr h2
theorem bt.one {f g : Int → Int → Nat} {A B x y : Int} (h : bt f g A B x y) (h2 : bt f g x y A B) : A = x ∧ B = y := by
  unfold bt lx at h h2
  omega
theorem bt.self {f g : Int → Int → Nat} {A B : Int} : bt f g A B A B := Or.inr ⟨rfl, Or.inl ⟨rfl, rfl⟩⟩
theorem ab_nat {x : Int} (h : -12 ≤ x ∧ x ≤ 12) : pm_ab x = (x.natAbs : Int) := by
  unfold pm_ab
  by_cases c : 0 ≤ x
  · rw [if_pos c]
    omega
  · rw [if_neg c, pm_w32_id ⟨by omega, by omega⟩]
    omega
/-- the class, with A and B kept -/
def scl (s : Nat) (f g : Int → Int → Nat) (V U : pm_M) (A B : Int) : Prop := (∃ k t : Nat, kt2 k t ∧ U 0 12 = (k : Int) ∧ U 0 13 = (t : Int) ∧ xc U k s ∧ xp U (k + 1) s = f A B ∧ xp U (k + 2) s = g A B) ∧ U 0 14 = A ∧ U 0 15 = B ∧ vC V U ∧ sgr A B
theorem scl.ck {s : Nat} {f g : Int → Int → Nat} {V U : pm_M} {A B : Int} (h : scl s f g V U A B) : ck U := by
  obtain ⟨⟨k, t, hk, e12, e13, -⟩, -⟩ := h
  exact hk.c e12 e13
section SPC
variable {V : pm_M} {p s : Nat} {P : Int} {f g : Int → Int → Nat}
theorem sp_try (hF : ∀ (t : Nat) (a b : Int) (U U1 : pm_M) (z : Int), (t = 84 ∨ t = 87) → sgr a b → vC V U → F_X11_gatherOdds t (p : Int) a b P U = (z, U1) → xc U1 t s ∧ xp U1 (t + 1) s = f a b ∧ xp U1 (t + 2) s = g a b ∧ vC U U1 ∧ vK t U U1) (h7 : V 7 p = P) {U Z : pm_M} {A B a b z : Int} (h : scl s f g V U A B) (hab : sgr a b) (hZ : F_X11_trySpans (p : Int) a b U = (z, Z)) : (f A B * g a b < f a b * g A B ∧ scl s f g V Z a b) ∨ (¬ f A B * g a b < f a b * g A B ∧ scl s f g V Z A B) := by
  obtain ⟨⟨k, t, hk, e12, e13, x1, x2, x3⟩, e14, e15, hC, hAB⟩ := h
  have u7 : U 7 p = P := (hC 7 p (by omega)).trans h7
  have t7 : U 7 ((p : Int)).toNat = P := by rw [Int.toNat_natCast]; exact u7
  have e := hZ.symm.trans (F_X11_trySpans_eq (p : Int) a b U)
  obtain ⟨z1, U1, m1⟩ : ∃ z T, F_X11_gatherOdds t (p : Int) a b P U = (z, T) := ⟨_, _, rfl⟩
  obtain ⟨g1, g2, g3, gC1, gk⟩ := hF t a b U U1 z1 (by rcases hk with ⟨-, rfl⟩ | ⟨-, rfl⟩; exact Or.inr rfl; exact Or.inl rfl) hab hC m1
  have z0 : ∀ i, U1 0 i = U 0 i := fun i => gk 0 i (Or.inr rfl) (by rcases hk with ⟨-, rfl⟩ | ⟨-, rfl⟩ <;> decide) (by omega) (by omega)
  have kk : ∀ j, j ≤ 2 → ∀ i, U1 (k + j) i = U (k + j) i := fun j hj i => gk _ i (by rcases hk with ⟨rfl, rfl⟩ | ⟨rfl, rfl⟩ <;> omega) (by rcases hk with ⟨rfl, rfl⟩ | ⟨rfl, rfl⟩ <;> omega) (by rcases hk with ⟨rfl, rfl⟩ | ⟨rfl, rfl⟩ <;> omega) (by rcases hk with ⟨rfl, rfl⟩ | ⟨rfl, rfl⟩ <;> omega)
  have xk : xc U1 k s := ⟨(kk 0 (by decide) 0).trans x1.1, x1.2.1, fun l hl => by
    rw [kk 1 (by decide), kk 2 (by decide)]
    exact x1.2.2 l hl⟩
  have xk1 : xp U1 (k + 1) s = f A B := (xp_fr fun l _ => kk 1 (by decide) l).trans x2
  have xk2 : xp U1 (k + 2) s = g A B := (xp_fr fun l _ => kk 2 (by decide) l).trans x3
  obtain ⟨y, U2, n1, n2, n3⟩ := kt_val hk ((z0 12).trans e12) ((z0 13).trans e13) g1 xk
  rw [g2, g3, xk1, xk2, pm_cmp_gt0] at n2
  have c1 : ∀ l i, 83 ≤ l → U2 l i = U1 l i := fun l i hl => n3 l i (by omega) (by omega)
  have hC2 : vC V U2 := (hC.tr gC1).tr n3.v
  have xx : ∀ q : Nat, 83 ≤ q → xc U1 q s → xc U2 q s := fun q hq x => ⟨(c1 q 0 hq).trans x.1, x.2.1, fun l hl => by
    rw [c1 _ _ (by omega), c1 _ _ (by omega)]
    exact x.2.2 l hl⟩
  have k83 : 83 ≤ k ∧ 83 ≤ t := by rcases hk with ⟨rfl, rfl⟩ | ⟨rfl, rfl⟩ <;> decide
  have fin : (z, Z) = (if y = 0 then ((0 : Int), U2) else (0, pm_up (pm_up U2 0 14 a) 0 15 b)) := by
    rcases hk with ⟨rfl, rfl⟩ | ⟨rfl, rfl⟩
    · have u : ¬ U 0 13 = 84 := by rw [e13]; decide
      exact (((e.trans (if_neg u)).trans (pf_let_eq t7)).trans (pf_call_eq m1)).trans (pf_call_eq n1)
    · have u : U 0 13 = 84 := e13
      exact (((e.trans (if_pos u)).trans (pf_let_eq t7)).trans (pf_call_eq m1)).trans (pf_call_eq n1)
  rcases n2 with ⟨c, hy, v12, v13⟩ | ⟨c, hy, v12, v13⟩
  · rw [if_neg (by omega)] at fin
    obtain ⟨-, rfl⟩ := Prod.mk.inj fin
    refine Or.inl ⟨by omega, ⟨t, k, hk.sw, ?_, ?_, ?_, ?_, ?_⟩, ?_, pm_up_s, ?_, hab⟩
    · rw [pm_up_i (by decide), pm_up_i (by decide)]
      exact v12
    · rw [pm_up_i (by decide), pm_up_i (by decide)]
      exact v13
    · have x := xx t k83.2 g1
      exact ⟨by rw [pm_up_c (by omega), pm_up_c (by omega)]; exact x.1, x.2.1, fun l hl => by
        rw [pm_up_c (by omega), pm_up_c (by omega), pm_up_c (by omega), pm_up_c (by omega)]
        exact x.2.2 l hl⟩
    · exact (xp_fr fun l _ => by rw [pm_up_c (by omega), pm_up_c (by omega)]; exact c1 _ l (by omega)).trans g2
    · exact (xp_fr fun l _ => by rw [pm_up_c (by omega), pm_up_c (by omega)]; exact c1 _ l (by omega)).trans g3
    · rw [pm_up_i (by decide)]
      exact pm_up_s
    · intro l i q
      rw [← hC2 l i q]
      rcases Nat.eq_zero_or_pos l with r | r
      · subst r
        rw [pm_up_i (by omega), pm_up_i (by omega)]
      · rw [pm_up_c (by omega), pm_up_c (by omega)]
  · rw [if_pos hy] at fin
    obtain ⟨-, rfl⟩ := Prod.mk.inj fin
    refine Or.inr ⟨by omega, ⟨k, t, hk, v12, v13, xx k k83.1 xk, ?_, ?_⟩, ?_, ?_, hC2, hAB⟩
    · exact (xp_fr fun l _ => c1 _ l (by omega)).trans xk1
    · exact (xp_fr fun l _ => c1 _ l (by omega)).trans xk2
    · exact ((n3 0 14 (by omega) (by omega)).trans (z0 14)).trans e14
    · exact ((n3 0 15 (by omega) (by omega)).trans (z0 15)).trans e15
/-- what has been tried ahead of sum s and change v: the kept one is of these and fits best of them -/
def scv (s : Nat) (f g : Int → Int → Nat) (V U : pm_M) (S v : Int) : Prop := ∃ A B, scl s f g V U A B ∧ ((A.natAbs : Int) + B.natAbs < S ∨ ((A.natAbs : Int) + B.natAbs = S ∧ A < v)) ∧ ∀ x y, sgr x y → ((x.natAbs : Int) + y.natAbs < S ∨ ((x.natAbs : Int) + y.natAbs = S ∧ x < v)) → bt f g A B x y
theorem sp_spans (hF : ∀ (t : Nat) (a b : Int) (U U1 : pm_M) (z : Int), (t = 84 ∨ t = 87) → sgr a b → vC V U → F_X11_gatherOdds t (p : Int) a b P U = (z, U1) → xc U1 t s ∧ xp U1 (t + 1) s = f a b ∧ xp U1 (t + 2) s = g a b ∧ vC U U1 ∧ vK t U U1) (h7 : V 7 p = P) (hg : ∀ a b, sgr a b → 0 < g a b) (hc : ck V) : ∃ z Z A B, F_X11_findOwnSpans (p : Int) V = (z, Z) ∧ scl s f g V Z A B ∧ ∀ x y, sgr x y → bt f g A B x y := by
  have e := F_X11_findOwnSpans_eq (p : Int) V
  have t7 : V 7 ((p : Int)).toNat = P := by rw [Int.toNat_natCast]; exact h7
  have step : ∀ (S v : Int) (U : pm_M) (A B a b : Int) (z : Int) (Z : pm_M) (T T' : Int → Int → Prop), scl s f g V U A B → sgr a b → F_X11_trySpans (p : Int) a b U = (z, Z) → (∀ x y, sgr x y → T x y → bt f g A B x y) → (∀ x y, T' x y → T x y ∨ (x = a ∧ y = b)) → lx A B a b → ∃ A' B', scl s f g V Z A' B' ∧ ((A' = A ∧ B' = B) ∨ (A' = a ∧ B' = b)) ∧ ∀ x y, sgr x y → T' x y → bt f g A' B' x y := by
    intro S v U A B a b z Z T T' h hab hZ hT hT' hlx
    rcases sp_try hF h7 h hab hZ with ⟨c, h1⟩ | ⟨c, h1⟩
    · refine ⟨a, b, h1, Or.inr ⟨rfl, rfl⟩, fun x y hxy t => ?_⟩
      rcases hT' x y t with t | ⟨rfl, rfl⟩
      · exact (hT x y hxy t).new c (hg x y hxy)
      · exact bt.self
    · refine ⟨A, B, h1, Or.inl ⟨rfl, rfl⟩, fun x y hxy t => ?_⟩
      rcases hT' x y t with t | ⟨rfl, rfl⟩
      · exact hT x y hxy t
      · rcases Nat.lt_or_ge (f x y * g A B) (f A B * g x y) with q | q
        · exact Or.inl q
        · exact Or.inr ⟨by omega, Or.inr hlx⟩
  have loops : ∀ (d : Int × pm_M) (L : Int × pm_M → (Int × pm_M) ⊕ (Int × pm_M)) (V0 : pm_M), (∀ (S : Int) (U : pm_M), L (S, U) = if 24 < S then .inr (0, U) else (pf_val (.inr ((0 : Int), V)) (fun (q : Int × pm_M) => match q with | (x34, V36) => ((if 12 < x34 then (pf_let (S + 1) fun x49 => (.inr (.inl (x49, V36)))) else (pf_let (pm_ab x34) fun y51 => (if (S - y51) < 0 then ((if (S - y51) ≤ 0 then (pf_let (x34 + 1) fun x56 => (.inl (x56, V36))) else ((.inr (.inr ((0 : Int), V)))))) else ((if 12 < (S - y51) then ((if (S - y51) ≤ 0 then ((.inr (.inr ((0 : Int), V)))) else ((if 12 < (S - y51) then (pf_let (x34 + 1) fun x61 => (.inl (x61, V36))) else ((.inr (.inr ((0 : Int), V)))))))) else (pf_call (F_X11_trySpans (p : Int) x34 (-(S - y51)) V36) fun _ V64 => (if (S - y51) ≤ 0 then (pf_let (x34 + 1) fun x73 => (.inl (x73, V64))) else ((if 12 < (S - y51) then ((.inr (.inr ((0 : Int), V)))) else (pf_call (F_X11_trySpans (p : Int) x34 (S - y51) V64) fun _ V77 => pf_let (x34 + 1) fun x85 => (.inl (x85, V77)))))))))))))) ((-12), U))) → scl s f g V V0 0 0 → ∃ z Z A B, pf_val d L (1, V0) = (z, Z) ∧ scl s f g V Z A B ∧ ∀ x y, sgr x y → bt f g A B x y := by
    intro d L V0 hL h0
    have key := pf_val_ind2 (d := d) (b := L) (fun q => 1 ≤ q.1 ∧ q.1 ≤ 25 ∧ scv s f g V q.2 q.1 (-12)) (fun o => ∃ A B, scl s f g V o.2 A B ∧ ∀ x y, sgr x y → bt f g A B x y) (fun q => (25 - q.1).toNat) ?_ (1, V0) ⟨Int.le_refl _, show (1 : Int) ≤ 25 by decide, 0, 0, h0, Or.inl (show (((0 : Int).natAbs : Nat) : Int) + (((0 : Int).natAbs : Nat) : Int) < 1 by decide), fun x y hxy q => ?_⟩
    · obtain ⟨A, B, k1, k2⟩ := key
      exact ⟨_, _, A, B, rfl, k1, k2⟩
    · rintro ⟨S, U⟩ ⟨p0, p1, hS⟩
      dsimp only at p0 p1 hS
      have q1 := hL S U
      by_cases c : 24 < S
      · obtain ⟨A, B, k1, k2, k3⟩ := hS
        refine Or.inr ⟨_, q1.trans (if_pos c), A, B, k1, fun x y hxy => k3 x y hxy (Or.inl ?_)⟩
        have := hxy.1
        have := hxy.2
        omega
      · replace q1 := q1.trans (if_neg c)
        obtain ⟨M, hM, q1⟩ := pf_loop q1
        have key2 := pf_val_ind2 (d := (.inr ((0 : Int), V))) (b := M) (fun q => -12 ≤ q.1 ∧ q.1 ≤ 13 ∧ scv s f g V q.2 S q.1) (fun o => ∃ U', o = .inl (S + 1, U') ∧ scv s f g V U' (S + 1) (-12)) (fun q => (13 - q.1).toNat) ?_ (-12, U) ⟨Int.le_refl _, show (-12 : Int) ≤ 13 by decide, hS⟩
        · obtain ⟨U', k1, k2⟩ := key2
          exact Or.inl ⟨_, q1.trans k1, ⟨by dsimp only; omega, by dsimp only; omega, k2⟩, by dsimp only; omega⟩
        · rintro ⟨v, U⟩ ⟨p0', p1', A, B, k1, k2, k3⟩
          dsimp only at p0' p1' k1 k2 k3
          have q2 := congrFun hM (v, U)
          simp only [] at q2
          by_cases c2 : 12 < v
          · refine Or.inr ⟨_, (q2.trans (if_pos c2)).trans (pf_let_eq rfl), U, rfl, A, B, k1, Or.inl ?_, fun x y hxy h => k3 x y hxy ?_⟩
            · omega
            · have := hxy.1
              omega
          · have av := ab_nat (x := v) ⟨p0', by omega⟩
            replace q2 := (q2.trans (if_neg c2)).trans (pf_let_eq av)
            obtain ⟨F, hF2⟩ : ∃ F : Int, S - (v.natAbs : Int) = F := ⟨_, rfl⟩
            rw [hF2] at q2
            have none : (F < 0 ∨ 12 < F) → scv s f g V U S (v + 1) := fun hn => ⟨A, B, k1, by omega, fun x y hxy h => k3 x y hxy (by
              have := hxy.2
              by_cases ev : x = v
              · subst ev
                omega
              · omega)⟩
            by_cases c3 : F < 0
            · exact Or.inl ⟨_, ((q2.trans (if_pos c3)).trans (if_pos (by omega))).trans (pf_let_eq rfl), ⟨by dsimp only; omega, by dsimp only; omega, none (Or.inl c3)⟩, by dsimp only; omega⟩
            · replace q2 := q2.trans (if_neg c3)
              by_cases c4 : 12 < F
              · exact Or.inl ⟨_, (((q2.trans (if_pos c4)).trans (if_neg (by omega))).trans (if_pos c4)).trans (pf_let_eq rfl), ⟨by dsimp only; omega, by dsimp only; omega, none (Or.inr c4)⟩, by dsimp only; omega⟩
              · replace q2 := q2.trans (if_neg c4)
                obtain ⟨z1, U1, m1⟩ : ∃ z T, F_X11_trySpans (p : Int) v (-F) U = (z, T) := ⟨_, _, rfl⟩
                replace q2 := q2.trans (pf_call_eq m1)
                obtain ⟨A1, B1, s1, s2, s3⟩ := step S v U A B v (-F) z1 U1 (fun x y => (x.natAbs : Int) + y.natAbs < S ∨ ((x.natAbs : Int) + y.natAbs = S ∧ x < v)) (fun x y => ((x.natAbs : Int) + y.natAbs < S ∨ ((x.natAbs : Int) + y.natAbs = S ∧ x < v)) ∨ (x = v ∧ y = -F)) k1 ⟨⟨p0', by omega⟩, by omega, by omega⟩ m1 k3 (fun x y h => h) (by unfold lx; omega)
                by_cases c5 : F ≤ 0
                · refine Or.inl ⟨_, (q2.trans (if_pos c5)).trans (pf_let_eq rfl), ⟨by dsimp only; omega, by dsimp only; omega, A1, B1, s1, ?_, fun x y hxy h => s3 x y hxy ?_⟩, by dsimp only; omega⟩
                  · rcases s2 with ⟨rfl, rfl⟩ | ⟨rfl, rfl⟩ <;> omega
                  · by_cases ev : x = v
                    · subst ev
                      omega
                    · omega
                · obtain ⟨z2, U2, m2⟩ : ∃ z T, F_X11_trySpans (p : Int) v F U1 = (z, T) := ⟨_, _, rfl⟩
                  replace q2 := (((q2.trans (if_neg c5)).trans (if_neg c4)).trans (pf_call_eq m2)).trans (pf_let_eq rfl)
                  obtain ⟨A2, B2, t1, t2, t3⟩ := step S v U1 A1 B1 v F z2 U2 (fun x y => ((x.natAbs : Int) + y.natAbs < S ∨ ((x.natAbs : Int) + y.natAbs = S ∧ x < v)) ∨ (x = v ∧ y = -F)) (fun x y => (((x.natAbs : Int) + y.natAbs < S ∨ ((x.natAbs : Int) + y.natAbs = S ∧ x < v)) ∨ (x = v ∧ y = -F)) ∨ (x = v ∧ y = F)) s1 ⟨⟨p0', by omega⟩, by omega, by omega⟩ m2 s3 (fun x y h => h) (by unfold lx; rcases s2 with ⟨rfl, rfl⟩ | ⟨rfl, rfl⟩ <;> omega)
                  refine Or.inl ⟨_, q2, ⟨by dsimp only; omega, by dsimp only; omega, A2, B2, t1, ?_, fun x y hxy h => t3 x y hxy ?_⟩, by dsimp only; omega⟩
                  · rcases t2 with ⟨rfl, rfl⟩ | ⟨rfl, rfl⟩
                    · rcases s2 with ⟨rfl, rfl⟩ | ⟨rfl, rfl⟩ <;> omega
                    · omega
                  · by_cases ev : x = v
                    · subst ev
                      omega
                    · omega
    · have ex : x = 0 := by omega
      have ey : y = 0 := by omega
      rw [ex, ey]
      exact bt.self
  have cls : ∀ (k t : Nat) (z0 : Int) (V0 : pm_M), kt2 k t → V 0 12 = (k : Int) → V 0 13 = (t : Int) → F_X11_gatherOdds k (p : Int) 0 0 P (pm_up (pm_up V 0 14 0) 0 15 0) = (z0, V0) → scl s f g V V0 0 0 := by
    intro k t z0 V0 hk u12 u13 h0
    have c0 : vC V (pm_up (pm_up V 0 14 0) 0 15 0) := fun l i q => by
      rcases Nat.eq_zero_or_pos l with r | r
      · subst r
        rw [pm_up_i (by omega), pm_up_i (by omega)]
      · rw [pm_up_c (by omega), pm_up_c (by omega)]
    obtain ⟨g1, g2, g3, g4, g5⟩ := hF k 0 0 _ V0 z0 (by rcases hk with ⟨rfl, -⟩ | ⟨rfl, -⟩; exact Or.inl rfl; exact Or.inr rfl) ⟨⟨by decide, by decide⟩, by decide, by decide⟩ c0 h0
    have z0' : ∀ i, V0 0 i = pm_up (pm_up V 0 14 0) 0 15 0 0 i := fun i => g5 0 i (Or.inr rfl) (by rcases hk with ⟨rfl, -⟩ | ⟨rfl, -⟩ <;> decide) (by omega) (by omega)
    refine ⟨⟨k, t, hk, ?_, ?_, g1, g2, g3⟩, ?_, ?_, c0.tr g4, ⟨⟨by decide, by decide⟩, by decide, by decide⟩⟩
    · rw [z0', pm_up_i (by decide), pm_up_i (by decide)]
      exact u12
    · rw [z0', pm_up_i (by decide), pm_up_i (by decide)]
      exact u13
    · rw [z0', pm_up_i (by decide), pm_up_s]
    · rw [z0', pm_up_s]
  rcases hc with ⟨u12, u13⟩ | ⟨u12, u13⟩
  · obtain ⟨z0, V0, h0⟩ : ∃ z T, F_X11_gatherOdds 84 (p : Int) 0 0 P (pm_up (pm_up V 0 14 0) 0 15 0) = (z, T) := ⟨_, _, rfl⟩
    replace e := ((e.trans (if_pos u12)).trans (pf_let_eq t7)).trans (pf_call_eq h0)
    obtain ⟨L, hL, e⟩ := pf_loop e
    obtain ⟨z, Z, A, B, k1, k2, k3⟩ := loops _ L V0 (fun S U => congrFun hL (S, U)) (cls 84 87 z0 V0 (Or.inl ⟨rfl, rfl⟩) u12 u13 h0)
    exact ⟨z, Z, A, B, e.trans k1, k2, k3⟩
  · obtain ⟨z0, V0, h0⟩ : ∃ z T, F_X11_gatherOdds 87 (p : Int) 0 0 P (pm_up (pm_up V 0 14 0) 0 15 0) = (z, T) := ⟨_, _, rfl⟩
    replace e := ((e.trans (if_neg (by rw [u12]; decide))).trans (pf_let_eq t7)).trans (pf_call_eq h0)
    obtain ⟨L, hL, e⟩ := pf_loop e
    obtain ⟨z, Z, A, B, k1, k2, k3⟩ := loops _ L V0 (fun S U => congrFun hL (S, U)) (cls 87 84 z0 V0 (Or.inr ⟨rfl, rfl⟩) u12 u13 h0)
    exact ⟨z, Z, A, B, e.trans k1, k2, k3⟩
end SPC
