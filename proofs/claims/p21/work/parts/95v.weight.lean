/-! WEIGHTS: weight, chance, kind, likely, noticed on both sides -/
theorem wz_weighs {V W : pm_M} (h : wq V W) (a1 a2 a3 a4 : Int) : ∃ y Z X, F_X11_weighs a1 a2 a3 a4 V = (y, Z) ∧ F_X12_weighsIf a1 a2 a3 a4 W = (y, X) ∧ ((y = 0 ∧ Z = V ∧ X = W) ∨ (y = 1 ∧ (0 ≤ a1 ∧ a1 ≤ 6) ∧ (-99 ≤ a4 ∧ a4 ≤ 99) ∧ ∃ c : Nat, V 0 8 = (c : Int) ∧ wx c (W 90 16) Z X ∧ fC V Z ∧ fR W X)) := by
  obtain ⟨hq, hp, hb, h13⟩ := h
  have hs := hq.hs
  have h5 := hq.2.2.2.2.1
  have e1 := F_X11_weighs_eq a1 a2 a3 a4 V
  have e2 := F_X12_weighsIf_eq a1 a2 a3 a4 W
  by_cases cl : 0 ≤ a1 ∧ a1 ≤ 6
  · replace e1 := e1.trans (pf_call_eq ((nf_isLaw a1).1 cl))
    replace e1 := e1.trans (if_neg (by decide))
    replace e2 := e2.trans (pf_call_eq ((nf_isLawR a1).1 cl))
    replace e2 := e2.trans (if_neg (by decide))
    by_cases ct : 0 ≤ a2 ∧ a2 / 100 < W 90 23 ∧ a2 / 10 % 10 < W 90 16 ∧ a2 % 10 < W 90 16 ∧ 0 ≤ a3 ∧ a3 ≤ 99 ∧ -99 ≤ a4 ∧ a4 ≤ 99
    · replace e1 := e1.trans (pf_call_eq ((nf_isTrial hs a2 a3 a4).1 (by rw [h5]; exact ct)))
      replace e1 := e1.trans (if_pos (by decide))
      replace e2 := e2.trans (pf_call_eq ((nf_isTrialR a2 a3 a4).1 ct))
      replace e2 := e2.trans (if_pos (by decide))
      obtain ⟨y1, V1, hV⟩ : ∃ y Y, F_X11_pose a2 a3 a4 V = (y, Y) := ⟨_, _, rfl⟩
      obtain ⟨y2, W1, hW⟩ : ∃ y Y, F_X12_works a2 a3 a4 W = (y, Y) := ⟨_, _, rfl⟩
      obtain ⟨y3, Z, hZ⟩ : ∃ y Y, F_X10_weigh a1 V1 = (y, Y) := ⟨_, _, rfl⟩
      obtain ⟨y4, X, hX⟩ : ∃ y Y, F_X12_weighs a1 W1 = (y, Y) := ⟨_, _, rfl⟩
      replace e1 := e1.trans (pf_call_eq hV)
      replace e1 := e1.trans (pf_call_eq hZ)
      replace e2 := e2.trans (pf_call_eq hW)
      replace e2 := e2.trans (pf_let_eq rfl)
      replace e2 := e2.trans (pf_let_eq rfl)
      replace e2 := e2.trans (pf_call_eq hX)
      obtain ⟨c, c0, c1, -, -, c2, c3⟩ := wz_pose hq hp hb h13 ct.1 ct.2.1 ct.2.2.1 ct.2.2.2.1 ⟨ct.2.2.2.2.1, ct.2.2.2.2.2.1⟩ ct.2.2.2.2.2.2 hV hW
      obtain ⟨d1, d2⟩ := ww_weigh c1 cl hZ hX
      exact ⟨1, Z, X, e1, e2, Or.inr ⟨rfl, cl, ct.2.2.2.2.2.2, c, c0, d1, c2.tr d2.C, c3.tr d2.R⟩⟩
    · replace e1 := e1.trans (pf_call_eq ((nf_isTrial hs a2 a3 a4).2 (by rw [h5]; exact ct)))
      replace e1 := e1.trans (if_neg (by decide))
      replace e2 := e2.trans (pf_call_eq ((nf_isTrialR a2 a3 a4).2 ct))
      replace e2 := e2.trans (if_neg (by decide))
      exact ⟨0, V, W, e1, e2, Or.inl ⟨rfl, rfl, rfl⟩⟩
  · replace e1 := e1.trans (pf_call_eq ((nf_isLaw a1).2 cl))
    replace e1 := e1.trans (if_pos (by decide))
    replace e2 := e2.trans (pf_call_eq ((nf_isLawR a1).2 cl))
    replace e2 := e2.trans (if_pos (by decide))
    exact ⟨0, V, W, e1, e2, Or.inl ⟨rfl, rfl, rfl⟩⟩
theorem mB_weight {V W : pm_M} (h : wq V W) (a1 a2 a3 a4 a5 : Int) : ∃ y V1 W1, F_X11_weight a1 a2 a3 a4 a5 V = (y, V1) ∧ F_X12_weight a1 a2 a3 a4 a5 W = (y, W1) ∧ True := by
  obtain ⟨y, Z, X, f1, f2, f3⟩ := wz_weighs h a1 a2 a3 a4
  have hs := h.1.hs
  have e1 := F_X11_weight_eq a1 a2 a3 a4 a5 V
  have e2 := (F_X12_weight_eq a1 a2 a3 a4 a5 W).trans (pf_call_eq f2)
  by_cases c5 : a5 = -1
  · replace e1 := (e1.trans (if_pos c5)).trans (pf_call_eq f1)
    rcases f3 with ⟨rfl, rfl, rfl⟩ | ⟨rfl, -, -, c, -, k, -, g⟩
    · replace e1 := e1.trans (if_neg (by decide))
      replace e2 := e2.trans (if_pos (by decide))
      exact ⟨_, _, _, e1, e2, trivial⟩
    · obtain ⟨w, -, -, w16, -, t1, t2, t3, -⟩ := k.get
      replace e1 := (e1.trans (if_pos (by decide))).trans (if_neg (fun q => q c5))
      replace e1 := (e1.trans (pf_let_eq rfl)).trans (pf_let_eq rfl)
      replace e2 := ((e2.trans (if_neg (by decide))).trans (if_pos c5)).trans (if_neg (fun q => q c5))
      replace e2 := e2.trans (pf_let_eq rfl)
      rw [t1, pm_w32_id ⟨by omega, by omega⟩] at e1
      exact ⟨_, _, _, e1, e2, trivial⟩
  · replace e1 := e1.trans (if_neg c5)
    by_cases cs : 0 ≤ a5 ∧ a5 < W 90 16
    · replace e1 := (e1.trans (pf_call_eq ((nf_isSound hs a5).1 cs))).trans (if_neg (by decide))
      replace e1 := e1.trans (pf_call_eq f1)
      rcases f3 with ⟨rfl, rfl, rfl⟩ | ⟨rfl, -, -, c, -, k, -, g⟩
      · replace e1 := e1.trans (if_neg (by decide))
        replace e2 := e2.trans (if_pos (by decide))
        exact ⟨_, _, _, e1, e2, trivial⟩
      · obtain ⟨w, ⟨-, hw, -, w13, -⟩, -, w16, wj, -⟩ := k.get
        obtain ⟨x1, x2, x3⟩ := wj a5.toNat (by omega)
        replace e1 := (e1.trans (if_pos (by decide))).trans (if_pos c5)
        replace e2 := (e2.trans (if_neg (by decide))).trans (if_neg c5)
        replace e2 := e2.trans (pf_let_eq rfl)
        replace e2 := e2.trans (pf_call_eq ((nf_in a5 0 (X 90 16 - 1)).1 ⟨cs.1, by omega⟩))
        replace e2 := ((e2.trans (if_pos (by decide))).trans (if_pos c5)).trans (pf_let_eq rfl)
        rcases hw with rfl | rfl
        · replace e1 := (e1.trans (if_pos w13)).trans (pf_let_eq rfl)
          replace e1 := e1.trans (pf_let_eq rfl)
          rw [x1, pm_w32_id ⟨by omega, by omega⟩] at e1
          exact ⟨_, _, _, e1, e2, trivial⟩
        · replace e1 := (e1.trans (if_neg (by omega))).trans (pf_let_eq rfl)
          replace e1 := e1.trans (pf_let_eq rfl)
          rw [x1, pm_w32_id ⟨by omega, by omega⟩] at e1
          exact ⟨_, _, _, e1, e2, trivial⟩
    · replace e1 := (e1.trans (pf_call_eq ((nf_isSound hs a5).2 cs))).trans (if_pos (by decide))
      rcases f3 with ⟨rfl, rfl, rfl⟩ | ⟨rfl, -, -, c, -, k, -, g⟩
      · replace e2 := e2.trans (if_pos (by decide))
        exact ⟨_, _, _, e1, e2, trivial⟩
      · obtain ⟨w, -, -, w16, -⟩ := k.get
        replace e2 := (e2.trans (if_neg (by decide))).trans (if_neg c5)
        replace e2 := e2.trans (pf_let_eq rfl)
        replace e2 := e2.trans (pf_call_eq ((nf_in a5 0 (X 90 16 - 1)).2 (by omega)))
        replace e2 := e2.trans (if_neg (by decide))
        exact ⟨_, _, _, e1, e2, trivial⟩
theorem mB_chance {V W : pm_M} (h : wq V W) (a1 a2 a3 a4 a5 : Int) : ∃ y V1 W1, F_X11_chance a1 a2 a3 a4 a5 V = (y, V1) ∧ F_X12_chance a1 a2 a3 a4 a5 W = (y, W1) ∧ True := by
  obtain ⟨y, Z, X, f1, f2, f3⟩ := wz_weighs h a1 a2 a3 a4
  have hs := h.1.hs
  have e1 := F_X11_chance_eq a1 a2 a3 a4 a5 V
  have e2 := (F_X12_chance_eq a1 a2 a3 a4 a5 W).trans (pf_call_eq f2)
  by_cases cs : 0 ≤ a5 ∧ a5 < W 90 16
  · replace e1 := (e1.trans (pf_call_eq ((nf_isSound hs a5).1 cs))).trans (if_neg (by decide))
    replace e1 := e1.trans (pf_call_eq f1)
    rcases f3 with ⟨rfl, rfl, rfl⟩ | ⟨rfl, -, -, c, -, k, -, g⟩
    · replace e1 := e1.trans (if_neg (by decide))
      replace e2 := e2.trans (if_pos (by decide))
      exact ⟨_, _, _, e1, e2, trivial⟩
    · obtain ⟨w, -, -, w16, -⟩ := k.get
      obtain ⟨p, p1, p2⟩ := k.chance cs
      replace e1 := (e1.trans (if_pos (by decide))).trans (pf_call_eq p1)
      replace e2 := (e2.trans (if_neg (by decide))).trans (pf_let_eq rfl)
      replace e2 := e2.trans (pf_call_eq ((nf_in a5 0 (X 90 16 - 1)).1 ⟨cs.1, by omega⟩))
      replace e2 := (e2.trans (if_neg (by decide))).trans (pf_call_eq p2)
      exact ⟨_, _, _, e1, e2, trivial⟩
  · replace e1 := (e1.trans (pf_call_eq ((nf_isSound hs a5).2 cs))).trans (if_pos (by decide))
    rcases f3 with ⟨rfl, rfl, rfl⟩ | ⟨rfl, -, -, c, -, k, -, g⟩
    · replace e2 := e2.trans (if_pos (by decide))
      exact ⟨_, _, _, e1, e2, trivial⟩
    · obtain ⟨w, -, -, w16, -⟩ := k.get
      replace e2 := (e2.trans (if_neg (by decide))).trans (pf_let_eq rfl)
      replace e2 := e2.trans (pf_call_eq ((nf_in a5 0 (X 90 16 - 1)).2 (by omega)))
      replace e2 := e2.trans (if_pos (by decide))
      exact ⟨_, _, _, e1, e2, trivial⟩
theorem nf_isKind {V : pm_M} (a1 : Int) : (0 ≤ a1 ∧ a1 ≤ 3 → F_X11_isKind a1 V = (1, V)) ∧ (¬ (0 ≤ a1 ∧ a1 ≤ 3) → F_X11_isKind a1 V = (0, V)) := by
  rw [F_X11_isKind_eq]
  refine ⟨fun q => ?_, fun q => ?_⟩
  · rw [if_neg (by omega), if_neg (by omega)]
  · by_cases c : a1 < 0
    · rw [if_pos c]
    · rw [if_neg c, if_pos (by omega)]
theorem mB_kind {V W : pm_M} (h : wq V W) (a1 a2 a3 a4 a5 : Int) : ∃ y V1 W1, F_X11_kind a1 a2 a3 a4 a5 V = (y, V1) ∧ F_X12_kind a1 a2 a3 a4 a5 W = (y, W1) ∧ True := by
  obtain ⟨y, Z, X, f1, f2, f3⟩ := wz_weighs h a1 a2 a3 a4
  have e1 := F_X11_kind_eq a1 a2 a3 a4 a5 V
  have e2 := (F_X12_kind_eq a1 a2 a3 a4 a5 W).trans (pf_call_eq f2)
  by_cases cs : 0 ≤ a5 ∧ a5 ≤ 3
  · replace e1 := (e1.trans (pf_call_eq ((nf_isKind a5).1 cs))).trans (if_neg (by decide))
    replace e1 := e1.trans (pf_call_eq f1)
    rcases f3 with ⟨rfl, rfl, rfl⟩ | ⟨rfl, -, -, c, -, k, -, g⟩
    · replace e1 := e1.trans (if_neg (by decide))
      replace e2 := e2.trans (if_pos (by decide))
      exact ⟨_, _, _, e1, e2, trivial⟩
    · obtain ⟨p, p1, p2⟩ := k.kind a5
      replace e1 := (e1.trans (if_pos (by decide))).trans (pf_call_eq p1)
      replace e2 := (e2.trans (if_neg (by decide))).trans (pf_call_eq ((nf_in a5 0 3).1 cs))
      replace e2 := (e2.trans (if_neg (by decide))).trans (pf_call_eq p2)
      exact ⟨_, _, _, e1, e2, trivial⟩
  · replace e1 := (e1.trans (pf_call_eq ((nf_isKind a5).2 cs))).trans (if_pos (by decide))
    rcases f3 with ⟨rfl, rfl, rfl⟩ | ⟨rfl, -, -, c, -, k, -, g⟩
    · replace e2 := e2.trans (if_pos (by decide))
      exact ⟨_, _, _, e1, e2, trivial⟩
    · replace e2 := (e2.trans (if_neg (by decide))).trans (pf_call_eq ((nf_in a5 0 3).2 cs))
      replace e2 := e2.trans (if_pos (by decide))
      exact ⟨_, _, _, e1, e2, trivial⟩
theorem mB_likely {V W : pm_M} (h : wq V W) (a1 a2 a3 a4 : Int) : ∃ y V1 W1, F_X11_likely a1 a2 a3 a4 V = (y, V1) ∧ F_X12_likely a1 a2 a3 a4 W = (y, W1) ∧ True := by
  obtain ⟨y, Z, X, f1, f2, f3⟩ := wz_weighs h a1 a2 a3 a4
  have e1 := (F_X11_likely_eq a1 a2 a3 a4 V).trans (pf_call_eq f1)
  have e2 := (F_X12_likely_eq a1 a2 a3 a4 W).trans (pf_call_eq f2)
  rcases f3 with ⟨rfl, rfl, rfl⟩ | ⟨rfl, -, -, c, -, k, -, g⟩
  · replace e1 := e1.trans (if_neg (by decide))
    replace e2 := e2.trans (if_pos (by decide))
    exact ⟨_, _, _, e1, e2, trivial⟩
  · obtain ⟨p, p1, p2, -, -⟩ := k.ml
    replace e1 := (e1.trans (if_pos (by decide))).trans (pf_call_eq p1)
    replace e2 := (e2.trans (if_neg (by decide))).trans (pf_call_eq p2)
    exact ⟨_, _, _, e1, e2, trivial⟩
theorem mB_noticed {V W : pm_M} (h : wq V W) (a1 a2 a3 : Int) : ∃ y V1 W1, F_X11_noticed a1 a2 a3 V = (y, V1) ∧ F_X12_noticed a1 a2 a3 W = (y, W1) ∧ True := by
  obtain ⟨hq, hp, hb, h13⟩ := h
  have hs := hq.hs
  have h5 := hq.2.2.2.2.1
  have e1 := F_X11_noticed_eq a1 a2 a3 V
  have e2 := F_X12_noticed_eq a1 a2 a3 W
  have e3 := (F_X12_weighsIf_eq 4 a1 a2 a3 W).trans (pf_call_eq ((nf_isLawR 4).1 ⟨by decide, by decide⟩))
  replace e3 := e3.trans (if_neg (by decide))
  by_cases ct : 0 ≤ a1 ∧ a1 / 100 < W 90 23 ∧ a1 / 10 % 10 < W 90 16 ∧ a1 % 10 < W 90 16 ∧ 0 ≤ a2 ∧ a2 ≤ 99 ∧ -99 ≤ a3 ∧ a3 ≤ 99
  · replace e1 := (e1.trans (pf_call_eq ((nf_isTrial hs a1 a2 a3).1 (by rw [h5]; exact ct)))).trans (if_pos (by decide))
    replace e3 := (e3.trans (pf_call_eq ((nf_isTrialR a1 a2 a3).1 ct))).trans (if_pos (by decide))
    obtain ⟨y1, V1, hV⟩ : ∃ y Y, F_X11_pose a1 a2 a3 V = (y, Y) := ⟨_, _, rfl⟩
    obtain ⟨y2, W1, hW⟩ : ∃ y Y, F_X12_works a1 a2 a3 W = (y, Y) := ⟨_, _, rfl⟩
    obtain ⟨y3, Z, hZ⟩ : ∃ y Y, F_X10_weigh 4 V1 = (y, Y) := ⟨_, _, rfl⟩
    obtain ⟨y4, X, hX⟩ : ∃ y Y, F_X12_weighs 4 W1 = (y, Y) := ⟨_, _, rfl⟩
    obtain ⟨c, -, c1, -, -, -, -⟩ := wz_pose hq hp hb h13 ct.1 ct.2.1 ct.2.2.1 ct.2.2.2.1 ⟨ct.2.2.2.2.1, ct.2.2.2.2.2.1⟩ ct.2.2.2.2.2.2 hV hW
    obtain ⟨d1, d2⟩ := ww_weigh c1 ⟨by decide, by decide⟩ hZ hX
    have k : wr c (W 90 16) V1 X := c1.fr ⟨⟨fun _ _ _ _ _ => rfl, fun _ _ _ _ => rfl⟩, d2.2⟩
    obtain ⟨p, p1, p2⟩ := k.noticed
    replace e1 := (e1.trans (pf_call_eq hV)).trans (pf_call_eq p1)
    replace e3 := ((e3.trans (pf_call_eq hW)).trans (pf_let_eq rfl)).trans (pf_let_eq rfl)
    replace e3 := e3.trans (pf_call_eq hX)
    replace e2 := ((e2.trans (pf_call_eq e3)).trans (if_neg (by decide))).trans (pf_call_eq p2)
    exact ⟨_, _, _, e1, e2, trivial⟩
  · replace e1 := (e1.trans (pf_call_eq ((nf_isTrial hs a1 a2 a3).2 (by rw [h5]; exact ct)))).trans (if_neg (by decide))
    replace e3 := (e3.trans (pf_call_eq ((nf_isTrialR a1 a2 a3).2 ct))).trans (if_neg (by decide))
    replace e2 := (e2.trans (pf_call_eq e3)).trans (if_pos (by decide))
    exact ⟨_, _, _, e1, e2, trivial⟩
/-! without a scene -/
theorem mA_isTrial {V : pm_M} (h5 : V 4 1 = 0) (a1 a2 a3 : Int) : F_X11_isTrial a1 a2 a3 V = (0, V) := by
  have e := F_X11_isTrial_eq a1 a2 a3 V
  by_cases c : a1 < 0
  · exact e.trans (if_pos c)
  · exact ((e.trans (if_neg c)).trans (pf_call_eq ((nf_isPerson (a1 / 100)).2 (by omega)))).trans (if_pos (by decide))
theorem mA_weighs {V : pm_M} (h5 : V 4 1 = 0) (a1 a2 a3 a4 : Int) : F_X11_weighs a1 a2 a3 a4 V = (0, V) := by
  have e := F_X11_weighs_eq a1 a2 a3 a4 V
  by_cases c : 0 ≤ a1 ∧ a1 ≤ 6
  · exact (((e.trans (pf_call_eq ((nf_isLaw a1).1 c))).trans (if_neg (by decide))).trans (pf_call_eq (mA_isTrial h5 a2 a3 a4))).trans (if_neg (by decide))
  · exact (e.trans (pf_call_eq ((nf_isLaw a1).2 c))).trans (if_pos (by decide))
theorem mA_isSound {V : pm_M} (hs : (V 0 8 = 45 ∧ V 45 0 = 0) ∨ (V 0 8 = 51 ∧ V 51 0 = 0)) (a : Int) : F_X11_isSound a V = (0, V) := (nf_isSound hs a).2 (by omega)
section MA
variable {V : pm_M}
theorem mA_weight (hs : (V 0 8 = 45 ∧ V 45 0 = 0) ∨ (V 0 8 = 51 ∧ V 51 0 = 0)) (h5 : V 4 1 = 0) (_ : V 4 6 = 0) (_ : V 15 0 = 0) (_ : V 25 0 = 0) (_ : V 35 0 = 0) (a1 a2 a3 a4 a5 : Int) : F_X11_weight a1 a2 a3 a4 a5 V = (-1, V) := by
  have e := F_X11_weight_eq a1 a2 a3 a4 a5 V
  by_cases c : a5 = -1
  · exact ((e.trans (if_pos c)).trans (pf_call_eq (mA_weighs h5 a1 a2 a3 a4))).trans (if_neg (by decide))
  · exact ((e.trans (if_neg c)).trans (pf_call_eq (mA_isSound hs a5))).trans (if_pos (by decide))
theorem mA_chance (hs : (V 0 8 = 45 ∧ V 45 0 = 0) ∨ (V 0 8 = 51 ∧ V 51 0 = 0)) (_ : V 4 1 = 0) (_ : V 4 6 = 0) (_ : V 15 0 = 0) (_ : V 25 0 = 0) (_ : V 35 0 = 0) (a1 a2 a3 a4 a5 : Int) : F_X11_chance a1 a2 a3 a4 a5 V = (-1, V) :=
  ((F_X11_chance_eq a1 a2 a3 a4 a5 V).trans (pf_call_eq (mA_isSound hs a5))).trans (if_pos (by decide))
theorem mA_kind (_ : (V 0 8 = 45 ∧ V 45 0 = 0) ∨ (V 0 8 = 51 ∧ V 51 0 = 0)) (h5 : V 4 1 = 0) (_ : V 4 6 = 0) (_ : V 15 0 = 0) (_ : V 25 0 = 0) (_ : V 35 0 = 0) (a1 a2 a3 a4 a5 : Int) : F_X11_kind a1 a2 a3 a4 a5 V = (-1, V) := by
  have e := F_X11_kind_eq a1 a2 a3 a4 a5 V
  by_cases c : 0 ≤ a5 ∧ a5 ≤ 3
  · exact (((e.trans (pf_call_eq ((nf_isKind a5).1 c))).trans (if_neg (by decide))).trans (pf_call_eq (mA_weighs h5 a1 a2 a3 a4))).trans (if_neg (by decide))
  · exact (e.trans (pf_call_eq ((nf_isKind a5).2 c))).trans (if_pos (by decide))
theorem mA_likely (_ : (V 0 8 = 45 ∧ V 45 0 = 0) ∨ (V 0 8 = 51 ∧ V 51 0 = 0)) (h5 : V 4 1 = 0) (_ : V 4 6 = 0) (_ : V 15 0 = 0) (_ : V 25 0 = 0) (_ : V 35 0 = 0) (a1 a2 a3 a4 : Int) : F_X11_likely a1 a2 a3 a4 V = (-1, V) :=
  ((F_X11_likely_eq a1 a2 a3 a4 V).trans (pf_call_eq (mA_weighs h5 a1 a2 a3 a4))).trans (if_neg (by decide))
theorem mA_noticed (_ : (V 0 8 = 45 ∧ V 45 0 = 0) ∨ (V 0 8 = 51 ∧ V 51 0 = 0)) (h5 : V 4 1 = 0) (_ : V 4 6 = 0) (_ : V 15 0 = 0) (_ : V 25 0 = 0) (_ : V 35 0 = 0) (a1 a2 a3 : Int) : F_X11_noticed a1 a2 a3 V = (-1, V) :=
  ((F_X11_noticed_eq a1 a2 a3 V).trans (pf_call_eq (mA_isTrial h5 a1 a2 a3))).trans (if_neg (by decide))
end MA
