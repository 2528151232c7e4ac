/-! THE TESTS of both sides: what they ask -/
theorem nf_isSound {V : pm_M} {s : Int} (hs : (V 0 8 = 45 ∧ V 45 0 = s) ∨ (V 0 8 = 51 ∧ V 51 0 = s)) (a1 : Int) : (0 ≤ a1 ∧ a1 < s → F_X11_isSound a1 V = (1, V)) ∧ (¬ (0 ≤ a1 ∧ a1 < s) → F_X11_isSound a1 V = (0, V)) := by
  have hs0 := hs
  rcases hs with ⟨h8, hs⟩ | ⟨h8, hs⟩
  · skip
    have e := F_X11_isSound_eq a1 V
    by_cases c1 : a1 < 0
    · replace e := e.trans (if_pos c1)
      exact ⟨fun h => by exfalso; omega, fun _ => e⟩
    · replace e := e.trans (if_neg c1)
      replace e := e.trans (if_pos (by omega))
      obtain ⟨u2, hu3⟩ : ∃ y, V 45 0 = y := ⟨_, rfl⟩
      replace e := e.trans (pf_let_eq hu3)
      by_cases c4 : u2 ≤ a1
      · replace e := e.trans (if_pos c4)
        exact ⟨fun h => by exfalso; omega, fun _ => e⟩
      · replace e := e.trans (if_neg c4)
        exact ⟨fun _ => e, fun h => by exfalso; omega⟩
  · skip
    have e := F_X11_isSound_eq a1 V
    by_cases c1 : a1 < 0
    · replace e := e.trans (if_pos c1)
      exact ⟨fun h => by exfalso; omega, fun _ => e⟩
    · replace e := e.trans (if_neg c1)
      replace e := e.trans (if_neg (by omega))
      obtain ⟨u2, hu3⟩ : ∃ y, V 51 0 = y := ⟨_, rfl⟩
      replace e := e.trans (pf_let_eq hu3)
      by_cases c4 : u2 ≤ a1
      · replace e := e.trans (if_pos c4)
        exact ⟨fun h => by exfalso; omega, fun _ => e⟩
      · replace e := e.trans (if_neg c4)
        exact ⟨fun _ => e, fun h => by exfalso; omega⟩
theorem nf_hasScene {V : pm_M} {s : Int} (hs : (V 0 8 = 45 ∧ V 45 0 = s) ∨ (V 0 8 = 51 ∧ V 51 0 = s))  : ((0 : Int) < s → F_X11_hasScene  V = (1, V)) ∧ (¬ ((0 : Int) < s) → F_X11_hasScene  V = (0, V)) := by
  have hs0 := hs
  rcases hs with ⟨h8, hs⟩ | ⟨h8, hs⟩
  · skip
    have e := F_X11_hasScene_eq  V
    replace e := e.trans (if_pos (by omega))
    obtain ⟨u1, hu2⟩ : ∃ y, V 45 0 = y := ⟨_, rfl⟩
    replace e := e.trans (pf_let_eq hu2)
    by_cases c3 : u1 ≤ 0
    · replace e := e.trans (if_pos c3)
      exact ⟨fun h => by exfalso; omega, fun _ => e⟩
    · replace e := e.trans (if_neg c3)
      exact ⟨fun _ => e, fun h => by exfalso; omega⟩
  · skip
    have e := F_X11_hasScene_eq  V
    replace e := e.trans (if_neg (by omega))
    obtain ⟨u1, hu2⟩ : ∃ y, V 51 0 = y := ⟨_, rfl⟩
    replace e := e.trans (pf_let_eq hu2)
    by_cases c3 : u1 ≤ 0
    · replace e := e.trans (if_pos c3)
      exact ⟨fun h => by exfalso; omega, fun _ => e⟩
    · replace e := e.trans (if_neg c3)
      exact ⟨fun _ => e, fun h => by exfalso; omega⟩
theorem nf_isPerson {V : pm_M} (a1 : Int) : (0 ≤ a1 ∧ a1 < V 4 1 → F_X11_isPerson a1 V = (1, V)) ∧ (¬ (0 ≤ a1 ∧ a1 < V 4 1) → F_X11_isPerson a1 V = (0, V)) := by
  have e := F_X11_isPerson_eq a1 V
  by_cases c1 : a1 < 0
  · replace e := e.trans (if_pos c1)
    exact ⟨fun h => by exfalso; omega, fun _ => e⟩
  · replace e := e.trans (if_neg c1)
    obtain ⟨u2, hu3⟩ : ∃ y, V 4 1 = y := ⟨_, rfl⟩
    replace e := e.trans (pf_let_eq hu3)
    by_cases c4 : u2 ≤ a1
    · replace e := e.trans (if_pos c4)
      exact ⟨fun h => by exfalso; omega, fun _ => e⟩
    · replace e := e.trans (if_neg c4)
      exact ⟨fun _ => e, fun h => by exfalso; omega⟩
theorem nf_areChanges {V : pm_M} (a1 a2 : Int) : (-30 ≤ a1 ∧ a1 ≤ 30 ∧ -30 ≤ a2 ∧ a2 ≤ 30 → F_X11_areChanges a1 a2 V = (1, V)) ∧ (¬ (-30 ≤ a1 ∧ a1 ≤ 30 ∧ -30 ≤ a2 ∧ a2 ≤ 30) → F_X11_areChanges a1 a2 V = (0, V)) := by
  have e := F_X11_areChanges_eq a1 a2 V
  by_cases c1 : a1 < (-30)
  · replace e := e.trans (if_pos c1)
    exact ⟨fun h => by exfalso; omega, fun _ => e⟩
  · replace e := e.trans (if_neg c1)
    by_cases c2 : 30 < a1
    · replace e := e.trans (if_pos c2)
      exact ⟨fun h => by exfalso; omega, fun _ => e⟩
    · replace e := e.trans (if_neg c2)
      by_cases c3 : a2 < (-30)
      · replace e := e.trans (if_pos c3)
        exact ⟨fun h => by exfalso; omega, fun _ => e⟩
      · replace e := e.trans (if_neg c3)
        by_cases c4 : 30 < a2
        · replace e := e.trans (if_pos c4)
          exact ⟨fun h => by exfalso; omega, fun _ => e⟩
        · replace e := e.trans (if_neg c4)
          exact ⟨fun _ => e, fun h => by exfalso; omega⟩
theorem nf_isBelief {V : pm_M} (a1 : Int) : (0 ≤ a1 ∧ a1 ≤ 16 → F_X11_isBelief a1 V = (1, V)) ∧ (¬ (0 ≤ a1 ∧ a1 ≤ 16) → F_X11_isBelief a1 V = (0, V)) := by
  have e := F_X11_isBelief_eq a1 V
  by_cases c1 : a1 < 0
  · replace e := e.trans (if_pos c1)
    exact ⟨fun h => by exfalso; omega, fun _ => e⟩
  · replace e := e.trans (if_neg c1)
    by_cases c2 : 16 < a1
    · replace e := e.trans (if_pos c2)
      exact ⟨fun h => by exfalso; omega, fun _ => e⟩
    · replace e := e.trans (if_neg c2)
      exact ⟨fun _ => e, fun h => by exfalso; omega⟩
theorem nf_isLaw {V : pm_M} (a1 : Int) : (0 ≤ a1 ∧ a1 ≤ 6 → F_X11_isLaw a1 V = (1, V)) ∧ (¬ (0 ≤ a1 ∧ a1 ≤ 6) → F_X11_isLaw a1 V = (0, V)) := by
  have e := F_X11_isLaw_eq a1 V
  by_cases c1 : a1 < 0
  · replace e := e.trans (if_pos c1)
    exact ⟨fun h => by exfalso; omega, fun _ => e⟩
  · replace e := e.trans (if_neg c1)
    by_cases c2 : 7 ≤ a1
    · replace e := e.trans (if_pos c2)
      exact ⟨fun h => by exfalso; omega, fun _ => e⟩
    · replace e := e.trans (if_neg c2)
      exact ⟨fun _ => e, fun h => by exfalso; omega⟩
theorem nf_isSetting {V : pm_M} (a1 : Int) : (0 ≤ a1 ∧ a1 ≤ 99 → F_X11_isSetting a1 V = (1, V)) ∧ (¬ (0 ≤ a1 ∧ a1 ≤ 99) → F_X11_isSetting a1 V = (0, V)) := by
  have e := F_X11_isSetting_eq a1 V
  by_cases c1 : a1 < 0
  · replace e := e.trans (if_pos c1)
    exact ⟨fun h => by exfalso; omega, fun _ => e⟩
  · replace e := e.trans (if_neg c1)
    by_cases c2 : 99 < a1
    · replace e := e.trans (if_pos c2)
      exact ⟨fun h => by exfalso; omega, fun _ => e⟩
    · replace e := e.trans (if_neg c2)
      exact ⟨fun _ => e, fun h => by exfalso; omega⟩
theorem nf_isLate {V : pm_M} (a1 : Int) : (-99 ≤ a1 ∧ a1 ≤ 99 → F_X11_isLate a1 V = (1, V)) ∧ (¬ (-99 ≤ a1 ∧ a1 ≤ 99) → F_X11_isLate a1 V = (0, V)) := by
  have e := F_X11_isLate_eq a1 V
  by_cases c1 : a1 < (-99)
  · replace e := e.trans (if_pos c1)
    exact ⟨fun h => by exfalso; omega, fun _ => e⟩
  · replace e := e.trans (if_neg c1)
    by_cases c2 : 99 < a1
    · replace e := e.trans (if_pos c2)
      exact ⟨fun h => by exfalso; omega, fun _ => e⟩
    · replace e := e.trans (if_neg c2)
      exact ⟨fun _ => e, fun h => by exfalso; omega⟩
theorem nf_isAnswer {V : pm_M} (a1 : Int) : (0 ≤ a1 ∧ a1 < V 4 6 → F_X7_isAnswer a1 V = (1, V)) ∧ (¬ (0 ≤ a1 ∧ a1 < V 4 6) → F_X7_isAnswer a1 V = (0, V)) := by
  have e := F_X7_isAnswer_eq a1 V
  by_cases c1 : a1 < 0
  · replace e := e.trans (if_pos c1)
    exact ⟨fun h => by exfalso; omega, fun _ => e⟩
  · replace e := e.trans (if_neg c1)
    obtain ⟨u2, hu3⟩ : ∃ y, V 4 6 = y := ⟨_, rfl⟩
    replace e := e.trans (pf_let_eq hu3)
    by_cases c4 : u2 ≤ a1
    · replace e := e.trans (if_pos c4)
      exact ⟨fun h => by exfalso; omega, fun _ => e⟩
    · replace e := e.trans (if_neg c4)
      exact ⟨fun _ => e, fun h => by exfalso; omega⟩
theorem nf_isTrial {V : pm_M} {s : Int} (hs : (V 0 8 = 45 ∧ V 45 0 = s) ∨ (V 0 8 = 51 ∧ V 51 0 = s)) (a1 a2 a3 : Int) : (0 ≤ a1 ∧ a1 / 100 < V 4 1 ∧ a1 / 10 % 10 < s ∧ a1 % 10 < s ∧ 0 ≤ a2 ∧ a2 ≤ 99 ∧ -99 ≤ a3 ∧ a3 ≤ 99 → F_X11_isTrial a1 a2 a3 V = (1, V)) ∧ (¬ (0 ≤ a1 ∧ a1 / 100 < V 4 1 ∧ a1 / 10 % 10 < s ∧ a1 % 10 < s ∧ 0 ≤ a2 ∧ a2 ≤ 99 ∧ -99 ≤ a3 ∧ a3 ≤ 99) → F_X11_isTrial a1 a2 a3 V = (0, V)) := by
  have e := F_X11_isTrial_eq a1 a2 a3 V
  by_cases c1 : a1 < 0
  · replace e := e.trans (if_pos c1)
    exact ⟨fun h => by exfalso; omega, fun _ => e⟩
  · replace e := e.trans (if_neg c1)
    by_cases c2 : 0 ≤ (a1 / 100) ∧ (a1 / 100) < V 4 1
    · replace e := e.trans (pf_call_eq ((nf_isPerson (V := V) (a1 / 100)).1 c2))
      replace e := e.trans (if_neg (by decide))
      by_cases c4 : 0 ≤ ((a1 / 10) % 10) ∧ ((a1 / 10) % 10) < s
      · replace e := e.trans (pf_call_eq ((nf_isSound (V := V) hs ((a1 / 10) % 10)).1 c4))
        replace e := e.trans (if_neg (by decide))
        by_cases c6 : 0 ≤ (a1 % 10) ∧ (a1 % 10) < s
        · replace e := e.trans (pf_call_eq ((nf_isSound (V := V) hs (a1 % 10)).1 c6))
          replace e := e.trans (if_neg (by decide))
          by_cases c8 : 0 ≤ a2 ∧ a2 ≤ 99
          · replace e := e.trans (pf_call_eq ((nf_isSetting (V := V) a2).1 c8))
            replace e := e.trans (if_neg (by decide))
            by_cases c10 : -99 ≤ a3 ∧ a3 ≤ 99
            · replace e := e.trans (pf_call_eq ((nf_isLate (V := V) a3).1 c10))
              replace e := e.trans (if_neg (by decide))
              exact ⟨fun _ => e, fun h => by exfalso; omega⟩
            · replace e := e.trans (pf_call_eq ((nf_isLate (V := V) a3).2 c10))
              replace e := e.trans (if_pos (by decide))
              exact ⟨fun h => by exfalso; omega, fun _ => e⟩
          · replace e := e.trans (pf_call_eq ((nf_isSetting (V := V) a2).2 c8))
            replace e := e.trans (if_pos (by decide))
            exact ⟨fun h => by exfalso; omega, fun _ => e⟩
        · replace e := e.trans (pf_call_eq ((nf_isSound (V := V) hs (a1 % 10)).2 c6))
          replace e := e.trans (if_pos (by decide))
          exact ⟨fun h => by exfalso; omega, fun _ => e⟩
      · replace e := e.trans (pf_call_eq ((nf_isSound (V := V) hs ((a1 / 10) % 10)).2 c4))
        replace e := e.trans (if_pos (by decide))
        exact ⟨fun h => by exfalso; omega, fun _ => e⟩
    · replace e := e.trans (pf_call_eq ((nf_isPerson (V := V) (a1 / 100)).2 c2))
      replace e := e.trans (if_pos (by decide))
      exact ⟨fun h => by exfalso; omega, fun _ => e⟩
theorem nf_in {V : pm_M} (a1 a2 a3 : Int) : (a2 ≤ a1 ∧ a1 ≤ a3 → F_X12_in a1 a2 a3 V = (1, V)) ∧ (¬ (a2 ≤ a1 ∧ a1 ≤ a3) → F_X12_in a1 a2 a3 V = (0, V)) := by
  have e := F_X12_in_eq a1 a2 a3 V
  by_cases c1 : a1 < a2
  · replace e := e.trans (if_pos c1)
    exact ⟨fun h => by exfalso; omega, fun _ => e⟩
  · replace e := e.trans (if_neg c1)
    by_cases c2 : a3 < a1
    · replace e := e.trans (if_pos c2)
      exact ⟨fun h => by exfalso; omega, fun _ => e⟩
    · replace e := e.trans (if_neg c2)
      exact ⟨fun _ => e, fun h => by exfalso; omega⟩
theorem nf_isPersonR {V : pm_M} (a1 : Int) : (0 ≤ a1 ∧ a1 < V 90 23 → F_X12_isPerson a1 V = (1, V)) ∧ (¬ (0 ≤ a1 ∧ a1 < V 90 23) → F_X12_isPerson a1 V = (0, V)) := by
  have e := F_X12_isPerson_eq a1 V
  obtain ⟨u1, hu2⟩ : ∃ y, V 90 23 = y := ⟨_, rfl⟩
  replace e := e.trans (pf_let_eq hu2)
  by_cases c3 : 0 ≤ a1 ∧ a1 ≤ (u1 - 1)
  · replace e := e.trans (pf_call_eq ((nf_in (V := V) a1 0 (u1 - 1)).1 c3))
    replace e := e.trans (if_neg (by decide))
    exact ⟨fun _ => e, fun h => by exfalso; omega⟩
  · replace e := e.trans (pf_call_eq ((nf_in (V := V) a1 0 (u1 - 1)).2 c3))
    replace e := e.trans (if_pos (by decide))
    exact ⟨fun h => by exfalso; omega, fun _ => e⟩
theorem nf_areChangesR {V : pm_M} (a1 a2 a3 : Int) : (-30 ≤ a1 ∧ a1 ≤ 30 ∧ -30 ≤ a2 ∧ a2 ≤ 30 ∧ 0 ≤ a3 ∧ a3 ≤ 16 → F_X12_areChanges a1 a2 a3 V = (1, V)) ∧ (¬ (-30 ≤ a1 ∧ a1 ≤ 30 ∧ -30 ≤ a2 ∧ a2 ≤ 30 ∧ 0 ≤ a3 ∧ a3 ≤ 16) → F_X12_areChanges a1 a2 a3 V = (0, V)) := by
  have e := F_X12_areChanges_eq a1 a2 a3 V
  by_cases c1 : (-30) ≤ a1 ∧ a1 ≤ 30
  · replace e := e.trans (pf_call_eq ((nf_in (V := V) a1 (-30) 30).1 c1))
    replace e := e.trans (if_neg (by decide))
    by_cases c3 : (-30) ≤ a2 ∧ a2 ≤ 30
    · replace e := e.trans (pf_call_eq ((nf_in (V := V) a2 (-30) 30).1 c3))
      replace e := e.trans (if_neg (by decide))
      by_cases c5 : 0 ≤ a3 ∧ a3 ≤ 16
      · replace e := e.trans (pf_call_eq ((nf_in (V := V) a3 0 16).1 c5))
        replace e := e.trans (if_neg (by decide))
        exact ⟨fun _ => e, fun h => by exfalso; omega⟩
      · replace e := e.trans (pf_call_eq ((nf_in (V := V) a3 0 16).2 c5))
        replace e := e.trans (if_pos (by decide))
        exact ⟨fun h => by exfalso; omega, fun _ => e⟩
    · replace e := e.trans (pf_call_eq ((nf_in (V := V) a2 (-30) 30).2 c3))
      replace e := e.trans (if_pos (by decide))
      exact ⟨fun h => by exfalso; omega, fun _ => e⟩
  · replace e := e.trans (pf_call_eq ((nf_in (V := V) a1 (-30) 30).2 c1))
    replace e := e.trans (if_pos (by decide))
    exact ⟨fun h => by exfalso; omega, fun _ => e⟩
theorem nf_isLawR {V : pm_M} (a1 : Int) : (0 ≤ a1 ∧ a1 ≤ 6 → F_X12_isLaw a1 V = (1, V)) ∧ (¬ (0 ≤ a1 ∧ a1 ≤ 6) → F_X12_isLaw a1 V = (0, V)) := by
  have e := F_X12_isLaw_eq a1 V
  by_cases c1 : 0 ≤ a1 ∧ a1 ≤ 6
  · replace e := e.trans (pf_call_eq ((nf_in (V := V) a1 0 6).1 c1))
    exact ⟨fun _ => e, fun h => by exfalso; omega⟩
  · replace e := e.trans (pf_call_eq ((nf_in (V := V) a1 0 6).2 c1))
    exact ⟨fun h => by exfalso; omega, fun _ => e⟩
theorem nf_isTrialR {V : pm_M} (a1 a2 a3 : Int) : (0 ≤ a1 ∧ a1 / 100 < V 90 23 ∧ a1 / 10 % 10 < V 90 16 ∧ a1 % 10 < V 90 16 ∧ 0 ≤ a2 ∧ a2 ≤ 99 ∧ -99 ≤ a3 ∧ a3 ≤ 99 → F_X12_isTrial a1 a2 a3 V = (1, V)) ∧ (¬ (0 ≤ a1 ∧ a1 / 100 < V 90 23 ∧ a1 / 10 % 10 < V 90 16 ∧ a1 % 10 < V 90 16 ∧ 0 ≤ a2 ∧ a2 ≤ 99 ∧ -99 ≤ a3 ∧ a3 ≤ 99) → F_X12_isTrial a1 a2 a3 V = (0, V)) := by
  have e := F_X12_isTrial_eq a1 a2 a3 V
  by_cases c1 : a1 < 0
  · replace e := e.trans (if_pos c1)
    exact ⟨fun h => by exfalso; omega, fun _ => e⟩
  · replace e := e.trans (if_neg c1)
    obtain ⟨u2, hu3⟩ : ∃ y, V 90 23 = y := ⟨_, rfl⟩
    replace e := e.trans (pf_let_eq hu3)
    by_cases c4 : u2 ≤ (a1 / 100)
    · replace e := e.trans (if_pos c4)
      exact ⟨fun h => by exfalso; omega, fun _ => e⟩
    · replace e := e.trans (if_neg c4)
      obtain ⟨u5, hu6⟩ : ∃ y, V 90 16 = y := ⟨_, rfl⟩
      replace e := e.trans (pf_let_eq hu6)
      by_cases c7 : u5 ≤ ((a1 / 10) % 10)
      · replace e := e.trans (if_pos c7)
        exact ⟨fun h => by exfalso; omega, fun _ => e⟩
      · replace e := e.trans (if_neg c7)
        by_cases c8 : u5 ≤ (a1 % 10)
        · replace e := e.trans (if_pos c8)
          exact ⟨fun h => by exfalso; omega, fun _ => e⟩
        · replace e := e.trans (if_neg c8)
          by_cases c9 : 0 ≤ a2 ∧ a2 ≤ 99
          · replace e := e.trans (pf_call_eq ((nf_in (V := V) a2 0 99).1 c9))
            replace e := e.trans (if_neg (by decide))
            by_cases c11 : (-99) ≤ a3 ∧ a3 ≤ 99
            · replace e := e.trans (pf_call_eq ((nf_in (V := V) a3 (-99) 99).1 c11))
              replace e := e.trans (if_neg (by decide))
              exact ⟨fun _ => e, fun h => by exfalso; omega⟩
            · replace e := e.trans (pf_call_eq ((nf_in (V := V) a3 (-99) 99).2 c11))
              replace e := e.trans (if_pos (by decide))
              exact ⟨fun h => by exfalso; omega, fun _ => e⟩
          · replace e := e.trans (pf_call_eq ((nf_in (V := V) a2 0 99).2 c9))
            replace e := e.trans (if_pos (by decide))
            exact ⟨fun h => by exfalso; omega, fun _ => e⟩
