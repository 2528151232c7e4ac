/-! WHAT THE STATEMENT GIVES of the literals' objects, a row each by its place -/
def lt_ix (i : Nat) : Nat := [154, 160, 162, 164, 166, 168, 252, 254, 256, 258, 260, 269, 274, 276, 278, 280, 282, 287].getD i 0
def lt_t (i : Nat) : Term := .string "LipsVoiceModel" (lt_ix i)
abbrev lt_f : List Cond := flatC (Jvm.Cond.and given_1 narrow_1)
theorem lt_ex {args : Array Value} {s : State} (hs : ∀ c ∈ lt_f, c.before args s = true) : ∀ i : Nat, i < 18 → (Cond.exactly (lt_t i) "java/lang/String").before args s = true := by
  intro i hi
  match i, hi with
  | 0, _ => exact hs _ (List.mem_of_getElem? (i := 9) (by decide +kernel))
  | 1, _ => exact hs _ (List.mem_of_getElem? (i := 18) (by decide +kernel))
  | 2, _ => exact hs _ (List.mem_of_getElem? (i := 28) (by decide +kernel))
  | 3, _ => exact hs _ (List.mem_of_getElem? (i := 38) (by decide +kernel))
  | 4, _ => exact hs _ (List.mem_of_getElem? (i := 49) (by decide +kernel))
  | 5, _ => exact hs _ (List.mem_of_getElem? (i := 61) (by decide +kernel))
  | 6, _ => exact hs _ (List.mem_of_getElem? (i := 175) (by decide +kernel))
  | 7, _ => exact hs _ (List.mem_of_getElem? (i := 196) (by decide +kernel))
  | 8, _ => exact hs _ (List.mem_of_getElem? (i := 220) (by decide +kernel))
  | 9, _ => exact hs _ (List.mem_of_getElem? (i := 243) (by decide +kernel))
  | 10, _ => exact hs _ (List.mem_of_getElem? (i := 266) (by decide +kernel))
  | 11, _ => exact hs _ (List.mem_of_getElem? (i := 75) (by decide +kernel))
  | 12, _ => exact hs _ (List.mem_of_getElem? (i := 89) (by decide +kernel))
  | 13, _ => exact hs _ (List.mem_of_getElem? (i := 105) (by decide +kernel))
  | 14, _ => exact hs _ (List.mem_of_getElem? (i := 122) (by decide +kernel))
  | 15, _ => exact hs _ (List.mem_of_getElem? (i := 140) (by decide +kernel))
  | 16, _ => exact hs _ (List.mem_of_getElem? (i := 158) (by decide +kernel))
  | 17, _ => exact hs _ (List.mem_of_getElem? (i := 290) (by decide +kernel))
  | k + 18, h => exact absurd h (by omega)
theorem lt_co {args : Array Value} {s : State} (hs : ∀ c ∈ lt_f, c.before args s = true) : ∀ i : Nat, i < 18 → (Cond.eq (.field (lt_t i) "java/lang/String" "coder" "B") (.int 0)).before args s = true := by
  intro i hi
  match i, hi with
  | 0, _ => exact hs _ (List.mem_of_getElem? (i := 10) (by decide +kernel))
  | 1, _ => exact hs _ (List.mem_of_getElem? (i := 19) (by decide +kernel))
  | 2, _ => exact hs _ (List.mem_of_getElem? (i := 29) (by decide +kernel))
  | 3, _ => exact hs _ (List.mem_of_getElem? (i := 39) (by decide +kernel))
  | 4, _ => exact hs _ (List.mem_of_getElem? (i := 50) (by decide +kernel))
  | 5, _ => exact hs _ (List.mem_of_getElem? (i := 62) (by decide +kernel))
  | 6, _ => exact hs _ (List.mem_of_getElem? (i := 176) (by decide +kernel))
  | 7, _ => exact hs _ (List.mem_of_getElem? (i := 197) (by decide +kernel))
  | 8, _ => exact hs _ (List.mem_of_getElem? (i := 221) (by decide +kernel))
  | 9, _ => exact hs _ (List.mem_of_getElem? (i := 244) (by decide +kernel))
  | 10, _ => exact hs _ (List.mem_of_getElem? (i := 267) (by decide +kernel))
  | 11, _ => exact hs _ (List.mem_of_getElem? (i := 76) (by decide +kernel))
  | 12, _ => exact hs _ (List.mem_of_getElem? (i := 90) (by decide +kernel))
  | 13, _ => exact hs _ (List.mem_of_getElem? (i := 106) (by decide +kernel))
  | 14, _ => exact hs _ (List.mem_of_getElem? (i := 123) (by decide +kernel))
  | 15, _ => exact hs _ (List.mem_of_getElem? (i := 141) (by decide +kernel))
  | 16, _ => exact hs _ (List.mem_of_getElem? (i := 159) (by decide +kernel))
  | 17, _ => exact hs _ (List.mem_of_getElem? (i := 291) (by decide +kernel))
  | k + 18, h => exact absurd h (by omega)
theorem lt_ar {args : Array Value} {s : State} (hs : ∀ c ∈ lt_f, c.before args s = true) : ∀ i : Nat, i < 18 → (Cond.arrayOf (.field (lt_t i) "java/lang/String" "value" "[B") .byte).before args s = true := by
  intro i hi
  match i, hi with
  | 0, _ => exact hs _ (List.mem_of_getElem? (i := 11) (by decide +kernel))
  | 1, _ => exact hs _ (List.mem_of_getElem? (i := 20) (by decide +kernel))
  | 2, _ => exact hs _ (List.mem_of_getElem? (i := 30) (by decide +kernel))
  | 3, _ => exact hs _ (List.mem_of_getElem? (i := 40) (by decide +kernel))
  | 4, _ => exact hs _ (List.mem_of_getElem? (i := 51) (by decide +kernel))
  | 5, _ => exact hs _ (List.mem_of_getElem? (i := 63) (by decide +kernel))
  | 6, _ => exact hs _ (List.mem_of_getElem? (i := 177) (by decide +kernel))
  | 7, _ => exact hs _ (List.mem_of_getElem? (i := 198) (by decide +kernel))
  | 8, _ => exact hs _ (List.mem_of_getElem? (i := 222) (by decide +kernel))
  | 9, _ => exact hs _ (List.mem_of_getElem? (i := 245) (by decide +kernel))
  | 10, _ => exact hs _ (List.mem_of_getElem? (i := 268) (by decide +kernel))
  | 11, _ => exact hs _ (List.mem_of_getElem? (i := 77) (by decide +kernel))
  | 12, _ => exact hs _ (List.mem_of_getElem? (i := 91) (by decide +kernel))
  | 13, _ => exact hs _ (List.mem_of_getElem? (i := 107) (by decide +kernel))
  | 14, _ => exact hs _ (List.mem_of_getElem? (i := 124) (by decide +kernel))
  | 15, _ => exact hs _ (List.mem_of_getElem? (i := 142) (by decide +kernel))
  | 16, _ => exact hs _ (List.mem_of_getElem? (i := 160) (by decide +kernel))
  | 17, _ => exact hs _ (List.mem_of_getElem? (i := 292) (by decide +kernel))
  | k + 18, h => exact absurd h (by omega)
theorem lt_le {args : Array Value} {s : State} (hs : ∀ c ∈ lt_f, c.before args s = true) : ∀ i : Nat, i < 18 → (Cond.eq (.length (.field (lt_t i) "java/lang/String" "value" "[B")) (.int (Int32.ofNat (pm_len.getD i 0)))).before args s = true := by
  intro i hi
  match i, hi with
  | 0, _ => exact hs _ (List.mem_of_getElem? (i := 12) (by decide +kernel))
  | 1, _ => exact hs _ (List.mem_of_getElem? (i := 21) (by decide +kernel))
  | 2, _ => exact hs _ (List.mem_of_getElem? (i := 31) (by decide +kernel))
  | 3, _ => exact hs _ (List.mem_of_getElem? (i := 41) (by decide +kernel))
  | 4, _ => exact hs _ (List.mem_of_getElem? (i := 52) (by decide +kernel))
  | 5, _ => exact hs _ (List.mem_of_getElem? (i := 64) (by decide +kernel))
  | 6, _ => exact hs _ (List.mem_of_getElem? (i := 178) (by decide +kernel))
  | 7, _ => exact hs _ (List.mem_of_getElem? (i := 199) (by decide +kernel))
  | 8, _ => exact hs _ (List.mem_of_getElem? (i := 223) (by decide +kernel))
  | 9, _ => exact hs _ (List.mem_of_getElem? (i := 246) (by decide +kernel))
  | 10, _ => exact hs _ (List.mem_of_getElem? (i := 269) (by decide +kernel))
  | 11, _ => exact hs _ (List.mem_of_getElem? (i := 78) (by decide +kernel))
  | 12, _ => exact hs _ (List.mem_of_getElem? (i := 92) (by decide +kernel))
  | 13, _ => exact hs _ (List.mem_of_getElem? (i := 108) (by decide +kernel))
  | 14, _ => exact hs _ (List.mem_of_getElem? (i := 125) (by decide +kernel))
  | 15, _ => exact hs _ (List.mem_of_getElem? (i := 143) (by decide +kernel))
  | 16, _ => exact hs _ (List.mem_of_getElem? (i := 161) (by decide +kernel))
  | 17, _ => exact hs _ (List.mem_of_getElem? (i := 293) (by decide +kernel))
  | k + 18, h => exact absurd h (by omega)
theorem lt_el0 {args : Array Value} {s : State} (hs : ∀ c ∈ lt_f, c.before args s = true) : ∀ j : Nat, j < 5 → (Cond.eq (.elem (.field (lt_t 0) "java/lang/String" "value" "[B") (.int (Int32.ofNat j))) (.int ((pm_byt.getD 0 []).getD j 0))).before args s = true := by
  intro j hj
  match j, hj with
  | 0, _ => exact hs _ (List.mem_of_getElem? (i := 13) (by decide +kernel))
  | 1, _ => exact hs _ (List.mem_of_getElem? (i := 14) (by decide +kernel))
  | 2, _ => exact hs _ (List.mem_of_getElem? (i := 15) (by decide +kernel))
  | 3, _ => exact hs _ (List.mem_of_getElem? (i := 16) (by decide +kernel))
  | 4, _ => exact hs _ (List.mem_of_getElem? (i := 17) (by decide +kernel))
  | k + 5, h => exact absurd h (by omega)
theorem lt_el1 {args : Array Value} {s : State} (hs : ∀ c ∈ lt_f, c.before args s = true) : ∀ j : Nat, j < 5 → (Cond.eq (.elem (.field (lt_t 1) "java/lang/String" "value" "[B") (.int (Int32.ofNat j))) (.int ((pm_byt.getD 1 []).getD j 0))).before args s = true := by
  intro j hj
  match j, hj with
  | 0, _ => exact hs _ (List.mem_of_getElem? (i := 22) (by decide +kernel))
  | 1, _ => exact hs _ (List.mem_of_getElem? (i := 23) (by decide +kernel))
  | 2, _ => exact hs _ (List.mem_of_getElem? (i := 24) (by decide +kernel))
  | 3, _ => exact hs _ (List.mem_of_getElem? (i := 25) (by decide +kernel))
  | 4, _ => exact hs _ (List.mem_of_getElem? (i := 26) (by decide +kernel))
  | k + 5, h => exact absurd h (by omega)
theorem lt_el2 {args : Array Value} {s : State} (hs : ∀ c ∈ lt_f, c.before args s = true) : ∀ j : Nat, j < 4 → (Cond.eq (.elem (.field (lt_t 2) "java/lang/String" "value" "[B") (.int (Int32.ofNat j))) (.int ((pm_byt.getD 2 []).getD j 0))).before args s = true := by
  intro j hj
  match j, hj with
  | 0, _ => exact hs _ (List.mem_of_getElem? (i := 32) (by decide +kernel))
  | 1, _ => exact hs _ (List.mem_of_getElem? (i := 33) (by decide +kernel))
  | 2, _ => exact hs _ (List.mem_of_getElem? (i := 34) (by decide +kernel))
  | 3, _ => exact hs _ (List.mem_of_getElem? (i := 35) (by decide +kernel))
  | k + 4, h => exact absurd h (by omega)
theorem lt_el3 {args : Array Value} {s : State} (hs : ∀ c ∈ lt_f, c.before args s = true) : ∀ j : Nat, j < 4 → (Cond.eq (.elem (.field (lt_t 3) "java/lang/String" "value" "[B") (.int (Int32.ofNat j))) (.int ((pm_byt.getD 3 []).getD j 0))).before args s = true := by
  intro j hj
  match j, hj with
  | 0, _ => exact hs _ (List.mem_of_getElem? (i := 42) (by decide +kernel))
  | 1, _ => exact hs _ (List.mem_of_getElem? (i := 43) (by decide +kernel))
  | 2, _ => exact hs _ (List.mem_of_getElem? (i := 44) (by decide +kernel))
  | 3, _ => exact hs _ (List.mem_of_getElem? (i := 45) (by decide +kernel))
  | k + 4, h => exact absurd h (by omega)
theorem lt_el4 {args : Array Value} {s : State} (hs : ∀ c ∈ lt_f, c.before args s = true) : ∀ j : Nat, j < 4 → (Cond.eq (.elem (.field (lt_t 4) "java/lang/String" "value" "[B") (.int (Int32.ofNat j))) (.int ((pm_byt.getD 4 []).getD j 0))).before args s = true := by
  intro j hj
  match j, hj with
  | 0, _ => exact hs _ (List.mem_of_getElem? (i := 53) (by decide +kernel))
  | 1, _ => exact hs _ (List.mem_of_getElem? (i := 54) (by decide +kernel))
  | 2, _ => exact hs _ (List.mem_of_getElem? (i := 55) (by decide +kernel))
  | 3, _ => exact hs _ (List.mem_of_getElem? (i := 56) (by decide +kernel))
  | k + 4, h => exact absurd h (by omega)
theorem lt_el5 {args : Array Value} {s : State} (hs : ∀ c ∈ lt_f, c.before args s = true) : ∀ j : Nat, j < 5 → (Cond.eq (.elem (.field (lt_t 5) "java/lang/String" "value" "[B") (.int (Int32.ofNat j))) (.int ((pm_byt.getD 5 []).getD j 0))).before args s = true := by
  intro j hj
  match j, hj with
  | 0, _ => exact hs _ (List.mem_of_getElem? (i := 65) (by decide +kernel))
  | 1, _ => exact hs _ (List.mem_of_getElem? (i := 66) (by decide +kernel))
  | 2, _ => exact hs _ (List.mem_of_getElem? (i := 67) (by decide +kernel))
  | 3, _ => exact hs _ (List.mem_of_getElem? (i := 68) (by decide +kernel))
  | 4, _ => exact hs _ (List.mem_of_getElem? (i := 69) (by decide +kernel))
  | k + 5, h => exact absurd h (by omega)
theorem lt_el6 {args : Array Value} {s : State} (hs : ∀ c ∈ lt_f, c.before args s = true) : ∀ j : Nat, j < 5 → (Cond.eq (.elem (.field (lt_t 6) "java/lang/String" "value" "[B") (.int (Int32.ofNat j))) (.int ((pm_byt.getD 6 []).getD j 0))).before args s = true := by
  intro j hj
  match j, hj with
  | 0, _ => exact hs _ (List.mem_of_getElem? (i := 179) (by decide +kernel))
  | 1, _ => exact hs _ (List.mem_of_getElem? (i := 180) (by decide +kernel))
  | 2, _ => exact hs _ (List.mem_of_getElem? (i := 181) (by decide +kernel))
  | 3, _ => exact hs _ (List.mem_of_getElem? (i := 182) (by decide +kernel))
  | 4, _ => exact hs _ (List.mem_of_getElem? (i := 183) (by decide +kernel))
  | k + 5, h => exact absurd h (by omega)
theorem lt_el7 {args : Array Value} {s : State} (hs : ∀ c ∈ lt_f, c.before args s = true) : ∀ j : Nat, j < 7 → (Cond.eq (.elem (.field (lt_t 7) "java/lang/String" "value" "[B") (.int (Int32.ofNat j))) (.int ((pm_byt.getD 7 []).getD j 0))).before args s = true := by
  intro j hj
  match j, hj with
  | 0, _ => exact hs _ (List.mem_of_getElem? (i := 200) (by decide +kernel))
  | 1, _ => exact hs _ (List.mem_of_getElem? (i := 201) (by decide +kernel))
  | 2, _ => exact hs _ (List.mem_of_getElem? (i := 202) (by decide +kernel))
  | 3, _ => exact hs _ (List.mem_of_getElem? (i := 203) (by decide +kernel))
  | 4, _ => exact hs _ (List.mem_of_getElem? (i := 204) (by decide +kernel))
  | 5, _ => exact hs _ (List.mem_of_getElem? (i := 205) (by decide +kernel))
  | 6, _ => exact hs _ (List.mem_of_getElem? (i := 206) (by decide +kernel))
  | k + 7, h => exact absurd h (by omega)
theorem lt_el8 {args : Array Value} {s : State} (hs : ∀ c ∈ lt_f, c.before args s = true) : ∀ j : Nat, j < 5 → (Cond.eq (.elem (.field (lt_t 8) "java/lang/String" "value" "[B") (.int (Int32.ofNat j))) (.int ((pm_byt.getD 8 []).getD j 0))).before args s = true := by
  intro j hj
  match j, hj with
  | 0, _ => exact hs _ (List.mem_of_getElem? (i := 224) (by decide +kernel))
  | 1, _ => exact hs _ (List.mem_of_getElem? (i := 225) (by decide +kernel))
  | 2, _ => exact hs _ (List.mem_of_getElem? (i := 226) (by decide +kernel))
  | 3, _ => exact hs _ (List.mem_of_getElem? (i := 227) (by decide +kernel))
  | 4, _ => exact hs _ (List.mem_of_getElem? (i := 228) (by decide +kernel))
  | k + 5, h => exact absurd h (by omega)
theorem lt_el9 {args : Array Value} {s : State} (hs : ∀ c ∈ lt_f, c.before args s = true) : ∀ j : Nat, j < 4 → (Cond.eq (.elem (.field (lt_t 9) "java/lang/String" "value" "[B") (.int (Int32.ofNat j))) (.int ((pm_byt.getD 9 []).getD j 0))).before args s = true := by
  intro j hj
  match j, hj with
  | 0, _ => exact hs _ (List.mem_of_getElem? (i := 247) (by decide +kernel))
  | 1, _ => exact hs _ (List.mem_of_getElem? (i := 248) (by decide +kernel))
  | 2, _ => exact hs _ (List.mem_of_getElem? (i := 249) (by decide +kernel))
  | 3, _ => exact hs _ (List.mem_of_getElem? (i := 250) (by decide +kernel))
  | k + 4, h => exact absurd h (by omega)
theorem lt_el10 {args : Array Value} {s : State} (hs : ∀ c ∈ lt_f, c.before args s = true) : ∀ j : Nat, j < 4 → (Cond.eq (.elem (.field (lt_t 10) "java/lang/String" "value" "[B") (.int (Int32.ofNat j))) (.int ((pm_byt.getD 10 []).getD j 0))).before args s = true := by
  intro j hj
  match j, hj with
  | 0, _ => exact hs _ (List.mem_of_getElem? (i := 270) (by decide +kernel))
  | 1, _ => exact hs _ (List.mem_of_getElem? (i := 271) (by decide +kernel))
  | 2, _ => exact hs _ (List.mem_of_getElem? (i := 272) (by decide +kernel))
  | 3, _ => exact hs _ (List.mem_of_getElem? (i := 273) (by decide +kernel))
  | k + 4, h => exact absurd h (by omega)
theorem lt_el11 {args : Array Value} {s : State} (hs : ∀ c ∈ lt_f, c.before args s = true) : ∀ j : Nat, j < 4 → (Cond.eq (.elem (.field (lt_t 11) "java/lang/String" "value" "[B") (.int (Int32.ofNat j))) (.int ((pm_byt.getD 11 []).getD j 0))).before args s = true := by
  intro j hj
  match j, hj with
  | 0, _ => exact hs _ (List.mem_of_getElem? (i := 79) (by decide +kernel))
  | 1, _ => exact hs _ (List.mem_of_getElem? (i := 80) (by decide +kernel))
  | 2, _ => exact hs _ (List.mem_of_getElem? (i := 81) (by decide +kernel))
  | 3, _ => exact hs _ (List.mem_of_getElem? (i := 82) (by decide +kernel))
  | k + 4, h => exact absurd h (by omega)
theorem lt_el12 {args : Array Value} {s : State} (hs : ∀ c ∈ lt_f, c.before args s = true) : ∀ j : Nat, j < 5 → (Cond.eq (.elem (.field (lt_t 12) "java/lang/String" "value" "[B") (.int (Int32.ofNat j))) (.int ((pm_byt.getD 12 []).getD j 0))).before args s = true := by
  intro j hj
  match j, hj with
  | 0, _ => exact hs _ (List.mem_of_getElem? (i := 93) (by decide +kernel))
  | 1, _ => exact hs _ (List.mem_of_getElem? (i := 94) (by decide +kernel))
  | 2, _ => exact hs _ (List.mem_of_getElem? (i := 95) (by decide +kernel))
  | 3, _ => exact hs _ (List.mem_of_getElem? (i := 96) (by decide +kernel))
  | 4, _ => exact hs _ (List.mem_of_getElem? (i := 97) (by decide +kernel))
  | k + 5, h => exact absurd h (by omega)
theorem lt_el13 {args : Array Value} {s : State} (hs : ∀ c ∈ lt_f, c.before args s = true) : ∀ j : Nat, j < 5 → (Cond.eq (.elem (.field (lt_t 13) "java/lang/String" "value" "[B") (.int (Int32.ofNat j))) (.int ((pm_byt.getD 13 []).getD j 0))).before args s = true := by
  intro j hj
  match j, hj with
  | 0, _ => exact hs _ (List.mem_of_getElem? (i := 109) (by decide +kernel))
  | 1, _ => exact hs _ (List.mem_of_getElem? (i := 110) (by decide +kernel))
  | 2, _ => exact hs _ (List.mem_of_getElem? (i := 111) (by decide +kernel))
  | 3, _ => exact hs _ (List.mem_of_getElem? (i := 112) (by decide +kernel))
  | 4, _ => exact hs _ (List.mem_of_getElem? (i := 113) (by decide +kernel))
  | k + 5, h => exact absurd h (by omega)
theorem lt_el14 {args : Array Value} {s : State} (hs : ∀ c ∈ lt_f, c.before args s = true) : ∀ j : Nat, j < 5 → (Cond.eq (.elem (.field (lt_t 14) "java/lang/String" "value" "[B") (.int (Int32.ofNat j))) (.int ((pm_byt.getD 14 []).getD j 0))).before args s = true := by
  intro j hj
  match j, hj with
  | 0, _ => exact hs _ (List.mem_of_getElem? (i := 126) (by decide +kernel))
  | 1, _ => exact hs _ (List.mem_of_getElem? (i := 127) (by decide +kernel))
  | 2, _ => exact hs _ (List.mem_of_getElem? (i := 128) (by decide +kernel))
  | 3, _ => exact hs _ (List.mem_of_getElem? (i := 129) (by decide +kernel))
  | 4, _ => exact hs _ (List.mem_of_getElem? (i := 130) (by decide +kernel))
  | k + 5, h => exact absurd h (by omega)
theorem lt_el15 {args : Array Value} {s : State} (hs : ∀ c ∈ lt_f, c.before args s = true) : ∀ j : Nat, j < 4 → (Cond.eq (.elem (.field (lt_t 15) "java/lang/String" "value" "[B") (.int (Int32.ofNat j))) (.int ((pm_byt.getD 15 []).getD j 0))).before args s = true := by
  intro j hj
  match j, hj with
  | 0, _ => exact hs _ (List.mem_of_getElem? (i := 144) (by decide +kernel))
  | 1, _ => exact hs _ (List.mem_of_getElem? (i := 145) (by decide +kernel))
  | 2, _ => exact hs _ (List.mem_of_getElem? (i := 146) (by decide +kernel))
  | 3, _ => exact hs _ (List.mem_of_getElem? (i := 147) (by decide +kernel))
  | k + 4, h => exact absurd h (by omega)
theorem lt_el16 {args : Array Value} {s : State} (hs : ∀ c ∈ lt_f, c.before args s = true) : ∀ j : Nat, j < 2 → (Cond.eq (.elem (.field (lt_t 16) "java/lang/String" "value" "[B") (.int (Int32.ofNat j))) (.int ((pm_byt.getD 16 []).getD j 0))).before args s = true := by
  intro j hj
  match j, hj with
  | 0, _ => exact hs _ (List.mem_of_getElem? (i := 162) (by decide +kernel))
  | 1, _ => exact hs _ (List.mem_of_getElem? (i := 163) (by decide +kernel))
  | k + 2, h => exact absurd h (by omega)
theorem lt_el17 {args : Array Value} {s : State} (hs : ∀ c ∈ lt_f, c.before args s = true) : ∀ j : Nat, j < 3 → (Cond.eq (.elem (.field (lt_t 17) "java/lang/String" "value" "[B") (.int (Int32.ofNat j))) (.int ((pm_byt.getD 17 []).getD j 0))).before args s = true := by
  intro j hj
  match j, hj with
  | 0, _ => exact hs _ (List.mem_of_getElem? (i := 294) (by decide +kernel))
  | 1, _ => exact hs _ (List.mem_of_getElem? (i := 295) (by decide +kernel))
  | 2, _ => exact hs _ (List.mem_of_getElem? (i := 296) (by decide +kernel))
  | k + 3, h => exact absurd h (by omega)
theorem lt_el {args : Array Value} {s : State} (hs : ∀ c ∈ lt_f, c.before args s = true) : ∀ i : Nat, i < 18 → ∀ j : Nat, j < pm_len.getD i 0 → (Cond.eq (.elem (.field (lt_t i) "java/lang/String" "value" "[B") (.int (Int32.ofNat j))) (.int ((pm_byt.getD i []).getD j 0))).before args s = true := by
  intro i hi
  match i, hi with
  | 0, _ => exact fun j hj => lt_el0 hs j hj
  | 1, _ => exact fun j hj => lt_el1 hs j hj
  | 2, _ => exact fun j hj => lt_el2 hs j hj
  | 3, _ => exact fun j hj => lt_el3 hs j hj
  | 4, _ => exact fun j hj => lt_el4 hs j hj
  | 5, _ => exact fun j hj => lt_el5 hs j hj
  | 6, _ => exact fun j hj => lt_el6 hs j hj
  | 7, _ => exact fun j hj => lt_el7 hs j hj
  | 8, _ => exact fun j hj => lt_el8 hs j hj
  | 9, _ => exact fun j hj => lt_el9 hs j hj
  | 10, _ => exact fun j hj => lt_el10 hs j hj
  | 11, _ => exact fun j hj => lt_el11 hs j hj
  | 12, _ => exact fun j hj => lt_el12 hs j hj
  | 13, _ => exact fun j hj => lt_el13 hs j hj
  | 14, _ => exact fun j hj => lt_el14 hs j hj
  | 15, _ => exact fun j hj => lt_el15 hs j hj
  | 16, _ => exact fun j hj => lt_el16 hs j hj
  | 17, _ => exact fun j hj => lt_el17 hs j hj
  | k + 18, h => exact absurd h (by omega)
theorem lt_ne0 {args : Array Value} {s : State} (hs : ∀ c ∈ lt_f, c.before args s = true) : ∀ j : Nat, 0 < j → j < 18 → (Cond.not (Cond.eq (lt_t 0) (lt_t j))).before args s = true ∨ (Cond.not (Cond.eq (lt_t j) (lt_t 0))).before args s = true := by
  intro j hj hk
  obtain ⟨k, rfl⟩ : ∃ k, j = k + 1 := ⟨j - 1, by omega⟩
  match k, hk with
  | 0, _ => exact Or.inl (hs _ (List.mem_of_getElem? (i := 27) (by decide +kernel)))
  | 1, _ => exact Or.inl (hs _ (List.mem_of_getElem? (i := 36) (by decide +kernel)))
  | 2, _ => exact Or.inl (hs _ (List.mem_of_getElem? (i := 46) (by decide +kernel)))
  | 3, _ => exact Or.inl (hs _ (List.mem_of_getElem? (i := 57) (by decide +kernel)))
  | 4, _ => exact Or.inl (hs _ (List.mem_of_getElem? (i := 70) (by decide +kernel)))
  | 5, _ => exact Or.inl (hs _ (List.mem_of_getElem? (i := 184) (by decide +kernel)))
  | 6, _ => exact Or.inl (hs _ (List.mem_of_getElem? (i := 207) (by decide +kernel)))
  | 7, _ => exact Or.inl (hs _ (List.mem_of_getElem? (i := 229) (by decide +kernel)))
  | 8, _ => exact Or.inl (hs _ (List.mem_of_getElem? (i := 251) (by decide +kernel)))
  | 9, _ => exact Or.inl (hs _ (List.mem_of_getElem? (i := 274) (by decide +kernel)))
  | 10, _ => exact Or.inl (hs _ (List.mem_of_getElem? (i := 83) (by decide +kernel)))
  | 11, _ => exact Or.inl (hs _ (List.mem_of_getElem? (i := 98) (by decide +kernel)))
  | 12, _ => exact Or.inl (hs _ (List.mem_of_getElem? (i := 114) (by decide +kernel)))
  | 13, _ => exact Or.inl (hs _ (List.mem_of_getElem? (i := 131) (by decide +kernel)))
  | 14, _ => exact Or.inl (hs _ (List.mem_of_getElem? (i := 148) (by decide +kernel)))
  | 15, _ => exact Or.inl (hs _ (List.mem_of_getElem? (i := 164) (by decide +kernel)))
  | 16, _ => exact Or.inl (hs _ (List.mem_of_getElem? (i := 297) (by decide +kernel)))
  | k + 17, h => exact absurd h (by omega)
theorem lt_ne1 {args : Array Value} {s : State} (hs : ∀ c ∈ lt_f, c.before args s = true) : ∀ j : Nat, 1 < j → j < 18 → (Cond.not (Cond.eq (lt_t 1) (lt_t j))).before args s = true ∨ (Cond.not (Cond.eq (lt_t j) (lt_t 1))).before args s = true := by
  intro j hj hk
  obtain ⟨k, rfl⟩ : ∃ k, j = k + 2 := ⟨j - 2, by omega⟩
  match k, hk with
  | 0, _ => exact Or.inl (hs _ (List.mem_of_getElem? (i := 37) (by decide +kernel)))
  | 1, _ => exact Or.inl (hs _ (List.mem_of_getElem? (i := 47) (by decide +kernel)))
  | 2, _ => exact Or.inl (hs _ (List.mem_of_getElem? (i := 58) (by decide +kernel)))
  | 3, _ => exact Or.inl (hs _ (List.mem_of_getElem? (i := 71) (by decide +kernel)))
  | 4, _ => exact Or.inl (hs _ (List.mem_of_getElem? (i := 185) (by decide +kernel)))
  | 5, _ => exact Or.inl (hs _ (List.mem_of_getElem? (i := 208) (by decide +kernel)))
  | 6, _ => exact Or.inl (hs _ (List.mem_of_getElem? (i := 230) (by decide +kernel)))
  | 7, _ => exact Or.inl (hs _ (List.mem_of_getElem? (i := 252) (by decide +kernel)))
  | 8, _ => exact Or.inl (hs _ (List.mem_of_getElem? (i := 275) (by decide +kernel)))
  | 9, _ => exact Or.inl (hs _ (List.mem_of_getElem? (i := 84) (by decide +kernel)))
  | 10, _ => exact Or.inl (hs _ (List.mem_of_getElem? (i := 99) (by decide +kernel)))
  | 11, _ => exact Or.inl (hs _ (List.mem_of_getElem? (i := 115) (by decide +kernel)))
  | 12, _ => exact Or.inl (hs _ (List.mem_of_getElem? (i := 132) (by decide +kernel)))
  | 13, _ => exact Or.inl (hs _ (List.mem_of_getElem? (i := 149) (by decide +kernel)))
  | 14, _ => exact Or.inl (hs _ (List.mem_of_getElem? (i := 165) (by decide +kernel)))
  | 15, _ => exact Or.inl (hs _ (List.mem_of_getElem? (i := 298) (by decide +kernel)))
  | k + 16, h => exact absurd h (by omega)
theorem lt_ne2 {args : Array Value} {s : State} (hs : ∀ c ∈ lt_f, c.before args s = true) : ∀ j : Nat, 2 < j → j < 18 → (Cond.not (Cond.eq (lt_t 2) (lt_t j))).before args s = true ∨ (Cond.not (Cond.eq (lt_t j) (lt_t 2))).before args s = true := by
  intro j hj hk
  obtain ⟨k, rfl⟩ : ∃ k, j = k + 3 := ⟨j - 3, by omega⟩
  match k, hk with
  | 0, _ => exact Or.inl (hs _ (List.mem_of_getElem? (i := 48) (by decide +kernel)))
  | 1, _ => exact Or.inl (hs _ (List.mem_of_getElem? (i := 59) (by decide +kernel)))
  | 2, _ => exact Or.inl (hs _ (List.mem_of_getElem? (i := 72) (by decide +kernel)))
  | 3, _ => exact Or.inl (hs _ (List.mem_of_getElem? (i := 186) (by decide +kernel)))
  | 4, _ => exact Or.inl (hs _ (List.mem_of_getElem? (i := 209) (by decide +kernel)))
  | 5, _ => exact Or.inl (hs _ (List.mem_of_getElem? (i := 231) (by decide +kernel)))
  | 6, _ => exact Or.inl (hs _ (List.mem_of_getElem? (i := 253) (by decide +kernel)))
  | 7, _ => exact Or.inl (hs _ (List.mem_of_getElem? (i := 276) (by decide +kernel)))
  | 8, _ => exact Or.inl (hs _ (List.mem_of_getElem? (i := 85) (by decide +kernel)))
  | 9, _ => exact Or.inl (hs _ (List.mem_of_getElem? (i := 100) (by decide +kernel)))
  | 10, _ => exact Or.inl (hs _ (List.mem_of_getElem? (i := 116) (by decide +kernel)))
  | 11, _ => exact Or.inl (hs _ (List.mem_of_getElem? (i := 133) (by decide +kernel)))
  | 12, _ => exact Or.inl (hs _ (List.mem_of_getElem? (i := 150) (by decide +kernel)))
  | 13, _ => exact Or.inl (hs _ (List.mem_of_getElem? (i := 166) (by decide +kernel)))
  | 14, _ => exact Or.inl (hs _ (List.mem_of_getElem? (i := 299) (by decide +kernel)))
  | k + 15, h => exact absurd h (by omega)
theorem lt_ne3 {args : Array Value} {s : State} (hs : ∀ c ∈ lt_f, c.before args s = true) : ∀ j : Nat, 3 < j → j < 18 → (Cond.not (Cond.eq (lt_t 3) (lt_t j))).before args s = true ∨ (Cond.not (Cond.eq (lt_t j) (lt_t 3))).before args s = true := by
  intro j hj hk
  obtain ⟨k, rfl⟩ : ∃ k, j = k + 4 := ⟨j - 4, by omega⟩
  match k, hk with
  | 0, _ => exact Or.inl (hs _ (List.mem_of_getElem? (i := 60) (by decide +kernel)))
  | 1, _ => exact Or.inl (hs _ (List.mem_of_getElem? (i := 73) (by decide +kernel)))
  | 2, _ => exact Or.inl (hs _ (List.mem_of_getElem? (i := 187) (by decide +kernel)))
  | 3, _ => exact Or.inl (hs _ (List.mem_of_getElem? (i := 210) (by decide +kernel)))
  | 4, _ => exact Or.inl (hs _ (List.mem_of_getElem? (i := 232) (by decide +kernel)))
  | 5, _ => exact Or.inl (hs _ (List.mem_of_getElem? (i := 254) (by decide +kernel)))
  | 6, _ => exact Or.inl (hs _ (List.mem_of_getElem? (i := 277) (by decide +kernel)))
  | 7, _ => exact Or.inl (hs _ (List.mem_of_getElem? (i := 86) (by decide +kernel)))
  | 8, _ => exact Or.inl (hs _ (List.mem_of_getElem? (i := 101) (by decide +kernel)))
  | 9, _ => exact Or.inl (hs _ (List.mem_of_getElem? (i := 117) (by decide +kernel)))
  | 10, _ => exact Or.inl (hs _ (List.mem_of_getElem? (i := 134) (by decide +kernel)))
  | 11, _ => exact Or.inl (hs _ (List.mem_of_getElem? (i := 151) (by decide +kernel)))
  | 12, _ => exact Or.inl (hs _ (List.mem_of_getElem? (i := 167) (by decide +kernel)))
  | 13, _ => exact Or.inl (hs _ (List.mem_of_getElem? (i := 300) (by decide +kernel)))
  | k + 14, h => exact absurd h (by omega)
theorem lt_ne4 {args : Array Value} {s : State} (hs : ∀ c ∈ lt_f, c.before args s = true) : ∀ j : Nat, 4 < j → j < 18 → (Cond.not (Cond.eq (lt_t 4) (lt_t j))).before args s = true ∨ (Cond.not (Cond.eq (lt_t j) (lt_t 4))).before args s = true := by
  intro j hj hk
  obtain ⟨k, rfl⟩ : ∃ k, j = k + 5 := ⟨j - 5, by omega⟩
  match k, hk with
  | 0, _ => exact Or.inl (hs _ (List.mem_of_getElem? (i := 74) (by decide +kernel)))
  | 1, _ => exact Or.inl (hs _ (List.mem_of_getElem? (i := 188) (by decide +kernel)))
  | 2, _ => exact Or.inl (hs _ (List.mem_of_getElem? (i := 211) (by decide +kernel)))
  | 3, _ => exact Or.inl (hs _ (List.mem_of_getElem? (i := 233) (by decide +kernel)))
  | 4, _ => exact Or.inl (hs _ (List.mem_of_getElem? (i := 255) (by decide +kernel)))
  | 5, _ => exact Or.inl (hs _ (List.mem_of_getElem? (i := 278) (by decide +kernel)))
  | 6, _ => exact Or.inl (hs _ (List.mem_of_getElem? (i := 87) (by decide +kernel)))
  | 7, _ => exact Or.inl (hs _ (List.mem_of_getElem? (i := 102) (by decide +kernel)))
  | 8, _ => exact Or.inl (hs _ (List.mem_of_getElem? (i := 118) (by decide +kernel)))
  | 9, _ => exact Or.inl (hs _ (List.mem_of_getElem? (i := 135) (by decide +kernel)))
  | 10, _ => exact Or.inl (hs _ (List.mem_of_getElem? (i := 152) (by decide +kernel)))
  | 11, _ => exact Or.inl (hs _ (List.mem_of_getElem? (i := 168) (by decide +kernel)))
  | 12, _ => exact Or.inl (hs _ (List.mem_of_getElem? (i := 301) (by decide +kernel)))
  | k + 13, h => exact absurd h (by omega)
theorem lt_ne5 {args : Array Value} {s : State} (hs : ∀ c ∈ lt_f, c.before args s = true) : ∀ j : Nat, 5 < j → j < 18 → (Cond.not (Cond.eq (lt_t 5) (lt_t j))).before args s = true ∨ (Cond.not (Cond.eq (lt_t j) (lt_t 5))).before args s = true := by
  intro j hj hk
  obtain ⟨k, rfl⟩ : ∃ k, j = k + 6 := ⟨j - 6, by omega⟩
  match k, hk with
  | 0, _ => exact Or.inl (hs _ (List.mem_of_getElem? (i := 189) (by decide +kernel)))
  | 1, _ => exact Or.inl (hs _ (List.mem_of_getElem? (i := 212) (by decide +kernel)))
  | 2, _ => exact Or.inl (hs _ (List.mem_of_getElem? (i := 234) (by decide +kernel)))
  | 3, _ => exact Or.inl (hs _ (List.mem_of_getElem? (i := 256) (by decide +kernel)))
  | 4, _ => exact Or.inl (hs _ (List.mem_of_getElem? (i := 279) (by decide +kernel)))
  | 5, _ => exact Or.inl (hs _ (List.mem_of_getElem? (i := 88) (by decide +kernel)))
  | 6, _ => exact Or.inl (hs _ (List.mem_of_getElem? (i := 103) (by decide +kernel)))
  | 7, _ => exact Or.inl (hs _ (List.mem_of_getElem? (i := 119) (by decide +kernel)))
  | 8, _ => exact Or.inl (hs _ (List.mem_of_getElem? (i := 136) (by decide +kernel)))
  | 9, _ => exact Or.inl (hs _ (List.mem_of_getElem? (i := 153) (by decide +kernel)))
  | 10, _ => exact Or.inl (hs _ (List.mem_of_getElem? (i := 169) (by decide +kernel)))
  | 11, _ => exact Or.inl (hs _ (List.mem_of_getElem? (i := 302) (by decide +kernel)))
  | k + 12, h => exact absurd h (by omega)
theorem lt_ne6 {args : Array Value} {s : State} (hs : ∀ c ∈ lt_f, c.before args s = true) : ∀ j : Nat, 6 < j → j < 18 → (Cond.not (Cond.eq (lt_t 6) (lt_t j))).before args s = true ∨ (Cond.not (Cond.eq (lt_t j) (lt_t 6))).before args s = true := by
  intro j hj hk
  obtain ⟨k, rfl⟩ : ∃ k, j = k + 7 := ⟨j - 7, by omega⟩
  match k, hk with
  | 0, _ => exact Or.inl (hs _ (List.mem_of_getElem? (i := 219) (by decide +kernel)))
  | 1, _ => exact Or.inl (hs _ (List.mem_of_getElem? (i := 241) (by decide +kernel)))
  | 2, _ => exact Or.inl (hs _ (List.mem_of_getElem? (i := 263) (by decide +kernel)))
  | 3, _ => exact Or.inl (hs _ (List.mem_of_getElem? (i := 286) (by decide +kernel)))
  | 4, _ => exact Or.inr (hs _ (List.mem_of_getElem? (i := 190) (by decide +kernel)))
  | 5, _ => exact Or.inr (hs _ (List.mem_of_getElem? (i := 191) (by decide +kernel)))
  | 6, _ => exact Or.inr (hs _ (List.mem_of_getElem? (i := 192) (by decide +kernel)))
  | 7, _ => exact Or.inr (hs _ (List.mem_of_getElem? (i := 193) (by decide +kernel)))
  | 8, _ => exact Or.inr (hs _ (List.mem_of_getElem? (i := 194) (by decide +kernel)))
  | 9, _ => exact Or.inr (hs _ (List.mem_of_getElem? (i := 195) (by decide +kernel)))
  | 10, _ => exact Or.inl (hs _ (List.mem_of_getElem? (i := 309) (by decide +kernel)))
  | k + 11, h => exact absurd h (by omega)
theorem lt_ne7 {args : Array Value} {s : State} (hs : ∀ c ∈ lt_f, c.before args s = true) : ∀ j : Nat, 7 < j → j < 18 → (Cond.not (Cond.eq (lt_t 7) (lt_t j))).before args s = true ∨ (Cond.not (Cond.eq (lt_t j) (lt_t 7))).before args s = true := by
  intro j hj hk
  obtain ⟨k, rfl⟩ : ∃ k, j = k + 8 := ⟨j - 8, by omega⟩
  match k, hk with
  | 0, _ => exact Or.inl (hs _ (List.mem_of_getElem? (i := 242) (by decide +kernel)))
  | 1, _ => exact Or.inl (hs _ (List.mem_of_getElem? (i := 264) (by decide +kernel)))
  | 2, _ => exact Or.inl (hs _ (List.mem_of_getElem? (i := 287) (by decide +kernel)))
  | 3, _ => exact Or.inr (hs _ (List.mem_of_getElem? (i := 213) (by decide +kernel)))
  | 4, _ => exact Or.inr (hs _ (List.mem_of_getElem? (i := 214) (by decide +kernel)))
  | 5, _ => exact Or.inr (hs _ (List.mem_of_getElem? (i := 215) (by decide +kernel)))
  | 6, _ => exact Or.inr (hs _ (List.mem_of_getElem? (i := 216) (by decide +kernel)))
  | 7, _ => exact Or.inr (hs _ (List.mem_of_getElem? (i := 217) (by decide +kernel)))
  | 8, _ => exact Or.inr (hs _ (List.mem_of_getElem? (i := 218) (by decide +kernel)))
  | 9, _ => exact Or.inl (hs _ (List.mem_of_getElem? (i := 310) (by decide +kernel)))
  | k + 10, h => exact absurd h (by omega)
theorem lt_ne8 {args : Array Value} {s : State} (hs : ∀ c ∈ lt_f, c.before args s = true) : ∀ j : Nat, 8 < j → j < 18 → (Cond.not (Cond.eq (lt_t 8) (lt_t j))).before args s = true ∨ (Cond.not (Cond.eq (lt_t j) (lt_t 8))).before args s = true := by
  intro j hj hk
  obtain ⟨k, rfl⟩ : ∃ k, j = k + 9 := ⟨j - 9, by omega⟩
  match k, hk with
  | 0, _ => exact Or.inl (hs _ (List.mem_of_getElem? (i := 265) (by decide +kernel)))
  | 1, _ => exact Or.inl (hs _ (List.mem_of_getElem? (i := 288) (by decide +kernel)))
  | 2, _ => exact Or.inr (hs _ (List.mem_of_getElem? (i := 235) (by decide +kernel)))
  | 3, _ => exact Or.inr (hs _ (List.mem_of_getElem? (i := 236) (by decide +kernel)))
  | 4, _ => exact Or.inr (hs _ (List.mem_of_getElem? (i := 237) (by decide +kernel)))
  | 5, _ => exact Or.inr (hs _ (List.mem_of_getElem? (i := 238) (by decide +kernel)))
  | 6, _ => exact Or.inr (hs _ (List.mem_of_getElem? (i := 239) (by decide +kernel)))
  | 7, _ => exact Or.inr (hs _ (List.mem_of_getElem? (i := 240) (by decide +kernel)))
  | 8, _ => exact Or.inl (hs _ (List.mem_of_getElem? (i := 311) (by decide +kernel)))
  | k + 9, h => exact absurd h (by omega)
theorem lt_ne9 {args : Array Value} {s : State} (hs : ∀ c ∈ lt_f, c.before args s = true) : ∀ j : Nat, 9 < j → j < 18 → (Cond.not (Cond.eq (lt_t 9) (lt_t j))).before args s = true ∨ (Cond.not (Cond.eq (lt_t j) (lt_t 9))).before args s = true := by
  intro j hj hk
  obtain ⟨k, rfl⟩ : ∃ k, j = k + 10 := ⟨j - 10, by omega⟩
  match k, hk with
  | 0, _ => exact Or.inl (hs _ (List.mem_of_getElem? (i := 289) (by decide +kernel)))
  | 1, _ => exact Or.inr (hs _ (List.mem_of_getElem? (i := 257) (by decide +kernel)))
  | 2, _ => exact Or.inr (hs _ (List.mem_of_getElem? (i := 258) (by decide +kernel)))
  | 3, _ => exact Or.inr (hs _ (List.mem_of_getElem? (i := 259) (by decide +kernel)))
  | 4, _ => exact Or.inr (hs _ (List.mem_of_getElem? (i := 260) (by decide +kernel)))
  | 5, _ => exact Or.inr (hs _ (List.mem_of_getElem? (i := 261) (by decide +kernel)))
  | 6, _ => exact Or.inr (hs _ (List.mem_of_getElem? (i := 262) (by decide +kernel)))
  | 7, _ => exact Or.inl (hs _ (List.mem_of_getElem? (i := 312) (by decide +kernel)))
  | k + 8, h => exact absurd h (by omega)
theorem lt_ne10 {args : Array Value} {s : State} (hs : ∀ c ∈ lt_f, c.before args s = true) : ∀ j : Nat, 10 < j → j < 18 → (Cond.not (Cond.eq (lt_t 10) (lt_t j))).before args s = true ∨ (Cond.not (Cond.eq (lt_t j) (lt_t 10))).before args s = true := by
  intro j hj hk
  obtain ⟨k, rfl⟩ : ∃ k, j = k + 11 := ⟨j - 11, by omega⟩
  match k, hk with
  | 0, _ => exact Or.inr (hs _ (List.mem_of_getElem? (i := 280) (by decide +kernel)))
  | 1, _ => exact Or.inr (hs _ (List.mem_of_getElem? (i := 281) (by decide +kernel)))
  | 2, _ => exact Or.inr (hs _ (List.mem_of_getElem? (i := 282) (by decide +kernel)))
  | 3, _ => exact Or.inr (hs _ (List.mem_of_getElem? (i := 283) (by decide +kernel)))
  | 4, _ => exact Or.inr (hs _ (List.mem_of_getElem? (i := 284) (by decide +kernel)))
  | 5, _ => exact Or.inr (hs _ (List.mem_of_getElem? (i := 285) (by decide +kernel)))
  | 6, _ => exact Or.inl (hs _ (List.mem_of_getElem? (i := 313) (by decide +kernel)))
  | k + 7, h => exact absurd h (by omega)
theorem lt_ne11 {args : Array Value} {s : State} (hs : ∀ c ∈ lt_f, c.before args s = true) : ∀ j : Nat, 11 < j → j < 18 → (Cond.not (Cond.eq (lt_t 11) (lt_t j))).before args s = true ∨ (Cond.not (Cond.eq (lt_t j) (lt_t 11))).before args s = true := by
  intro j hj hk
  obtain ⟨k, rfl⟩ : ∃ k, j = k + 12 := ⟨j - 12, by omega⟩
  match k, hk with
  | 0, _ => exact Or.inl (hs _ (List.mem_of_getElem? (i := 104) (by decide +kernel)))
  | 1, _ => exact Or.inl (hs _ (List.mem_of_getElem? (i := 120) (by decide +kernel)))
  | 2, _ => exact Or.inl (hs _ (List.mem_of_getElem? (i := 137) (by decide +kernel)))
  | 3, _ => exact Or.inl (hs _ (List.mem_of_getElem? (i := 154) (by decide +kernel)))
  | 4, _ => exact Or.inl (hs _ (List.mem_of_getElem? (i := 170) (by decide +kernel)))
  | 5, _ => exact Or.inl (hs _ (List.mem_of_getElem? (i := 303) (by decide +kernel)))
  | k + 6, h => exact absurd h (by omega)
theorem lt_ne12 {args : Array Value} {s : State} (hs : ∀ c ∈ lt_f, c.before args s = true) : ∀ j : Nat, 12 < j → j < 18 → (Cond.not (Cond.eq (lt_t 12) (lt_t j))).before args s = true ∨ (Cond.not (Cond.eq (lt_t j) (lt_t 12))).before args s = true := by
  intro j hj hk
  obtain ⟨k, rfl⟩ : ∃ k, j = k + 13 := ⟨j - 13, by omega⟩
  match k, hk with
  | 0, _ => exact Or.inl (hs _ (List.mem_of_getElem? (i := 121) (by decide +kernel)))
  | 1, _ => exact Or.inl (hs _ (List.mem_of_getElem? (i := 138) (by decide +kernel)))
  | 2, _ => exact Or.inl (hs _ (List.mem_of_getElem? (i := 155) (by decide +kernel)))
  | 3, _ => exact Or.inl (hs _ (List.mem_of_getElem? (i := 171) (by decide +kernel)))
  | 4, _ => exact Or.inl (hs _ (List.mem_of_getElem? (i := 304) (by decide +kernel)))
  | k + 5, h => exact absurd h (by omega)
theorem lt_ne13 {args : Array Value} {s : State} (hs : ∀ c ∈ lt_f, c.before args s = true) : ∀ j : Nat, 13 < j → j < 18 → (Cond.not (Cond.eq (lt_t 13) (lt_t j))).before args s = true ∨ (Cond.not (Cond.eq (lt_t j) (lt_t 13))).before args s = true := by
  intro j hj hk
  obtain ⟨k, rfl⟩ : ∃ k, j = k + 14 := ⟨j - 14, by omega⟩
  match k, hk with
  | 0, _ => exact Or.inl (hs _ (List.mem_of_getElem? (i := 139) (by decide +kernel)))
  | 1, _ => exact Or.inl (hs _ (List.mem_of_getElem? (i := 156) (by decide +kernel)))
  | 2, _ => exact Or.inl (hs _ (List.mem_of_getElem? (i := 172) (by decide +kernel)))
  | 3, _ => exact Or.inl (hs _ (List.mem_of_getElem? (i := 305) (by decide +kernel)))
  | k + 4, h => exact absurd h (by omega)
theorem lt_ne14 {args : Array Value} {s : State} (hs : ∀ c ∈ lt_f, c.before args s = true) : ∀ j : Nat, 14 < j → j < 18 → (Cond.not (Cond.eq (lt_t 14) (lt_t j))).before args s = true ∨ (Cond.not (Cond.eq (lt_t j) (lt_t 14))).before args s = true := by
  intro j hj hk
  obtain ⟨k, rfl⟩ : ∃ k, j = k + 15 := ⟨j - 15, by omega⟩
  match k, hk with
  | 0, _ => exact Or.inl (hs _ (List.mem_of_getElem? (i := 157) (by decide +kernel)))
  | 1, _ => exact Or.inl (hs _ (List.mem_of_getElem? (i := 173) (by decide +kernel)))
  | 2, _ => exact Or.inl (hs _ (List.mem_of_getElem? (i := 306) (by decide +kernel)))
  | k + 3, h => exact absurd h (by omega)
theorem lt_ne15 {args : Array Value} {s : State} (hs : ∀ c ∈ lt_f, c.before args s = true) : ∀ j : Nat, 15 < j → j < 18 → (Cond.not (Cond.eq (lt_t 15) (lt_t j))).before args s = true ∨ (Cond.not (Cond.eq (lt_t j) (lt_t 15))).before args s = true := by
  intro j hj hk
  obtain ⟨k, rfl⟩ : ∃ k, j = k + 16 := ⟨j - 16, by omega⟩
  match k, hk with
  | 0, _ => exact Or.inl (hs _ (List.mem_of_getElem? (i := 174) (by decide +kernel)))
  | 1, _ => exact Or.inl (hs _ (List.mem_of_getElem? (i := 307) (by decide +kernel)))
  | k + 2, h => exact absurd h (by omega)
theorem lt_ne16 {args : Array Value} {s : State} (hs : ∀ c ∈ lt_f, c.before args s = true) : ∀ j : Nat, 16 < j → j < 18 → (Cond.not (Cond.eq (lt_t 16) (lt_t j))).before args s = true ∨ (Cond.not (Cond.eq (lt_t j) (lt_t 16))).before args s = true := by
  intro j hj hk
  obtain ⟨k, rfl⟩ : ∃ k, j = k + 17 := ⟨j - 17, by omega⟩
  match k, hk with
  | 0, _ => exact Or.inl (hs _ (List.mem_of_getElem? (i := 308) (by decide +kernel)))
  | k + 1, h => exact absurd h (by omega)
theorem lt_ne17 {args : Array Value} {s : State} (hs : ∀ c ∈ lt_f, c.before args s = true) : ∀ j : Nat, 17 < j → j < 18 → (Cond.not (Cond.eq (lt_t 17) (lt_t j))).before args s = true ∨ (Cond.not (Cond.eq (lt_t j) (lt_t 17))).before args s = true := by
  intro j hj hk
  omega
theorem lt_ne' {args : Array Value} {s : State} (hs : ∀ c ∈ lt_f, c.before args s = true) : ∀ i j : Nat, i < j → j < 18 → (Cond.not (Cond.eq (lt_t i) (lt_t j))).before args s = true ∨ (Cond.not (Cond.eq (lt_t j) (lt_t i))).before args s = true := by
  intro i j h1 h2
  have hi : i < 18 := by omega
  match i, hi with
  | 0, _ => exact lt_ne0 hs j h1 h2
  | 1, _ => exact lt_ne1 hs j h1 h2
  | 2, _ => exact lt_ne2 hs j h1 h2
  | 3, _ => exact lt_ne3 hs j h1 h2
  | 4, _ => exact lt_ne4 hs j h1 h2
  | 5, _ => exact lt_ne5 hs j h1 h2
  | 6, _ => exact lt_ne6 hs j h1 h2
  | 7, _ => exact lt_ne7 hs j h1 h2
  | 8, _ => exact lt_ne8 hs j h1 h2
  | 9, _ => exact lt_ne9 hs j h1 h2
  | 10, _ => exact lt_ne10 hs j h1 h2
  | 11, _ => exact lt_ne11 hs j h1 h2
  | 12, _ => exact lt_ne12 hs j h1 h2
  | 13, _ => exact lt_ne13 hs j h1 h2
  | 14, _ => exact lt_ne14 hs j h1 h2
  | 15, _ => exact lt_ne15 hs j h1 h2
  | 16, _ => exact lt_ne16 hs j h1 h2
  | 17, _ => exact lt_ne17 hs j h1 h2
  | k + 18, h => exact absurd h (by omega)
theorem lt_ne {args : Array Value} {s : State} (hs : ∀ c ∈ lt_f, c.before args s = true) : ∀ i j : Nat, i < 18 → j < 18 → i ≠ j → (Cond.not (Cond.eq (lt_t i) (lt_t j))).before args s = true ∨ (Cond.not (Cond.eq (lt_t j) (lt_t i))).before args s = true := by
  intro i j hi hj hn
  rcases Nat.lt_or_gt_of_ne hn with h | h
  · exact lt_ne' hs i j h hj
  · exact (lt_ne' hs j i h hi).symm
theorem lt_N : ∀ i : Nat, i < 18 → pm_len.getD i 0 < 2 ^ 31 := by
  intro i hi
  have h : ((List.range 18).all fun i => decide (pm_len.getD i 0 < 2 ^ 31)) = true := by decide +kernel
  exact of_decide_eq_true (List.all_eq_true.mp h i (List.mem_range.mpr hi))
theorem lt_cs {args : Array Value} {s : State} (hs : ∀ c ∈ lt_f, c.before args s = true) : (Cond.eq (.static "java/lang/String" "COMPACT_STRINGS" "Z") (.int 1)).before args s = true := hs _ (List.mem_of_getElem? (i := 4) (by decide +kernel))
theorem lt_fm {args : Array Value} {s : State} (hs : ∀ c ∈ lt_f, c.before args s = true) : (Cond.isRef (.static "jdk/internal/util/Preconditions" "SIOOBE_FORMATTER" "Ljava/util/function/BiFunction;")).before args s = true := hs _ (List.mem_of_getElem? (i := 5) (by decide +kernel))
theorem lt_inst : ∀ (ci : Nat) (C : String) (T : u_T) (N : Nat), pm_cl[ci]? = some (C, T, N) → Cond.instantiable C N ∈ pm_all := by
  intro ci C T N h
  match ci, h with
  | 0, h => cases h; exact pm_in 2128 (by decide +kernel)
  | 1, h => cases h; exact pm_in 2108 (by decide +kernel)
  | 2, h => cases h; exact pm_in 1205 (by decide +kernel)
  | 3, h => cases h; exact pm_in 2028 (by decide +kernel)
  | 4, h => cases h; exact pm_in 2102 (by decide +kernel)
  | 5, h => cases h; exact pm_in 1130 (by decide +kernel)
  | 6, h => cases h; exact pm_in 2000 (by decide +kernel)
  | 7, h => cases h; exact pm_in 1073 (by decide +kernel)
  | 8, h => cases h; exact pm_in 1028 (by decide +kernel)
  | 9, h => cases h; exact pm_in 1045 (by decide +kernel)
  | 10, h => cases h; exact pm_in 2041 (by decide +kernel)
  | 11, h => cases h; exact pm_in 1020 (by decide +kernel)
  | 12, h => cases h; exact pm_in 5116 (by decide +kernel)
  | k + 13, h => simp [pm_cl] at h
theorem lt_sr {args : Array Value} {s : State} (hts : ∀ w ∈ lw_tbl, w.before args s = true) (lit : Nat → Nat) (hE : ∀ i : Nat, i < 18 → (lt_t i).eval args s none [] s = some (.ref (lit i))) : ∀ q ∈ pm_lits, vk_R "LipsVoiceModel" q.1 q.2.1 (lit q.2.2) s := by
  intro q hq
  obtain ⟨i, hi⟩ := List.mem_iff_getElem?.mp hq
  match i, hi with
  | 0, hi => cases hi; exact vk_R.of (hts _ (pm_look_mem (i := 6096) (by decide +kernel))) (hE 0 (by decide))
  | 1, hi => cases hi; exact vk_R.of (hts _ (pm_look_mem (i := 6160) (by decide +kernel))) (hE 1 (by decide))
  | 2, hi => cases hi; exact vk_R.of (hts _ (pm_look_mem (i := 6161) (by decide +kernel))) (hE 2 (by decide))
  | 3, hi => cases hi; exact vk_R.of (hts _ (pm_look_mem (i := 6162) (by decide +kernel))) (hE 3 (by decide))
  | 4, hi => cases hi; exact vk_R.of (hts _ (pm_look_mem (i := 6163) (by decide +kernel))) (hE 4 (by decide))
  | 5, hi => cases hi; exact vk_R.of (hts _ (pm_look_mem (i := 6164) (by decide +kernel))) (hE 5 (by decide))
  | 6, hi => cases hi; exact vk_R.of (hts _ (pm_look_mem (i := 6227) (by decide +kernel))) (hE 6 (by decide))
  | 7, hi => cases hi; exact vk_R.of (hts _ (pm_look_mem (i := 6228) (by decide +kernel))) (hE 7 (by decide))
  | 8, hi => cases hi; exact vk_R.of (hts _ (pm_look_mem (i := 6229) (by decide +kernel))) (hE 8 (by decide))
  | 9, hi => cases hi; exact vk_R.of (hts _ (pm_look_mem (i := 6230) (by decide +kernel))) (hE 9 (by decide))
  | 10, hi => cases hi; exact vk_R.of (hts _ (pm_look_mem (i := 6231) (by decide +kernel))) (hE 10 (by decide))
  | 11, hi => cases hi; exact vk_R.of (hts _ (pm_look_mem (i := 6209) (by decide +kernel))) (hE 11 (by decide))
  | 12, hi => cases hi; exact vk_R.of (hts _ (pm_look_mem (i := 6210) (by decide +kernel))) (hE 12 (by decide))
  | 13, hi => cases hi; exact vk_R.of (hts _ (pm_look_mem (i := 6211) (by decide +kernel))) (hE 13 (by decide))
  | 14, hi => cases hi; exact vk_R.of (hts _ (pm_look_mem (i := 6212) (by decide +kernel))) (hE 14 (by decide))
  | 15, hi => cases hi; exact vk_R.of (hts _ (pm_look_mem (i := 6213) (by decide +kernel))) (hE 15 (by decide))
  | 16, hi => cases hi; exact vk_R.of (hts _ (pm_look_mem (i := 6214) (by decide +kernel))) (hE 16 (by decide))
  | 17, hi => cases hi; exact vk_R.of (hts _ (pm_look_mem (i := 6239) (by decide +kernel))) (hE 17 (by decide))
  | k + 18, h => simp [pm_lits] at h
set_option maxHeartbeats 4000000 in
/-- the tables, the literals and the statics at the start -/
theorem lt_T {args : Array Value} {s : State} (b : Nat) (hts : ∀ w ∈ lw_tbl, w.before args s = true) (hs : ∀ c ∈ lt_f, c.before args s = true) : ∃ G : pm_G, G.1 = s.heap.size ∧ G.2.2.2.2.2 = b ∧ pm_T G s s.heap := by
  have hA : ∀ a : Nat, a < s.heap.size → ¬ (fun q : Nat => s.heap.size ≤ q) a := fun a h q => absurd h (Nat.not_lt.mpr q)
  have ha : ∀ w ∈ pm_all, w.before args s = true := fun w h => hts w (List.mem_filter.mp h).1
  obtain ⟨c0, i0, -⟩ := u_known (N := 3) (n := 3) ha (pm_uws 0 RX0 TX0 3 rfl).1 (ha _ (lt_inst 0 RX0 TX0 3 rfl))
  have h1 : ∀ k : Nat, ∃ x : ClassId × (Nat → Nat), ∀ q : vw_C, pm_cl[k]? = some q → u_Kn s q.1 q.2.1 q.2.2 x.1 x.2 := by
    intro k
    cases e : pm_cl[k]? with
    | none => exact ⟨(c0, i0), fun q h => by cases h⟩
    | some q =>
      obtain ⟨C, T, N⟩ := q
      obtain ⟨cC, iS, hk⟩ := u_known (N := N) (n := N) ha (pm_uws k C T N e).1 (ha _ (lt_inst k C T N e))
      exact ⟨(cC, iS), fun q h => by cases h; exact hk⟩
  obtain ⟨f, hf⟩ := Classical.axiomOfChoice h1
  obtain ⟨cI, kI, mI, i1, i2, i3⟩ := Cond.arrayClass_spec (type := .int) (ha _ (pm_in 1043 (by decide +kernel)))
  obtain ⟨cJ, kJ, mJ, j1, j2, j3⟩ := Cond.arrayClass_spec (type := .long) (ha _ (pm_in 1238 (by decide +kernel)))
  obtain ⟨cZ, kZ, mZ, z1, z2, z3⟩ := Cond.arrayClass_spec (type := .boolean) (ha _ (pm_in 1127 (by decide +kernel)))
  obtain ⟨cB, kB, mB, b1, b2, b3⟩ := Cond.arrayClass_spec (type := .byte) (ha _ (pm_in 6056 (by decide +kernel)))
  have hov := hts _ (pm_look_mem (w := .arrayOver (.object "LipsVoice$Sheet")) (i := 1128) (by decide +kernel))
  obtain ⟨mS, cS, kS, s1, -, s2, s3, s4⟩ := Cond.arrayOver_spec hov
  obtain ⟨adK, adV, hS4, hE⟩ := vk_Sof (N := 18) (tm := lt_t) (len := pm_len) (byt := pm_byt) (A := fun q => s.heap.size ≤ q) lt_N (lt_ex hs) (lt_co hs) (lt_ar hs) (lt_le hs) (lt_el hs) (lt_ne hs) hA
  obtain ⟨v, v1, v2⟩ := Cond.isRef_spec (lt_fm hs)
  obtain ⟨t, ht⟩ : ∃ t : Nat, v = .null ∨ v = .ref t := by
    cases v <;> first | exact ⟨0, Or.inl rfl⟩ | exact ⟨_, Or.inr rfl⟩ | exact absurd v2 Bool.false_ne_true
  obtain ⟨lit, hlit⟩ : ∃ lit : Nat → Nat, lit = fun q => if q < 18 then adK q else if q < 36 then adV (q - 18) else t := ⟨_, rfl⟩
  have l1 : ∀ q, q < 18 → lit q = adK q := fun q h => by rw [hlit]; exact if_pos h
  have l2 : ∀ q, q < 18 → lit (18 + q) = adV q := fun q h => by
    rw [hlit]
    show (if 18 + q < 18 then adK (18 + q) else if 18 + q < 36 then adV (18 + q - 18) else t) = adV q
    rw [if_neg (by omega), if_pos (by omega), show 18 + q - 18 = q by omega]
  have l3 : lit 36 = t := by rw [hlit]; rfl
  refine ⟨(s.heap.size, (fun k => (f k).1, fun k => (f k).2), fun k => match k with | 0 => cI | 1 => cJ | 3 => cS | 7 => cZ | _ => cB, lit, adV, b), rfl, rfl, ⟨fun k q h => hf k q h, fun k q h => ?_⟩, fun w hm hn => ?_, lt_sr hts lit (fun i hi => by rw [l1 i hi]; exact hE i hi), ⟨⟨fun i hi => ?_, fun i j hi hj e => ?_⟩, l2⟩, ?_, ?_, va_AO.of hov⟩
  · match k, h with
    | 0, h => cases h; exact ⟨fun n z => ⟨fun k h => (by cases h), kI, i2, mI, i3⟩, i1⟩
    | 1, h => cases h; exact ⟨fun n z => ⟨fun k h => (by cases h), kJ, j2, mJ, j3⟩, j1⟩
    | 2, h => cases h; exact ⟨fun n z => ⟨fun k h => (by cases h), kS, s2, mS, s3⟩, kS, mS, s2, s3, s1, s4⟩
    | 3, h => cases h; exact ⟨fun n z => ⟨fun k h => (by cases h), kZ, z2, mZ, z3⟩, z1⟩
    | 4, h => cases h; exact ⟨fun n z => ⟨fun k h => (by cases h), kB, b2, mB, b3⟩, b1⟩
    | k + 5, h => simp [pm_tys] at h
  · cases w <;> first | exact absurd hn Bool.false_ne_true | exact va_Nw.of rfl (hts _ hm)
  · have h := hS4.1 i hi
    have hl : lit i = adK i := l1 i hi
    show va_O "java/lang/String" (lit i) _ s s.heap ∧ va_OF "java/lang/String" "coder" "B" (.int 0) (lit i) _ s s.heap ∧ va_OF "java/lang/String" "value" "[B" (.ref (adV i)) (lit i) _ s s.heap ∧ _
    rw [hl]
    exact h
  · have e : lit i = lit j := e
    rw [l1 i hi, l1 j hj] at e
    exact hS4.2 i j hi hj e
  · exact va_Zof (hts _ (pm_look_mem (i := 6113) (by decide +kernel))) (ha _ (pm_in 1014 (by decide +kernel))) (va_eqt (lt_cs hs)) hA
  · have hz := va_Zof (v := v) (A := fun q => s.heap.size ≤ q) (hts _ (pm_look_mem (i := 6129) (by decide +kernel))) (ha _ (pm_in 1016 (by decide +kernel))) v1 hA
    rcases ht with rfl | rfl
    · exact Or.inl hz
    · right
      show va_Z _ _ _ (.ref (lit 36)) _ s s.heap
      rw [l3]
      exact hz
