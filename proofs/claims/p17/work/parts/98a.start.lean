/-! WHAT THE STATEMENT GIVES of the literals' objects, a row each by its place -/
def lt_ix (i : Nat) : Nat := [154, 160, 162, 164, 166, 168, 252, 254, 256, 258, 260, 269, 274, 276, 278, 280, 282, 287].getD i 0
def lt_t (i : Nat) : Term := .string "LipsVoiceModel" (lt_ix i)
abbrev lt_f : List Cond := flatC (Jvm.Cond.and given_1 narrow_1)
def lt_xL0 : List (Nat × Cond) := [(4, (Cond.eq (.static "java/lang/String" "COMPACT_STRINGS" "Z") (.int 1))), (0, (Cond.isRef (.static "jdk/internal/util/Preconditions" "SIOOBE_FORMATTER" "Ljava/util/function/BiFunction;"))), (3, (Cond.exactly (lt_t 0) "java/lang/String")), (0, (Cond.eq (.field (lt_t 0) "java/lang/String" "coder" "B") (.int 0))), (0, (Cond.arrayOf (.field (lt_t 0) "java/lang/String" "value" "[B") .byte)), (0, (Cond.eq (.length (.field (lt_t 0) "java/lang/String" "value" "[B")) (.int (Int32.ofNat (pm_len.getD 0 0))))), (0, (Cond.eq (.elem (.field (lt_t 0) "java/lang/String" "value" "[B") (.int (Int32.ofNat 0))) (.int ((pm_byt.getD 0 []).getD 0 0)))), (0, (Cond.eq (.elem (.field (lt_t 0) "java/lang/String" "value" "[B") (.int (Int32.ofNat 1))) (.int ((pm_byt.getD 0 []).getD 1 0)))), (0, (Cond.eq (.elem (.field (lt_t 0) "java/lang/String" "value" "[B") (.int (Int32.ofNat 2))) (.int ((pm_byt.getD 0 []).getD 2 0)))), (0, (Cond.eq (.elem (.field (lt_t 0) "java/lang/String" "value" "[B") (.int (Int32.ofNat 3))) (.int ((pm_byt.getD 0 []).getD 3 0)))), (0, (Cond.eq (.elem (.field (lt_t 0) "java/lang/String" "value" "[B") (.int (Int32.ofNat 4))) (.int ((pm_byt.getD 0 []).getD 4 0)))), (0, (Cond.exactly (lt_t 1) "java/lang/String")), (0, (Cond.eq (.field (lt_t 1) "java/lang/String" "coder" "B") (.int 0))), (0, (Cond.arrayOf (.field (lt_t 1) "java/lang/String" "value" "[B") .byte)), (0, (Cond.eq (.length (.field (lt_t 1) "java/lang/String" "value" "[B")) (.int (Int32.ofNat (pm_len.getD 1 0))))), (0, (Cond.eq (.elem (.field (lt_t 1) "java/lang/String" "value" "[B") (.int (Int32.ofNat 0))) (.int ((pm_byt.getD 1 []).getD 0 0)))), (0, (Cond.eq (.elem (.field (lt_t 1) "java/lang/String" "value" "[B") (.int (Int32.ofNat 1))) (.int ((pm_byt.getD 1 []).getD 1 0)))), (0, (Cond.eq (.elem (.field (lt_t 1) "java/lang/String" "value" "[B") (.int (Int32.ofNat 2))) (.int ((pm_byt.getD 1 []).getD 2 0)))), (0, (Cond.eq (.elem (.field (lt_t 1) "java/lang/String" "value" "[B") (.int (Int32.ofNat 3))) (.int ((pm_byt.getD 1 []).getD 3 0)))), (0, (Cond.eq (.elem (.field (lt_t 1) "java/lang/String" "value" "[B") (.int (Int32.ofNat 4))) (.int ((pm_byt.getD 1 []).getD 4 0)))), (0, (Cond.not (Cond.eq (lt_t 0) (lt_t 1)))), (0, (Cond.exactly (lt_t 2) "java/lang/String")), (0, (Cond.eq (.field (lt_t 2) "java/lang/String" "coder" "B") (.int 0))), (0, (Cond.arrayOf (.field (lt_t 2) "java/lang/String" "value" "[B") .byte)), (0, (Cond.eq (.length (.field (lt_t 2) "java/lang/String" "value" "[B")) (.int (Int32.ofNat (pm_len.getD 2 0))))), (0, (Cond.eq (.elem (.field (lt_t 2) "java/lang/String" "value" "[B") (.int (Int32.ofNat 0))) (.int ((pm_byt.getD 2 []).getD 0 0)))), (0, (Cond.eq (.elem (.field (lt_t 2) "java/lang/String" "value" "[B") (.int (Int32.ofNat 1))) (.int ((pm_byt.getD 2 []).getD 1 0)))), (0, (Cond.eq (.elem (.field (lt_t 2) "java/lang/String" "value" "[B") (.int (Int32.ofNat 2))) (.int ((pm_byt.getD 2 []).getD 2 0)))), (0, (Cond.eq (.elem (.field (lt_t 2) "java/lang/String" "value" "[B") (.int (Int32.ofNat 3))) (.int ((pm_byt.getD 2 []).getD 3 0)))), (0, (Cond.not (Cond.eq (lt_t 0) (lt_t 2)))), (0, (Cond.not (Cond.eq (lt_t 1) (lt_t 2)))), (0, (Cond.exactly (lt_t 3) "java/lang/String"))]
theorem lt_xA0 : lw_chk lt_f lt_xL0 = true := by decide +kernel
def lt_xL1 : List (Nat × Cond) := [(39, (Cond.eq (.field (lt_t 3) "java/lang/String" "coder" "B") (.int 0))), (0, (Cond.arrayOf (.field (lt_t 3) "java/lang/String" "value" "[B") .byte)), (0, (Cond.eq (.length (.field (lt_t 3) "java/lang/String" "value" "[B")) (.int (Int32.ofNat (pm_len.getD 3 0))))), (0, (Cond.eq (.elem (.field (lt_t 3) "java/lang/String" "value" "[B") (.int (Int32.ofNat 0))) (.int ((pm_byt.getD 3 []).getD 0 0)))), (0, (Cond.eq (.elem (.field (lt_t 3) "java/lang/String" "value" "[B") (.int (Int32.ofNat 1))) (.int ((pm_byt.getD 3 []).getD 1 0)))), (0, (Cond.eq (.elem (.field (lt_t 3) "java/lang/String" "value" "[B") (.int (Int32.ofNat 2))) (.int ((pm_byt.getD 3 []).getD 2 0)))), (0, (Cond.eq (.elem (.field (lt_t 3) "java/lang/String" "value" "[B") (.int (Int32.ofNat 3))) (.int ((pm_byt.getD 3 []).getD 3 0)))), (0, (Cond.not (Cond.eq (lt_t 0) (lt_t 3)))), (0, (Cond.not (Cond.eq (lt_t 1) (lt_t 3)))), (0, (Cond.not (Cond.eq (lt_t 2) (lt_t 3)))), (0, (Cond.exactly (lt_t 4) "java/lang/String")), (0, (Cond.eq (.field (lt_t 4) "java/lang/String" "coder" "B") (.int 0))), (0, (Cond.arrayOf (.field (lt_t 4) "java/lang/String" "value" "[B") .byte)), (0, (Cond.eq (.length (.field (lt_t 4) "java/lang/String" "value" "[B")) (.int (Int32.ofNat (pm_len.getD 4 0))))), (0, (Cond.eq (.elem (.field (lt_t 4) "java/lang/String" "value" "[B") (.int (Int32.ofNat 0))) (.int ((pm_byt.getD 4 []).getD 0 0)))), (0, (Cond.eq (.elem (.field (lt_t 4) "java/lang/String" "value" "[B") (.int (Int32.ofNat 1))) (.int ((pm_byt.getD 4 []).getD 1 0)))), (0, (Cond.eq (.elem (.field (lt_t 4) "java/lang/String" "value" "[B") (.int (Int32.ofNat 2))) (.int ((pm_byt.getD 4 []).getD 2 0)))), (0, (Cond.eq (.elem (.field (lt_t 4) "java/lang/String" "value" "[B") (.int (Int32.ofNat 3))) (.int ((pm_byt.getD 4 []).getD 3 0)))), (0, (Cond.not (Cond.eq (lt_t 0) (lt_t 4)))), (0, (Cond.not (Cond.eq (lt_t 1) (lt_t 4)))), (0, (Cond.not (Cond.eq (lt_t 2) (lt_t 4)))), (0, (Cond.not (Cond.eq (lt_t 3) (lt_t 4)))), (0, (Cond.exactly (lt_t 5) "java/lang/String")), (0, (Cond.eq (.field (lt_t 5) "java/lang/String" "coder" "B") (.int 0))), (0, (Cond.arrayOf (.field (lt_t 5) "java/lang/String" "value" "[B") .byte)), (0, (Cond.eq (.length (.field (lt_t 5) "java/lang/String" "value" "[B")) (.int (Int32.ofNat (pm_len.getD 5 0))))), (0, (Cond.eq (.elem (.field (lt_t 5) "java/lang/String" "value" "[B") (.int (Int32.ofNat 0))) (.int ((pm_byt.getD 5 []).getD 0 0)))), (0, (Cond.eq (.elem (.field (lt_t 5) "java/lang/String" "value" "[B") (.int (Int32.ofNat 1))) (.int ((pm_byt.getD 5 []).getD 1 0)))), (0, (Cond.eq (.elem (.field (lt_t 5) "java/lang/String" "value" "[B") (.int (Int32.ofNat 2))) (.int ((pm_byt.getD 5 []).getD 2 0)))), (0, (Cond.eq (.elem (.field (lt_t 5) "java/lang/String" "value" "[B") (.int (Int32.ofNat 3))) (.int ((pm_byt.getD 5 []).getD 3 0)))), (0, (Cond.eq (.elem (.field (lt_t 5) "java/lang/String" "value" "[B") (.int (Int32.ofNat 4))) (.int ((pm_byt.getD 5 []).getD 4 0)))), (0, (Cond.not (Cond.eq (lt_t 0) (lt_t 5))))]
theorem lt_xA1 : lw_chk lt_f lt_xL1 = true := by decide +kernel
def lt_xL2 : List (Nat × Cond) := [(71, (Cond.not (Cond.eq (lt_t 1) (lt_t 5)))), (0, (Cond.not (Cond.eq (lt_t 2) (lt_t 5)))), (0, (Cond.not (Cond.eq (lt_t 3) (lt_t 5)))), (0, (Cond.not (Cond.eq (lt_t 4) (lt_t 5)))), (0, (Cond.exactly (lt_t 11) "java/lang/String")), (0, (Cond.eq (.field (lt_t 11) "java/lang/String" "coder" "B") (.int 0))), (0, (Cond.arrayOf (.field (lt_t 11) "java/lang/String" "value" "[B") .byte)), (0, (Cond.eq (.length (.field (lt_t 11) "java/lang/String" "value" "[B")) (.int (Int32.ofNat (pm_len.getD 11 0))))), (0, (Cond.eq (.elem (.field (lt_t 11) "java/lang/String" "value" "[B") (.int (Int32.ofNat 0))) (.int ((pm_byt.getD 11 []).getD 0 0)))), (0, (Cond.eq (.elem (.field (lt_t 11) "java/lang/String" "value" "[B") (.int (Int32.ofNat 1))) (.int ((pm_byt.getD 11 []).getD 1 0)))), (0, (Cond.eq (.elem (.field (lt_t 11) "java/lang/String" "value" "[B") (.int (Int32.ofNat 2))) (.int ((pm_byt.getD 11 []).getD 2 0)))), (0, (Cond.eq (.elem (.field (lt_t 11) "java/lang/String" "value" "[B") (.int (Int32.ofNat 3))) (.int ((pm_byt.getD 11 []).getD 3 0)))), (0, (Cond.not (Cond.eq (lt_t 0) (lt_t 11)))), (0, (Cond.not (Cond.eq (lt_t 1) (lt_t 11)))), (0, (Cond.not (Cond.eq (lt_t 2) (lt_t 11)))), (0, (Cond.not (Cond.eq (lt_t 3) (lt_t 11)))), (0, (Cond.not (Cond.eq (lt_t 4) (lt_t 11)))), (0, (Cond.not (Cond.eq (lt_t 5) (lt_t 11)))), (0, (Cond.exactly (lt_t 12) "java/lang/String")), (0, (Cond.eq (.field (lt_t 12) "java/lang/String" "coder" "B") (.int 0))), (0, (Cond.arrayOf (.field (lt_t 12) "java/lang/String" "value" "[B") .byte)), (0, (Cond.eq (.length (.field (lt_t 12) "java/lang/String" "value" "[B")) (.int (Int32.ofNat (pm_len.getD 12 0))))), (0, (Cond.eq (.elem (.field (lt_t 12) "java/lang/String" "value" "[B") (.int (Int32.ofNat 0))) (.int ((pm_byt.getD 12 []).getD 0 0)))), (0, (Cond.eq (.elem (.field (lt_t 12) "java/lang/String" "value" "[B") (.int (Int32.ofNat 1))) (.int ((pm_byt.getD 12 []).getD 1 0)))), (0, (Cond.eq (.elem (.field (lt_t 12) "java/lang/String" "value" "[B") (.int (Int32.ofNat 2))) (.int ((pm_byt.getD 12 []).getD 2 0)))), (0, (Cond.eq (.elem (.field (lt_t 12) "java/lang/String" "value" "[B") (.int (Int32.ofNat 3))) (.int ((pm_byt.getD 12 []).getD 3 0)))), (0, (Cond.eq (.elem (.field (lt_t 12) "java/lang/String" "value" "[B") (.int (Int32.ofNat 4))) (.int ((pm_byt.getD 12 []).getD 4 0)))), (0, (Cond.not (Cond.eq (lt_t 0) (lt_t 12)))), (0, (Cond.not (Cond.eq (lt_t 1) (lt_t 12)))), (0, (Cond.not (Cond.eq (lt_t 2) (lt_t 12)))), (0, (Cond.not (Cond.eq (lt_t 3) (lt_t 12)))), (0, (Cond.not (Cond.eq (lt_t 4) (lt_t 12))))]
theorem lt_xA2 : lw_chk lt_f lt_xL2 = true := by decide +kernel
def lt_xL3 : List (Nat × Cond) := [(103, (Cond.not (Cond.eq (lt_t 5) (lt_t 12)))), (0, (Cond.not (Cond.eq (lt_t 11) (lt_t 12)))), (0, (Cond.exactly (lt_t 13) "java/lang/String")), (0, (Cond.eq (.field (lt_t 13) "java/lang/String" "coder" "B") (.int 0))), (0, (Cond.arrayOf (.field (lt_t 13) "java/lang/String" "value" "[B") .byte)), (0, (Cond.eq (.length (.field (lt_t 13) "java/lang/String" "value" "[B")) (.int (Int32.ofNat (pm_len.getD 13 0))))), (0, (Cond.eq (.elem (.field (lt_t 13) "java/lang/String" "value" "[B") (.int (Int32.ofNat 0))) (.int ((pm_byt.getD 13 []).getD 0 0)))), (0, (Cond.eq (.elem (.field (lt_t 13) "java/lang/String" "value" "[B") (.int (Int32.ofNat 1))) (.int ((pm_byt.getD 13 []).getD 1 0)))), (0, (Cond.eq (.elem (.field (lt_t 13) "java/lang/String" "value" "[B") (.int (Int32.ofNat 2))) (.int ((pm_byt.getD 13 []).getD 2 0)))), (0, (Cond.eq (.elem (.field (lt_t 13) "java/lang/String" "value" "[B") (.int (Int32.ofNat 3))) (.int ((pm_byt.getD 13 []).getD 3 0)))), (0, (Cond.eq (.elem (.field (lt_t 13) "java/lang/String" "value" "[B") (.int (Int32.ofNat 4))) (.int ((pm_byt.getD 13 []).getD 4 0)))), (0, (Cond.not (Cond.eq (lt_t 0) (lt_t 13)))), (0, (Cond.not (Cond.eq (lt_t 1) (lt_t 13)))), (0, (Cond.not (Cond.eq (lt_t 2) (lt_t 13)))), (0, (Cond.not (Cond.eq (lt_t 3) (lt_t 13)))), (0, (Cond.not (Cond.eq (lt_t 4) (lt_t 13)))), (0, (Cond.not (Cond.eq (lt_t 5) (lt_t 13)))), (0, (Cond.not (Cond.eq (lt_t 11) (lt_t 13)))), (0, (Cond.not (Cond.eq (lt_t 12) (lt_t 13)))), (0, (Cond.exactly (lt_t 14) "java/lang/String")), (0, (Cond.eq (.field (lt_t 14) "java/lang/String" "coder" "B") (.int 0))), (0, (Cond.arrayOf (.field (lt_t 14) "java/lang/String" "value" "[B") .byte)), (0, (Cond.eq (.length (.field (lt_t 14) "java/lang/String" "value" "[B")) (.int (Int32.ofNat (pm_len.getD 14 0))))), (0, (Cond.eq (.elem (.field (lt_t 14) "java/lang/String" "value" "[B") (.int (Int32.ofNat 0))) (.int ((pm_byt.getD 14 []).getD 0 0)))), (0, (Cond.eq (.elem (.field (lt_t 14) "java/lang/String" "value" "[B") (.int (Int32.ofNat 1))) (.int ((pm_byt.getD 14 []).getD 1 0)))), (0, (Cond.eq (.elem (.field (lt_t 14) "java/lang/String" "value" "[B") (.int (Int32.ofNat 2))) (.int ((pm_byt.getD 14 []).getD 2 0)))), (0, (Cond.eq (.elem (.field (lt_t 14) "java/lang/String" "value" "[B") (.int (Int32.ofNat 3))) (.int ((pm_byt.getD 14 []).getD 3 0)))), (0, (Cond.eq (.elem (.field (lt_t 14) "java/lang/String" "value" "[B") (.int (Int32.ofNat 4))) (.int ((pm_byt.getD 14 []).getD 4 0)))), (0, (Cond.not (Cond.eq (lt_t 0) (lt_t 14)))), (0, (Cond.not (Cond.eq (lt_t 1) (lt_t 14)))), (0, (Cond.not (Cond.eq (lt_t 2) (lt_t 14)))), (0, (Cond.not (Cond.eq (lt_t 3) (lt_t 14))))]
theorem lt_xA3 : lw_chk lt_f lt_xL3 = true := by decide +kernel
def lt_xL4 : List (Nat × Cond) := [(135, (Cond.not (Cond.eq (lt_t 4) (lt_t 14)))), (0, (Cond.not (Cond.eq (lt_t 5) (lt_t 14)))), (0, (Cond.not (Cond.eq (lt_t 11) (lt_t 14)))), (0, (Cond.not (Cond.eq (lt_t 12) (lt_t 14)))), (0, (Cond.not (Cond.eq (lt_t 13) (lt_t 14)))), (0, (Cond.exactly (lt_t 15) "java/lang/String")), (0, (Cond.eq (.field (lt_t 15) "java/lang/String" "coder" "B") (.int 0))), (0, (Cond.arrayOf (.field (lt_t 15) "java/lang/String" "value" "[B") .byte)), (0, (Cond.eq (.length (.field (lt_t 15) "java/lang/String" "value" "[B")) (.int (Int32.ofNat (pm_len.getD 15 0))))), (0, (Cond.eq (.elem (.field (lt_t 15) "java/lang/String" "value" "[B") (.int (Int32.ofNat 0))) (.int ((pm_byt.getD 15 []).getD 0 0)))), (0, (Cond.eq (.elem (.field (lt_t 15) "java/lang/String" "value" "[B") (.int (Int32.ofNat 1))) (.int ((pm_byt.getD 15 []).getD 1 0)))), (0, (Cond.eq (.elem (.field (lt_t 15) "java/lang/String" "value" "[B") (.int (Int32.ofNat 2))) (.int ((pm_byt.getD 15 []).getD 2 0)))), (0, (Cond.eq (.elem (.field (lt_t 15) "java/lang/String" "value" "[B") (.int (Int32.ofNat 3))) (.int ((pm_byt.getD 15 []).getD 3 0)))), (0, (Cond.not (Cond.eq (lt_t 0) (lt_t 15)))), (0, (Cond.not (Cond.eq (lt_t 1) (lt_t 15)))), (0, (Cond.not (Cond.eq (lt_t 2) (lt_t 15)))), (0, (Cond.not (Cond.eq (lt_t 3) (lt_t 15)))), (0, (Cond.not (Cond.eq (lt_t 4) (lt_t 15)))), (0, (Cond.not (Cond.eq (lt_t 5) (lt_t 15)))), (0, (Cond.not (Cond.eq (lt_t 11) (lt_t 15)))), (0, (Cond.not (Cond.eq (lt_t 12) (lt_t 15)))), (0, (Cond.not (Cond.eq (lt_t 13) (lt_t 15)))), (0, (Cond.not (Cond.eq (lt_t 14) (lt_t 15)))), (0, (Cond.exactly (lt_t 16) "java/lang/String")), (0, (Cond.eq (.field (lt_t 16) "java/lang/String" "coder" "B") (.int 0))), (0, (Cond.arrayOf (.field (lt_t 16) "java/lang/String" "value" "[B") .byte)), (0, (Cond.eq (.length (.field (lt_t 16) "java/lang/String" "value" "[B")) (.int (Int32.ofNat (pm_len.getD 16 0))))), (0, (Cond.eq (.elem (.field (lt_t 16) "java/lang/String" "value" "[B") (.int (Int32.ofNat 0))) (.int ((pm_byt.getD 16 []).getD 0 0)))), (0, (Cond.eq (.elem (.field (lt_t 16) "java/lang/String" "value" "[B") (.int (Int32.ofNat 1))) (.int ((pm_byt.getD 16 []).getD 1 0)))), (0, (Cond.not (Cond.eq (lt_t 0) (lt_t 16)))), (0, (Cond.not (Cond.eq (lt_t 1) (lt_t 16)))), (0, (Cond.not (Cond.eq (lt_t 2) (lt_t 16))))]
theorem lt_xA4 : lw_chk lt_f lt_xL4 = true := by decide +kernel
def lt_xL5 : List (Nat × Cond) := [(167, (Cond.not (Cond.eq (lt_t 3) (lt_t 16)))), (0, (Cond.not (Cond.eq (lt_t 4) (lt_t 16)))), (0, (Cond.not (Cond.eq (lt_t 5) (lt_t 16)))), (0, (Cond.not (Cond.eq (lt_t 11) (lt_t 16)))), (0, (Cond.not (Cond.eq (lt_t 12) (lt_t 16)))), (0, (Cond.not (Cond.eq (lt_t 13) (lt_t 16)))), (0, (Cond.not (Cond.eq (lt_t 14) (lt_t 16)))), (0, (Cond.not (Cond.eq (lt_t 15) (lt_t 16)))), (0, (Cond.exactly (lt_t 6) "java/lang/String")), (0, (Cond.eq (.field (lt_t 6) "java/lang/String" "coder" "B") (.int 0))), (0, (Cond.arrayOf (.field (lt_t 6) "java/lang/String" "value" "[B") .byte)), (0, (Cond.eq (.length (.field (lt_t 6) "java/lang/String" "value" "[B")) (.int (Int32.ofNat (pm_len.getD 6 0))))), (0, (Cond.eq (.elem (.field (lt_t 6) "java/lang/String" "value" "[B") (.int (Int32.ofNat 0))) (.int ((pm_byt.getD 6 []).getD 0 0)))), (0, (Cond.eq (.elem (.field (lt_t 6) "java/lang/String" "value" "[B") (.int (Int32.ofNat 1))) (.int ((pm_byt.getD 6 []).getD 1 0)))), (0, (Cond.eq (.elem (.field (lt_t 6) "java/lang/String" "value" "[B") (.int (Int32.ofNat 2))) (.int ((pm_byt.getD 6 []).getD 2 0)))), (0, (Cond.eq (.elem (.field (lt_t 6) "java/lang/String" "value" "[B") (.int (Int32.ofNat 3))) (.int ((pm_byt.getD 6 []).getD 3 0)))), (0, (Cond.eq (.elem (.field (lt_t 6) "java/lang/String" "value" "[B") (.int (Int32.ofNat 4))) (.int ((pm_byt.getD 6 []).getD 4 0)))), (0, (Cond.not (Cond.eq (lt_t 0) (lt_t 6)))), (0, (Cond.not (Cond.eq (lt_t 1) (lt_t 6)))), (0, (Cond.not (Cond.eq (lt_t 2) (lt_t 6)))), (0, (Cond.not (Cond.eq (lt_t 3) (lt_t 6)))), (0, (Cond.not (Cond.eq (lt_t 4) (lt_t 6)))), (0, (Cond.not (Cond.eq (lt_t 5) (lt_t 6)))), (0, (Cond.not (Cond.eq (lt_t 11) (lt_t 6)))), (0, (Cond.not (Cond.eq (lt_t 12) (lt_t 6)))), (0, (Cond.not (Cond.eq (lt_t 13) (lt_t 6)))), (0, (Cond.not (Cond.eq (lt_t 14) (lt_t 6)))), (0, (Cond.not (Cond.eq (lt_t 15) (lt_t 6)))), (0, (Cond.not (Cond.eq (lt_t 16) (lt_t 6)))), (0, (Cond.exactly (lt_t 7) "java/lang/String")), (0, (Cond.eq (.field (lt_t 7) "java/lang/String" "coder" "B") (.int 0))), (0, (Cond.arrayOf (.field (lt_t 7) "java/lang/String" "value" "[B") .byte))]
theorem lt_xA5 : lw_chk lt_f lt_xL5 = true := by decide +kernel
def lt_xL6 : List (Nat × Cond) := [(199, (Cond.eq (.length (.field (lt_t 7) "java/lang/String" "value" "[B")) (.int (Int32.ofNat (pm_len.getD 7 0))))), (0, (Cond.eq (.elem (.field (lt_t 7) "java/lang/String" "value" "[B") (.int (Int32.ofNat 0))) (.int ((pm_byt.getD 7 []).getD 0 0)))), (0, (Cond.eq (.elem (.field (lt_t 7) "java/lang/String" "value" "[B") (.int (Int32.ofNat 1))) (.int ((pm_byt.getD 7 []).getD 1 0)))), (0, (Cond.eq (.elem (.field (lt_t 7) "java/lang/String" "value" "[B") (.int (Int32.ofNat 2))) (.int ((pm_byt.getD 7 []).getD 2 0)))), (0, (Cond.eq (.elem (.field (lt_t 7) "java/lang/String" "value" "[B") (.int (Int32.ofNat 3))) (.int ((pm_byt.getD 7 []).getD 3 0)))), (0, (Cond.eq (.elem (.field (lt_t 7) "java/lang/String" "value" "[B") (.int (Int32.ofNat 4))) (.int ((pm_byt.getD 7 []).getD 4 0)))), (0, (Cond.eq (.elem (.field (lt_t 7) "java/lang/String" "value" "[B") (.int (Int32.ofNat 5))) (.int ((pm_byt.getD 7 []).getD 5 0)))), (0, (Cond.eq (.elem (.field (lt_t 7) "java/lang/String" "value" "[B") (.int (Int32.ofNat 6))) (.int ((pm_byt.getD 7 []).getD 6 0)))), (0, (Cond.not (Cond.eq (lt_t 0) (lt_t 7)))), (0, (Cond.not (Cond.eq (lt_t 1) (lt_t 7)))), (0, (Cond.not (Cond.eq (lt_t 2) (lt_t 7)))), (0, (Cond.not (Cond.eq (lt_t 3) (lt_t 7)))), (0, (Cond.not (Cond.eq (lt_t 4) (lt_t 7)))), (0, (Cond.not (Cond.eq (lt_t 5) (lt_t 7)))), (0, (Cond.not (Cond.eq (lt_t 11) (lt_t 7)))), (0, (Cond.not (Cond.eq (lt_t 12) (lt_t 7)))), (0, (Cond.not (Cond.eq (lt_t 13) (lt_t 7)))), (0, (Cond.not (Cond.eq (lt_t 14) (lt_t 7)))), (0, (Cond.not (Cond.eq (lt_t 15) (lt_t 7)))), (0, (Cond.not (Cond.eq (lt_t 16) (lt_t 7)))), (0, (Cond.not (Cond.eq (lt_t 6) (lt_t 7)))), (0, (Cond.exactly (lt_t 8) "java/lang/String")), (0, (Cond.eq (.field (lt_t 8) "java/lang/String" "coder" "B") (.int 0))), (0, (Cond.arrayOf (.field (lt_t 8) "java/lang/String" "value" "[B") .byte)), (0, (Cond.eq (.length (.field (lt_t 8) "java/lang/String" "value" "[B")) (.int (Int32.ofNat (pm_len.getD 8 0))))), (0, (Cond.eq (.elem (.field (lt_t 8) "java/lang/String" "value" "[B") (.int (Int32.ofNat 0))) (.int ((pm_byt.getD 8 []).getD 0 0)))), (0, (Cond.eq (.elem (.field (lt_t 8) "java/lang/String" "value" "[B") (.int (Int32.ofNat 1))) (.int ((pm_byt.getD 8 []).getD 1 0)))), (0, (Cond.eq (.elem (.field (lt_t 8) "java/lang/String" "value" "[B") (.int (Int32.ofNat 2))) (.int ((pm_byt.getD 8 []).getD 2 0)))), (0, (Cond.eq (.elem (.field (lt_t 8) "java/lang/String" "value" "[B") (.int (Int32.ofNat 3))) (.int ((pm_byt.getD 8 []).getD 3 0)))), (0, (Cond.eq (.elem (.field (lt_t 8) "java/lang/String" "value" "[B") (.int (Int32.ofNat 4))) (.int ((pm_byt.getD 8 []).getD 4 0)))), (0, (Cond.not (Cond.eq (lt_t 0) (lt_t 8)))), (0, (Cond.not (Cond.eq (lt_t 1) (lt_t 8))))]
theorem lt_xA6 : lw_chk lt_f lt_xL6 = true := by decide +kernel
def lt_xL7 : List (Nat × Cond) := [(231, (Cond.not (Cond.eq (lt_t 2) (lt_t 8)))), (0, (Cond.not (Cond.eq (lt_t 3) (lt_t 8)))), (0, (Cond.not (Cond.eq (lt_t 4) (lt_t 8)))), (0, (Cond.not (Cond.eq (lt_t 5) (lt_t 8)))), (0, (Cond.not (Cond.eq (lt_t 11) (lt_t 8)))), (0, (Cond.not (Cond.eq (lt_t 12) (lt_t 8)))), (0, (Cond.not (Cond.eq (lt_t 13) (lt_t 8)))), (0, (Cond.not (Cond.eq (lt_t 14) (lt_t 8)))), (0, (Cond.not (Cond.eq (lt_t 15) (lt_t 8)))), (0, (Cond.not (Cond.eq (lt_t 16) (lt_t 8)))), (0, (Cond.not (Cond.eq (lt_t 6) (lt_t 8)))), (0, (Cond.not (Cond.eq (lt_t 7) (lt_t 8)))), (0, (Cond.exactly (lt_t 9) "java/lang/String")), (0, (Cond.eq (.field (lt_t 9) "java/lang/String" "coder" "B") (.int 0))), (0, (Cond.arrayOf (.field (lt_t 9) "java/lang/String" "value" "[B") .byte)), (0, (Cond.eq (.length (.field (lt_t 9) "java/lang/String" "value" "[B")) (.int (Int32.ofNat (pm_len.getD 9 0))))), (0, (Cond.eq (.elem (.field (lt_t 9) "java/lang/String" "value" "[B") (.int (Int32.ofNat 0))) (.int ((pm_byt.getD 9 []).getD 0 0)))), (0, (Cond.eq (.elem (.field (lt_t 9) "java/lang/String" "value" "[B") (.int (Int32.ofNat 1))) (.int ((pm_byt.getD 9 []).getD 1 0)))), (0, (Cond.eq (.elem (.field (lt_t 9) "java/lang/String" "value" "[B") (.int (Int32.ofNat 2))) (.int ((pm_byt.getD 9 []).getD 2 0)))), (0, (Cond.eq (.elem (.field (lt_t 9) "java/lang/String" "value" "[B") (.int (Int32.ofNat 3))) (.int ((pm_byt.getD 9 []).getD 3 0)))), (0, (Cond.not (Cond.eq (lt_t 0) (lt_t 9)))), (0, (Cond.not (Cond.eq (lt_t 1) (lt_t 9)))), (0, (Cond.not (Cond.eq (lt_t 2) (lt_t 9)))), (0, (Cond.not (Cond.eq (lt_t 3) (lt_t 9)))), (0, (Cond.not (Cond.eq (lt_t 4) (lt_t 9)))), (0, (Cond.not (Cond.eq (lt_t 5) (lt_t 9)))), (0, (Cond.not (Cond.eq (lt_t 11) (lt_t 9)))), (0, (Cond.not (Cond.eq (lt_t 12) (lt_t 9)))), (0, (Cond.not (Cond.eq (lt_t 13) (lt_t 9)))), (0, (Cond.not (Cond.eq (lt_t 14) (lt_t 9)))), (0, (Cond.not (Cond.eq (lt_t 15) (lt_t 9)))), (0, (Cond.not (Cond.eq (lt_t 16) (lt_t 9))))]
theorem lt_xA7 : lw_chk lt_f lt_xL7 = true := by decide +kernel
def lt_xL8 : List (Nat × Cond) := [(263, (Cond.not (Cond.eq (lt_t 6) (lt_t 9)))), (0, (Cond.not (Cond.eq (lt_t 7) (lt_t 9)))), (0, (Cond.not (Cond.eq (lt_t 8) (lt_t 9)))), (0, (Cond.exactly (lt_t 10) "java/lang/String")), (0, (Cond.eq (.field (lt_t 10) "java/lang/String" "coder" "B") (.int 0))), (0, (Cond.arrayOf (.field (lt_t 10) "java/lang/String" "value" "[B") .byte)), (0, (Cond.eq (.length (.field (lt_t 10) "java/lang/String" "value" "[B")) (.int (Int32.ofNat (pm_len.getD 10 0))))), (0, (Cond.eq (.elem (.field (lt_t 10) "java/lang/String" "value" "[B") (.int (Int32.ofNat 0))) (.int ((pm_byt.getD 10 []).getD 0 0)))), (0, (Cond.eq (.elem (.field (lt_t 10) "java/lang/String" "value" "[B") (.int (Int32.ofNat 1))) (.int ((pm_byt.getD 10 []).getD 1 0)))), (0, (Cond.eq (.elem (.field (lt_t 10) "java/lang/String" "value" "[B") (.int (Int32.ofNat 2))) (.int ((pm_byt.getD 10 []).getD 2 0)))), (0, (Cond.eq (.elem (.field (lt_t 10) "java/lang/String" "value" "[B") (.int (Int32.ofNat 3))) (.int ((pm_byt.getD 10 []).getD 3 0)))), (0, (Cond.not (Cond.eq (lt_t 0) (lt_t 10)))), (0, (Cond.not (Cond.eq (lt_t 1) (lt_t 10)))), (0, (Cond.not (Cond.eq (lt_t 2) (lt_t 10)))), (0, (Cond.not (Cond.eq (lt_t 3) (lt_t 10)))), (0, (Cond.not (Cond.eq (lt_t 4) (lt_t 10)))), (0, (Cond.not (Cond.eq (lt_t 5) (lt_t 10)))), (0, (Cond.not (Cond.eq (lt_t 11) (lt_t 10)))), (0, (Cond.not (Cond.eq (lt_t 12) (lt_t 10)))), (0, (Cond.not (Cond.eq (lt_t 13) (lt_t 10)))), (0, (Cond.not (Cond.eq (lt_t 14) (lt_t 10)))), (0, (Cond.not (Cond.eq (lt_t 15) (lt_t 10)))), (0, (Cond.not (Cond.eq (lt_t 16) (lt_t 10)))), (0, (Cond.not (Cond.eq (lt_t 6) (lt_t 10)))), (0, (Cond.not (Cond.eq (lt_t 7) (lt_t 10)))), (0, (Cond.not (Cond.eq (lt_t 8) (lt_t 10)))), (0, (Cond.not (Cond.eq (lt_t 9) (lt_t 10)))), (0, (Cond.exactly (lt_t 17) "java/lang/String")), (0, (Cond.eq (.field (lt_t 17) "java/lang/String" "coder" "B") (.int 0))), (0, (Cond.arrayOf (.field (lt_t 17) "java/lang/String" "value" "[B") .byte)), (0, (Cond.eq (.length (.field (lt_t 17) "java/lang/String" "value" "[B")) (.int (Int32.ofNat (pm_len.getD 17 0))))), (0, (Cond.eq (.elem (.field (lt_t 17) "java/lang/String" "value" "[B") (.int (Int32.ofNat 0))) (.int ((pm_byt.getD 17 []).getD 0 0))))]
theorem lt_xA8 : lw_chk lt_f lt_xL8 = true := by decide +kernel
def lt_xL9 : List (Nat × Cond) := [(295, (Cond.eq (.elem (.field (lt_t 17) "java/lang/String" "value" "[B") (.int (Int32.ofNat 1))) (.int ((pm_byt.getD 17 []).getD 1 0)))), (0, (Cond.eq (.elem (.field (lt_t 17) "java/lang/String" "value" "[B") (.int (Int32.ofNat 2))) (.int ((pm_byt.getD 17 []).getD 2 0)))), (0, (Cond.not (Cond.eq (lt_t 0) (lt_t 17)))), (0, (Cond.not (Cond.eq (lt_t 1) (lt_t 17)))), (0, (Cond.not (Cond.eq (lt_t 2) (lt_t 17)))), (0, (Cond.not (Cond.eq (lt_t 3) (lt_t 17)))), (0, (Cond.not (Cond.eq (lt_t 4) (lt_t 17)))), (0, (Cond.not (Cond.eq (lt_t 5) (lt_t 17)))), (0, (Cond.not (Cond.eq (lt_t 11) (lt_t 17)))), (0, (Cond.not (Cond.eq (lt_t 12) (lt_t 17)))), (0, (Cond.not (Cond.eq (lt_t 13) (lt_t 17)))), (0, (Cond.not (Cond.eq (lt_t 14) (lt_t 17)))), (0, (Cond.not (Cond.eq (lt_t 15) (lt_t 17)))), (0, (Cond.not (Cond.eq (lt_t 16) (lt_t 17)))), (0, (Cond.not (Cond.eq (lt_t 6) (lt_t 17)))), (0, (Cond.not (Cond.eq (lt_t 7) (lt_t 17)))), (0, (Cond.not (Cond.eq (lt_t 8) (lt_t 17)))), (0, (Cond.not (Cond.eq (lt_t 9) (lt_t 17)))), (0, (Cond.not (Cond.eq (lt_t 10) (lt_t 17))))]
theorem lt_xA9 : lw_chk lt_f lt_xL9 = true := by decide +kernel
theorem lt_ex {args : Array Value} {s : State} (hs : ∀ c ∈ lt_f, c.before args s = true) : ∀ i : Nat, i < 18 → (Cond.exactly (lt_t i) "java/lang/String").before args s = true := by
  intro i hi
  match i, hi with
  | 0, _ => exact hs _ (lw_chk_ok lt_f lt_xL0 lt_xA0 _ (List.mem_of_getElem? (i := 2) rfl))
  | 1, _ => exact hs _ (lw_chk_ok lt_f lt_xL0 lt_xA0 _ (List.mem_of_getElem? (i := 11) rfl))
  | 2, _ => exact hs _ (lw_chk_ok lt_f lt_xL0 lt_xA0 _ (List.mem_of_getElem? (i := 21) rfl))
  | 3, _ => exact hs _ (lw_chk_ok lt_f lt_xL0 lt_xA0 _ (List.mem_of_getElem? (i := 31) rfl))
  | 4, _ => exact hs _ (lw_chk_ok lt_f lt_xL1 lt_xA1 _ (List.mem_of_getElem? (i := 10) rfl))
  | 5, _ => exact hs _ (lw_chk_ok lt_f lt_xL1 lt_xA1 _ (List.mem_of_getElem? (i := 22) rfl))
  | 6, _ => exact hs _ (lw_chk_ok lt_f lt_xL5 lt_xA5 _ (List.mem_of_getElem? (i := 8) rfl))
  | 7, _ => exact hs _ (lw_chk_ok lt_f lt_xL5 lt_xA5 _ (List.mem_of_getElem? (i := 29) rfl))
  | 8, _ => exact hs _ (lw_chk_ok lt_f lt_xL6 lt_xA6 _ (List.mem_of_getElem? (i := 21) rfl))
  | 9, _ => exact hs _ (lw_chk_ok lt_f lt_xL7 lt_xA7 _ (List.mem_of_getElem? (i := 12) rfl))
  | 10, _ => exact hs _ (lw_chk_ok lt_f lt_xL8 lt_xA8 _ (List.mem_of_getElem? (i := 3) rfl))
  | 11, _ => exact hs _ (lw_chk_ok lt_f lt_xL2 lt_xA2 _ (List.mem_of_getElem? (i := 4) rfl))
  | 12, _ => exact hs _ (lw_chk_ok lt_f lt_xL2 lt_xA2 _ (List.mem_of_getElem? (i := 18) rfl))
  | 13, _ => exact hs _ (lw_chk_ok lt_f lt_xL3 lt_xA3 _ (List.mem_of_getElem? (i := 2) rfl))
  | 14, _ => exact hs _ (lw_chk_ok lt_f lt_xL3 lt_xA3 _ (List.mem_of_getElem? (i := 19) rfl))
  | 15, _ => exact hs _ (lw_chk_ok lt_f lt_xL4 lt_xA4 _ (List.mem_of_getElem? (i := 5) rfl))
  | 16, _ => exact hs _ (lw_chk_ok lt_f lt_xL4 lt_xA4 _ (List.mem_of_getElem? (i := 23) rfl))
  | 17, _ => exact hs _ (lw_chk_ok lt_f lt_xL8 lt_xA8 _ (List.mem_of_getElem? (i := 27) rfl))
  | k + 18, h => exact absurd h (by omega)
theorem lt_co {args : Array Value} {s : State} (hs : ∀ c ∈ lt_f, c.before args s = true) : ∀ i : Nat, i < 18 → (Cond.eq (.field (lt_t i) "java/lang/String" "coder" "B") (.int 0)).before args s = true := by
  intro i hi
  match i, hi with
  | 0, _ => exact hs _ (lw_chk_ok lt_f lt_xL0 lt_xA0 _ (List.mem_of_getElem? (i := 3) rfl))
  | 1, _ => exact hs _ (lw_chk_ok lt_f lt_xL0 lt_xA0 _ (List.mem_of_getElem? (i := 12) rfl))
  | 2, _ => exact hs _ (lw_chk_ok lt_f lt_xL0 lt_xA0 _ (List.mem_of_getElem? (i := 22) rfl))
  | 3, _ => exact hs _ (lw_chk_ok lt_f lt_xL1 lt_xA1 _ (List.mem_of_getElem? (i := 0) rfl))
  | 4, _ => exact hs _ (lw_chk_ok lt_f lt_xL1 lt_xA1 _ (List.mem_of_getElem? (i := 11) rfl))
  | 5, _ => exact hs _ (lw_chk_ok lt_f lt_xL1 lt_xA1 _ (List.mem_of_getElem? (i := 23) rfl))
  | 6, _ => exact hs _ (lw_chk_ok lt_f lt_xL5 lt_xA5 _ (List.mem_of_getElem? (i := 9) rfl))
  | 7, _ => exact hs _ (lw_chk_ok lt_f lt_xL5 lt_xA5 _ (List.mem_of_getElem? (i := 30) rfl))
  | 8, _ => exact hs _ (lw_chk_ok lt_f lt_xL6 lt_xA6 _ (List.mem_of_getElem? (i := 22) rfl))
  | 9, _ => exact hs _ (lw_chk_ok lt_f lt_xL7 lt_xA7 _ (List.mem_of_getElem? (i := 13) rfl))
  | 10, _ => exact hs _ (lw_chk_ok lt_f lt_xL8 lt_xA8 _ (List.mem_of_getElem? (i := 4) rfl))
  | 11, _ => exact hs _ (lw_chk_ok lt_f lt_xL2 lt_xA2 _ (List.mem_of_getElem? (i := 5) rfl))
  | 12, _ => exact hs _ (lw_chk_ok lt_f lt_xL2 lt_xA2 _ (List.mem_of_getElem? (i := 19) rfl))
  | 13, _ => exact hs _ (lw_chk_ok lt_f lt_xL3 lt_xA3 _ (List.mem_of_getElem? (i := 3) rfl))
  | 14, _ => exact hs _ (lw_chk_ok lt_f lt_xL3 lt_xA3 _ (List.mem_of_getElem? (i := 20) rfl))
  | 15, _ => exact hs _ (lw_chk_ok lt_f lt_xL4 lt_xA4 _ (List.mem_of_getElem? (i := 6) rfl))
  | 16, _ => exact hs _ (lw_chk_ok lt_f lt_xL4 lt_xA4 _ (List.mem_of_getElem? (i := 24) rfl))
  | 17, _ => exact hs _ (lw_chk_ok lt_f lt_xL8 lt_xA8 _ (List.mem_of_getElem? (i := 28) rfl))
  | k + 18, h => exact absurd h (by omega)
theorem lt_ar {args : Array Value} {s : State} (hs : ∀ c ∈ lt_f, c.before args s = true) : ∀ i : Nat, i < 18 → (Cond.arrayOf (.field (lt_t i) "java/lang/String" "value" "[B") .byte).before args s = true := by
  intro i hi
  match i, hi with
  | 0, _ => exact hs _ (lw_chk_ok lt_f lt_xL0 lt_xA0 _ (List.mem_of_getElem? (i := 4) rfl))
  | 1, _ => exact hs _ (lw_chk_ok lt_f lt_xL0 lt_xA0 _ (List.mem_of_getElem? (i := 13) rfl))
  | 2, _ => exact hs _ (lw_chk_ok lt_f lt_xL0 lt_xA0 _ (List.mem_of_getElem? (i := 23) rfl))
  | 3, _ => exact hs _ (lw_chk_ok lt_f lt_xL1 lt_xA1 _ (List.mem_of_getElem? (i := 1) rfl))
  | 4, _ => exact hs _ (lw_chk_ok lt_f lt_xL1 lt_xA1 _ (List.mem_of_getElem? (i := 12) rfl))
  | 5, _ => exact hs _ (lw_chk_ok lt_f lt_xL1 lt_xA1 _ (List.mem_of_getElem? (i := 24) rfl))
  | 6, _ => exact hs _ (lw_chk_ok lt_f lt_xL5 lt_xA5 _ (List.mem_of_getElem? (i := 10) rfl))
  | 7, _ => exact hs _ (lw_chk_ok lt_f lt_xL5 lt_xA5 _ (List.mem_of_getElem? (i := 31) rfl))
  | 8, _ => exact hs _ (lw_chk_ok lt_f lt_xL6 lt_xA6 _ (List.mem_of_getElem? (i := 23) rfl))
  | 9, _ => exact hs _ (lw_chk_ok lt_f lt_xL7 lt_xA7 _ (List.mem_of_getElem? (i := 14) rfl))
  | 10, _ => exact hs _ (lw_chk_ok lt_f lt_xL8 lt_xA8 _ (List.mem_of_getElem? (i := 5) rfl))
  | 11, _ => exact hs _ (lw_chk_ok lt_f lt_xL2 lt_xA2 _ (List.mem_of_getElem? (i := 6) rfl))
  | 12, _ => exact hs _ (lw_chk_ok lt_f lt_xL2 lt_xA2 _ (List.mem_of_getElem? (i := 20) rfl))
  | 13, _ => exact hs _ (lw_chk_ok lt_f lt_xL3 lt_xA3 _ (List.mem_of_getElem? (i := 4) rfl))
  | 14, _ => exact hs _ (lw_chk_ok lt_f lt_xL3 lt_xA3 _ (List.mem_of_getElem? (i := 21) rfl))
  | 15, _ => exact hs _ (lw_chk_ok lt_f lt_xL4 lt_xA4 _ (List.mem_of_getElem? (i := 7) rfl))
  | 16, _ => exact hs _ (lw_chk_ok lt_f lt_xL4 lt_xA4 _ (List.mem_of_getElem? (i := 25) rfl))
  | 17, _ => exact hs _ (lw_chk_ok lt_f lt_xL8 lt_xA8 _ (List.mem_of_getElem? (i := 29) rfl))
  | k + 18, h => exact absurd h (by omega)
theorem lt_le {args : Array Value} {s : State} (hs : ∀ c ∈ lt_f, c.before args s = true) : ∀ i : Nat, i < 18 → (Cond.eq (.length (.field (lt_t i) "java/lang/String" "value" "[B")) (.int (Int32.ofNat (pm_len.getD i 0)))).before args s = true := by
  intro i hi
  match i, hi with
  | 0, _ => exact hs _ (lw_chk_ok lt_f lt_xL0 lt_xA0 _ (List.mem_of_getElem? (i := 5) rfl))
  | 1, _ => exact hs _ (lw_chk_ok lt_f lt_xL0 lt_xA0 _ (List.mem_of_getElem? (i := 14) rfl))
  | 2, _ => exact hs _ (lw_chk_ok lt_f lt_xL0 lt_xA0 _ (List.mem_of_getElem? (i := 24) rfl))
  | 3, _ => exact hs _ (lw_chk_ok lt_f lt_xL1 lt_xA1 _ (List.mem_of_getElem? (i := 2) rfl))
  | 4, _ => exact hs _ (lw_chk_ok lt_f lt_xL1 lt_xA1 _ (List.mem_of_getElem? (i := 13) rfl))
  | 5, _ => exact hs _ (lw_chk_ok lt_f lt_xL1 lt_xA1 _ (List.mem_of_getElem? (i := 25) rfl))
  | 6, _ => exact hs _ (lw_chk_ok lt_f lt_xL5 lt_xA5 _ (List.mem_of_getElem? (i := 11) rfl))
  | 7, _ => exact hs _ (lw_chk_ok lt_f lt_xL6 lt_xA6 _ (List.mem_of_getElem? (i := 0) rfl))
  | 8, _ => exact hs _ (lw_chk_ok lt_f lt_xL6 lt_xA6 _ (List.mem_of_getElem? (i := 24) rfl))
  | 9, _ => exact hs _ (lw_chk_ok lt_f lt_xL7 lt_xA7 _ (List.mem_of_getElem? (i := 15) rfl))
  | 10, _ => exact hs _ (lw_chk_ok lt_f lt_xL8 lt_xA8 _ (List.mem_of_getElem? (i := 6) rfl))
  | 11, _ => exact hs _ (lw_chk_ok lt_f lt_xL2 lt_xA2 _ (List.mem_of_getElem? (i := 7) rfl))
  | 12, _ => exact hs _ (lw_chk_ok lt_f lt_xL2 lt_xA2 _ (List.mem_of_getElem? (i := 21) rfl))
  | 13, _ => exact hs _ (lw_chk_ok lt_f lt_xL3 lt_xA3 _ (List.mem_of_getElem? (i := 5) rfl))
  | 14, _ => exact hs _ (lw_chk_ok lt_f lt_xL3 lt_xA3 _ (List.mem_of_getElem? (i := 22) rfl))
  | 15, _ => exact hs _ (lw_chk_ok lt_f lt_xL4 lt_xA4 _ (List.mem_of_getElem? (i := 8) rfl))
  | 16, _ => exact hs _ (lw_chk_ok lt_f lt_xL4 lt_xA4 _ (List.mem_of_getElem? (i := 26) rfl))
  | 17, _ => exact hs _ (lw_chk_ok lt_f lt_xL8 lt_xA8 _ (List.mem_of_getElem? (i := 30) rfl))
  | k + 18, h => exact absurd h (by omega)
theorem lt_el0 {args : Array Value} {s : State} (hs : ∀ c ∈ lt_f, c.before args s = true) : ∀ j : Nat, j < 5 → (Cond.eq (.elem (.field (lt_t 0) "java/lang/String" "value" "[B") (.int (Int32.ofNat j))) (.int ((pm_byt.getD 0 []).getD j 0))).before args s = true := by
  intro j hj
  match j, hj with
  | 0, _ => exact hs _ (lw_chk_ok lt_f lt_xL0 lt_xA0 _ (List.mem_of_getElem? (i := 6) rfl))
  | 1, _ => exact hs _ (lw_chk_ok lt_f lt_xL0 lt_xA0 _ (List.mem_of_getElem? (i := 7) rfl))
  | 2, _ => exact hs _ (lw_chk_ok lt_f lt_xL0 lt_xA0 _ (List.mem_of_getElem? (i := 8) rfl))
  | 3, _ => exact hs _ (lw_chk_ok lt_f lt_xL0 lt_xA0 _ (List.mem_of_getElem? (i := 9) rfl))
  | 4, _ => exact hs _ (lw_chk_ok lt_f lt_xL0 lt_xA0 _ (List.mem_of_getElem? (i := 10) rfl))
  | k + 5, h => exact absurd h (by omega)
theorem lt_el1 {args : Array Value} {s : State} (hs : ∀ c ∈ lt_f, c.before args s = true) : ∀ j : Nat, j < 5 → (Cond.eq (.elem (.field (lt_t 1) "java/lang/String" "value" "[B") (.int (Int32.ofNat j))) (.int ((pm_byt.getD 1 []).getD j 0))).before args s = true := by
  intro j hj
  match j, hj with
  | 0, _ => exact hs _ (lw_chk_ok lt_f lt_xL0 lt_xA0 _ (List.mem_of_getElem? (i := 15) rfl))
  | 1, _ => exact hs _ (lw_chk_ok lt_f lt_xL0 lt_xA0 _ (List.mem_of_getElem? (i := 16) rfl))
  | 2, _ => exact hs _ (lw_chk_ok lt_f lt_xL0 lt_xA0 _ (List.mem_of_getElem? (i := 17) rfl))
  | 3, _ => exact hs _ (lw_chk_ok lt_f lt_xL0 lt_xA0 _ (List.mem_of_getElem? (i := 18) rfl))
  | 4, _ => exact hs _ (lw_chk_ok lt_f lt_xL0 lt_xA0 _ (List.mem_of_getElem? (i := 19) rfl))
  | k + 5, h => exact absurd h (by omega)
theorem lt_el2 {args : Array Value} {s : State} (hs : ∀ c ∈ lt_f, c.before args s = true) : ∀ j : Nat, j < 4 → (Cond.eq (.elem (.field (lt_t 2) "java/lang/String" "value" "[B") (.int (Int32.ofNat j))) (.int ((pm_byt.getD 2 []).getD j 0))).before args s = true := by
  intro j hj
  match j, hj with
  | 0, _ => exact hs _ (lw_chk_ok lt_f lt_xL0 lt_xA0 _ (List.mem_of_getElem? (i := 25) rfl))
  | 1, _ => exact hs _ (lw_chk_ok lt_f lt_xL0 lt_xA0 _ (List.mem_of_getElem? (i := 26) rfl))
  | 2, _ => exact hs _ (lw_chk_ok lt_f lt_xL0 lt_xA0 _ (List.mem_of_getElem? (i := 27) rfl))
  | 3, _ => exact hs _ (lw_chk_ok lt_f lt_xL0 lt_xA0 _ (List.mem_of_getElem? (i := 28) rfl))
  | k + 4, h => exact absurd h (by omega)
theorem lt_el3 {args : Array Value} {s : State} (hs : ∀ c ∈ lt_f, c.before args s = true) : ∀ j : Nat, j < 4 → (Cond.eq (.elem (.field (lt_t 3) "java/lang/String" "value" "[B") (.int (Int32.ofNat j))) (.int ((pm_byt.getD 3 []).getD j 0))).before args s = true := by
  intro j hj
  match j, hj with
  | 0, _ => exact hs _ (lw_chk_ok lt_f lt_xL1 lt_xA1 _ (List.mem_of_getElem? (i := 3) rfl))
  | 1, _ => exact hs _ (lw_chk_ok lt_f lt_xL1 lt_xA1 _ (List.mem_of_getElem? (i := 4) rfl))
  | 2, _ => exact hs _ (lw_chk_ok lt_f lt_xL1 lt_xA1 _ (List.mem_of_getElem? (i := 5) rfl))
  | 3, _ => exact hs _ (lw_chk_ok lt_f lt_xL1 lt_xA1 _ (List.mem_of_getElem? (i := 6) rfl))
  | k + 4, h => exact absurd h (by omega)
theorem lt_el4 {args : Array Value} {s : State} (hs : ∀ c ∈ lt_f, c.before args s = true) : ∀ j : Nat, j < 4 → (Cond.eq (.elem (.field (lt_t 4) "java/lang/String" "value" "[B") (.int (Int32.ofNat j))) (.int ((pm_byt.getD 4 []).getD j 0))).before args s = true := by
  intro j hj
  match j, hj with
  | 0, _ => exact hs _ (lw_chk_ok lt_f lt_xL1 lt_xA1 _ (List.mem_of_getElem? (i := 14) rfl))
  | 1, _ => exact hs _ (lw_chk_ok lt_f lt_xL1 lt_xA1 _ (List.mem_of_getElem? (i := 15) rfl))
  | 2, _ => exact hs _ (lw_chk_ok lt_f lt_xL1 lt_xA1 _ (List.mem_of_getElem? (i := 16) rfl))
  | 3, _ => exact hs _ (lw_chk_ok lt_f lt_xL1 lt_xA1 _ (List.mem_of_getElem? (i := 17) rfl))
  | k + 4, h => exact absurd h (by omega)
theorem lt_el5 {args : Array Value} {s : State} (hs : ∀ c ∈ lt_f, c.before args s = true) : ∀ j : Nat, j < 5 → (Cond.eq (.elem (.field (lt_t 5) "java/lang/String" "value" "[B") (.int (Int32.ofNat j))) (.int ((pm_byt.getD 5 []).getD j 0))).before args s = true := by
  intro j hj
  match j, hj with
  | 0, _ => exact hs _ (lw_chk_ok lt_f lt_xL1 lt_xA1 _ (List.mem_of_getElem? (i := 26) rfl))
  | 1, _ => exact hs _ (lw_chk_ok lt_f lt_xL1 lt_xA1 _ (List.mem_of_getElem? (i := 27) rfl))
  | 2, _ => exact hs _ (lw_chk_ok lt_f lt_xL1 lt_xA1 _ (List.mem_of_getElem? (i := 28) rfl))
  | 3, _ => exact hs _ (lw_chk_ok lt_f lt_xL1 lt_xA1 _ (List.mem_of_getElem? (i := 29) rfl))
  | 4, _ => exact hs _ (lw_chk_ok lt_f lt_xL1 lt_xA1 _ (List.mem_of_getElem? (i := 30) rfl))
  | k + 5, h => exact absurd h (by omega)
theorem lt_el6 {args : Array Value} {s : State} (hs : ∀ c ∈ lt_f, c.before args s = true) : ∀ j : Nat, j < 5 → (Cond.eq (.elem (.field (lt_t 6) "java/lang/String" "value" "[B") (.int (Int32.ofNat j))) (.int ((pm_byt.getD 6 []).getD j 0))).before args s = true := by
  intro j hj
  match j, hj with
  | 0, _ => exact hs _ (lw_chk_ok lt_f lt_xL5 lt_xA5 _ (List.mem_of_getElem? (i := 12) rfl))
  | 1, _ => exact hs _ (lw_chk_ok lt_f lt_xL5 lt_xA5 _ (List.mem_of_getElem? (i := 13) rfl))
  | 2, _ => exact hs _ (lw_chk_ok lt_f lt_xL5 lt_xA5 _ (List.mem_of_getElem? (i := 14) rfl))
  | 3, _ => exact hs _ (lw_chk_ok lt_f lt_xL5 lt_xA5 _ (List.mem_of_getElem? (i := 15) rfl))
  | 4, _ => exact hs _ (lw_chk_ok lt_f lt_xL5 lt_xA5 _ (List.mem_of_getElem? (i := 16) rfl))
  | k + 5, h => exact absurd h (by omega)
theorem lt_el7 {args : Array Value} {s : State} (hs : ∀ c ∈ lt_f, c.before args s = true) : ∀ j : Nat, j < 7 → (Cond.eq (.elem (.field (lt_t 7) "java/lang/String" "value" "[B") (.int (Int32.ofNat j))) (.int ((pm_byt.getD 7 []).getD j 0))).before args s = true := by
  intro j hj
  match j, hj with
  | 0, _ => exact hs _ (lw_chk_ok lt_f lt_xL6 lt_xA6 _ (List.mem_of_getElem? (i := 1) rfl))
  | 1, _ => exact hs _ (lw_chk_ok lt_f lt_xL6 lt_xA6 _ (List.mem_of_getElem? (i := 2) rfl))
  | 2, _ => exact hs _ (lw_chk_ok lt_f lt_xL6 lt_xA6 _ (List.mem_of_getElem? (i := 3) rfl))
  | 3, _ => exact hs _ (lw_chk_ok lt_f lt_xL6 lt_xA6 _ (List.mem_of_getElem? (i := 4) rfl))
  | 4, _ => exact hs _ (lw_chk_ok lt_f lt_xL6 lt_xA6 _ (List.mem_of_getElem? (i := 5) rfl))
  | 5, _ => exact hs _ (lw_chk_ok lt_f lt_xL6 lt_xA6 _ (List.mem_of_getElem? (i := 6) rfl))
  | 6, _ => exact hs _ (lw_chk_ok lt_f lt_xL6 lt_xA6 _ (List.mem_of_getElem? (i := 7) rfl))
  | k + 7, h => exact absurd h (by omega)
theorem lt_el8 {args : Array Value} {s : State} (hs : ∀ c ∈ lt_f, c.before args s = true) : ∀ j : Nat, j < 5 → (Cond.eq (.elem (.field (lt_t 8) "java/lang/String" "value" "[B") (.int (Int32.ofNat j))) (.int ((pm_byt.getD 8 []).getD j 0))).before args s = true := by
  intro j hj
  match j, hj with
  | 0, _ => exact hs _ (lw_chk_ok lt_f lt_xL6 lt_xA6 _ (List.mem_of_getElem? (i := 25) rfl))
  | 1, _ => exact hs _ (lw_chk_ok lt_f lt_xL6 lt_xA6 _ (List.mem_of_getElem? (i := 26) rfl))
  | 2, _ => exact hs _ (lw_chk_ok lt_f lt_xL6 lt_xA6 _ (List.mem_of_getElem? (i := 27) rfl))
  | 3, _ => exact hs _ (lw_chk_ok lt_f lt_xL6 lt_xA6 _ (List.mem_of_getElem? (i := 28) rfl))
  | 4, _ => exact hs _ (lw_chk_ok lt_f lt_xL6 lt_xA6 _ (List.mem_of_getElem? (i := 29) rfl))
  | k + 5, h => exact absurd h (by omega)
theorem lt_el9 {args : Array Value} {s : State} (hs : ∀ c ∈ lt_f, c.before args s = true) : ∀ j : Nat, j < 4 → (Cond.eq (.elem (.field (lt_t 9) "java/lang/String" "value" "[B") (.int (Int32.ofNat j))) (.int ((pm_byt.getD 9 []).getD j 0))).before args s = true := by
  intro j hj
  match j, hj with
  | 0, _ => exact hs _ (lw_chk_ok lt_f lt_xL7 lt_xA7 _ (List.mem_of_getElem? (i := 16) rfl))
  | 1, _ => exact hs _ (lw_chk_ok lt_f lt_xL7 lt_xA7 _ (List.mem_of_getElem? (i := 17) rfl))
  | 2, _ => exact hs _ (lw_chk_ok lt_f lt_xL7 lt_xA7 _ (List.mem_of_getElem? (i := 18) rfl))
  | 3, _ => exact hs _ (lw_chk_ok lt_f lt_xL7 lt_xA7 _ (List.mem_of_getElem? (i := 19) rfl))
  | k + 4, h => exact absurd h (by omega)
theorem lt_el10 {args : Array Value} {s : State} (hs : ∀ c ∈ lt_f, c.before args s = true) : ∀ j : Nat, j < 4 → (Cond.eq (.elem (.field (lt_t 10) "java/lang/String" "value" "[B") (.int (Int32.ofNat j))) (.int ((pm_byt.getD 10 []).getD j 0))).before args s = true := by
  intro j hj
  match j, hj with
  | 0, _ => exact hs _ (lw_chk_ok lt_f lt_xL8 lt_xA8 _ (List.mem_of_getElem? (i := 7) rfl))
  | 1, _ => exact hs _ (lw_chk_ok lt_f lt_xL8 lt_xA8 _ (List.mem_of_getElem? (i := 8) rfl))
  | 2, _ => exact hs _ (lw_chk_ok lt_f lt_xL8 lt_xA8 _ (List.mem_of_getElem? (i := 9) rfl))
  | 3, _ => exact hs _ (lw_chk_ok lt_f lt_xL8 lt_xA8 _ (List.mem_of_getElem? (i := 10) rfl))
  | k + 4, h => exact absurd h (by omega)
theorem lt_el11 {args : Array Value} {s : State} (hs : ∀ c ∈ lt_f, c.before args s = true) : ∀ j : Nat, j < 4 → (Cond.eq (.elem (.field (lt_t 11) "java/lang/String" "value" "[B") (.int (Int32.ofNat j))) (.int ((pm_byt.getD 11 []).getD j 0))).before args s = true := by
  intro j hj
  match j, hj with
  | 0, _ => exact hs _ (lw_chk_ok lt_f lt_xL2 lt_xA2 _ (List.mem_of_getElem? (i := 8) rfl))
  | 1, _ => exact hs _ (lw_chk_ok lt_f lt_xL2 lt_xA2 _ (List.mem_of_getElem? (i := 9) rfl))
  | 2, _ => exact hs _ (lw_chk_ok lt_f lt_xL2 lt_xA2 _ (List.mem_of_getElem? (i := 10) rfl))
  | 3, _ => exact hs _ (lw_chk_ok lt_f lt_xL2 lt_xA2 _ (List.mem_of_getElem? (i := 11) rfl))
  | k + 4, h => exact absurd h (by omega)
theorem lt_el12 {args : Array Value} {s : State} (hs : ∀ c ∈ lt_f, c.before args s = true) : ∀ j : Nat, j < 5 → (Cond.eq (.elem (.field (lt_t 12) "java/lang/String" "value" "[B") (.int (Int32.ofNat j))) (.int ((pm_byt.getD 12 []).getD j 0))).before args s = true := by
  intro j hj
  match j, hj with
  | 0, _ => exact hs _ (lw_chk_ok lt_f lt_xL2 lt_xA2 _ (List.mem_of_getElem? (i := 22) rfl))
  | 1, _ => exact hs _ (lw_chk_ok lt_f lt_xL2 lt_xA2 _ (List.mem_of_getElem? (i := 23) rfl))
  | 2, _ => exact hs _ (lw_chk_ok lt_f lt_xL2 lt_xA2 _ (List.mem_of_getElem? (i := 24) rfl))
  | 3, _ => exact hs _ (lw_chk_ok lt_f lt_xL2 lt_xA2 _ (List.mem_of_getElem? (i := 25) rfl))
  | 4, _ => exact hs _ (lw_chk_ok lt_f lt_xL2 lt_xA2 _ (List.mem_of_getElem? (i := 26) rfl))
  | k + 5, h => exact absurd h (by omega)
theorem lt_el13 {args : Array Value} {s : State} (hs : ∀ c ∈ lt_f, c.before args s = true) : ∀ j : Nat, j < 5 → (Cond.eq (.elem (.field (lt_t 13) "java/lang/String" "value" "[B") (.int (Int32.ofNat j))) (.int ((pm_byt.getD 13 []).getD j 0))).before args s = true := by
  intro j hj
  match j, hj with
  | 0, _ => exact hs _ (lw_chk_ok lt_f lt_xL3 lt_xA3 _ (List.mem_of_getElem? (i := 6) rfl))
  | 1, _ => exact hs _ (lw_chk_ok lt_f lt_xL3 lt_xA3 _ (List.mem_of_getElem? (i := 7) rfl))
  | 2, _ => exact hs _ (lw_chk_ok lt_f lt_xL3 lt_xA3 _ (List.mem_of_getElem? (i := 8) rfl))
  | 3, _ => exact hs _ (lw_chk_ok lt_f lt_xL3 lt_xA3 _ (List.mem_of_getElem? (i := 9) rfl))
  | 4, _ => exact hs _ (lw_chk_ok lt_f lt_xL3 lt_xA3 _ (List.mem_of_getElem? (i := 10) rfl))
  | k + 5, h => exact absurd h (by omega)
theorem lt_el14 {args : Array Value} {s : State} (hs : ∀ c ∈ lt_f, c.before args s = true) : ∀ j : Nat, j < 5 → (Cond.eq (.elem (.field (lt_t 14) "java/lang/String" "value" "[B") (.int (Int32.ofNat j))) (.int ((pm_byt.getD 14 []).getD j 0))).before args s = true := by
  intro j hj
  match j, hj with
  | 0, _ => exact hs _ (lw_chk_ok lt_f lt_xL3 lt_xA3 _ (List.mem_of_getElem? (i := 23) rfl))
  | 1, _ => exact hs _ (lw_chk_ok lt_f lt_xL3 lt_xA3 _ (List.mem_of_getElem? (i := 24) rfl))
  | 2, _ => exact hs _ (lw_chk_ok lt_f lt_xL3 lt_xA3 _ (List.mem_of_getElem? (i := 25) rfl))
  | 3, _ => exact hs _ (lw_chk_ok lt_f lt_xL3 lt_xA3 _ (List.mem_of_getElem? (i := 26) rfl))
  | 4, _ => exact hs _ (lw_chk_ok lt_f lt_xL3 lt_xA3 _ (List.mem_of_getElem? (i := 27) rfl))
  | k + 5, h => exact absurd h (by omega)
theorem lt_el15 {args : Array Value} {s : State} (hs : ∀ c ∈ lt_f, c.before args s = true) : ∀ j : Nat, j < 4 → (Cond.eq (.elem (.field (lt_t 15) "java/lang/String" "value" "[B") (.int (Int32.ofNat j))) (.int ((pm_byt.getD 15 []).getD j 0))).before args s = true := by
  intro j hj
  match j, hj with
  | 0, _ => exact hs _ (lw_chk_ok lt_f lt_xL4 lt_xA4 _ (List.mem_of_getElem? (i := 9) rfl))
  | 1, _ => exact hs _ (lw_chk_ok lt_f lt_xL4 lt_xA4 _ (List.mem_of_getElem? (i := 10) rfl))
  | 2, _ => exact hs _ (lw_chk_ok lt_f lt_xL4 lt_xA4 _ (List.mem_of_getElem? (i := 11) rfl))
  | 3, _ => exact hs _ (lw_chk_ok lt_f lt_xL4 lt_xA4 _ (List.mem_of_getElem? (i := 12) rfl))
  | k + 4, h => exact absurd h (by omega)
theorem lt_el16 {args : Array Value} {s : State} (hs : ∀ c ∈ lt_f, c.before args s = true) : ∀ j : Nat, j < 2 → (Cond.eq (.elem (.field (lt_t 16) "java/lang/String" "value" "[B") (.int (Int32.ofNat j))) (.int ((pm_byt.getD 16 []).getD j 0))).before args s = true := by
  intro j hj
  match j, hj with
  | 0, _ => exact hs _ (lw_chk_ok lt_f lt_xL4 lt_xA4 _ (List.mem_of_getElem? (i := 27) rfl))
  | 1, _ => exact hs _ (lw_chk_ok lt_f lt_xL4 lt_xA4 _ (List.mem_of_getElem? (i := 28) rfl))
  | k + 2, h => exact absurd h (by omega)
theorem lt_el17 {args : Array Value} {s : State} (hs : ∀ c ∈ lt_f, c.before args s = true) : ∀ j : Nat, j < 3 → (Cond.eq (.elem (.field (lt_t 17) "java/lang/String" "value" "[B") (.int (Int32.ofNat j))) (.int ((pm_byt.getD 17 []).getD j 0))).before args s = true := by
  intro j hj
  match j, hj with
  | 0, _ => exact hs _ (lw_chk_ok lt_f lt_xL8 lt_xA8 _ (List.mem_of_getElem? (i := 31) rfl))
  | 1, _ => exact hs _ (lw_chk_ok lt_f lt_xL9 lt_xA9 _ (List.mem_of_getElem? (i := 0) rfl))
  | 2, _ => exact hs _ (lw_chk_ok lt_f lt_xL9 lt_xA9 _ (List.mem_of_getElem? (i := 1) rfl))
  | k + 3, h => exact absurd h (by omega)
theorem lt_el {args : Array Value} {s : State} (hs : ∀ c ∈ lt_f, c.before args s = true) : ∀ i : Nat, i < 18 → ∀ j : Nat, j < pm_len.getD i 0 → (Cond.eq (.elem (.field (lt_t i) "java/lang/String" "value" "[B") (.int (Int32.ofNat j))) (.int ((pm_byt.getD i []).getD j 0))).before args s = true := by
  intro i hi
  match i, hi with
  | 0, _ => exact fun j hj => lt_el0 hs j hj
  | 1, _ => exact fun j hj => lt_el1 hs j hj
  | 2, _ => exact fun j hj => lt_el2 hs j hj
  | 3, _ => exact fun j hj => lt_el3 hs j hj
  | 4, _ => exact fun j hj => lt_el4 hs j hj
  | 5, _ => exact fun j hj => lt_el5 hs j hj
  | 6, _ => exact fun j hj => lt_el6 hs j hj
  | 7, _ => exact fun j hj => lt_el7 hs j hj
  | 8, _ => exact fun j hj => lt_el8 hs j hj
  | 9, _ => exact fun j hj => lt_el9 hs j hj
  | 10, _ => exact fun j hj => lt_el10 hs j hj
  | 11, _ => exact fun j hj => lt_el11 hs j hj
  | 12, _ => exact fun j hj => lt_el12 hs j hj
  | 13, _ => exact fun j hj => lt_el13 hs j hj
  | 14, _ => exact fun j hj => lt_el14 hs j hj
  | 15, _ => exact fun j hj => lt_el15 hs j hj
  | 16, _ => exact fun j hj => lt_el16 hs j hj
  | 17, _ => exact fun j hj => lt_el17 hs j hj
  | k + 18, h => exact absurd h (by omega)
theorem lt_ne0 {args : Array Value} {s : State} (hs : ∀ c ∈ lt_f, c.before args s = true) : ∀ j : Nat, 0 < j → j < 18 → (Cond.not (Cond.eq (lt_t 0) (lt_t j))).before args s = true ∨ (Cond.not (Cond.eq (lt_t j) (lt_t 0))).before args s = true := by
  intro j hj hk
  obtain ⟨k, rfl⟩ : ∃ k, j = k + 1 := ⟨j - 1, by omega⟩
  match k, hk with
  | 0, _ => exact Or.inl (hs _ (lw_chk_ok lt_f lt_xL0 lt_xA0 _ (List.mem_of_getElem? (i := 20) rfl)))
  | 1, _ => exact Or.inl (hs _ (lw_chk_ok lt_f lt_xL0 lt_xA0 _ (List.mem_of_getElem? (i := 29) rfl)))
  | 2, _ => exact Or.inl (hs _ (lw_chk_ok lt_f lt_xL1 lt_xA1 _ (List.mem_of_getElem? (i := 7) rfl)))
  | 3, _ => exact Or.inl (hs _ (lw_chk_ok lt_f lt_xL1 lt_xA1 _ (List.mem_of_getElem? (i := 18) rfl)))
  | 4, _ => exact Or.inl (hs _ (lw_chk_ok lt_f lt_xL1 lt_xA1 _ (List.mem_of_getElem? (i := 31) rfl)))
  | 5, _ => exact Or.inl (hs _ (lw_chk_ok lt_f lt_xL5 lt_xA5 _ (List.mem_of_getElem? (i := 17) rfl)))
  | 6, _ => exact Or.inl (hs _ (lw_chk_ok lt_f lt_xL6 lt_xA6 _ (List.mem_of_getElem? (i := 8) rfl)))
  | 7, _ => exact Or.inl (hs _ (lw_chk_ok lt_f lt_xL6 lt_xA6 _ (List.mem_of_getElem? (i := 30) rfl)))
  | 8, _ => exact Or.inl (hs _ (lw_chk_ok lt_f lt_xL7 lt_xA7 _ (List.mem_of_getElem? (i := 20) rfl)))
  | 9, _ => exact Or.inl (hs _ (lw_chk_ok lt_f lt_xL8 lt_xA8 _ (List.mem_of_getElem? (i := 11) rfl)))
  | 10, _ => exact Or.inl (hs _ (lw_chk_ok lt_f lt_xL2 lt_xA2 _ (List.mem_of_getElem? (i := 12) rfl)))
  | 11, _ => exact Or.inl (hs _ (lw_chk_ok lt_f lt_xL2 lt_xA2 _ (List.mem_of_getElem? (i := 27) rfl)))
  | 12, _ => exact Or.inl (hs _ (lw_chk_ok lt_f lt_xL3 lt_xA3 _ (List.mem_of_getElem? (i := 11) rfl)))
  | 13, _ => exact Or.inl (hs _ (lw_chk_ok lt_f lt_xL3 lt_xA3 _ (List.mem_of_getElem? (i := 28) rfl)))
  | 14, _ => exact Or.inl (hs _ (lw_chk_ok lt_f lt_xL4 lt_xA4 _ (List.mem_of_getElem? (i := 13) rfl)))
  | 15, _ => exact Or.inl (hs _ (lw_chk_ok lt_f lt_xL4 lt_xA4 _ (List.mem_of_getElem? (i := 29) rfl)))
  | 16, _ => exact Or.inl (hs _ (lw_chk_ok lt_f lt_xL9 lt_xA9 _ (List.mem_of_getElem? (i := 2) rfl)))
  | k + 17, h => exact absurd h (by omega)
theorem lt_ne1 {args : Array Value} {s : State} (hs : ∀ c ∈ lt_f, c.before args s = true) : ∀ j : Nat, 1 < j → j < 18 → (Cond.not (Cond.eq (lt_t 1) (lt_t j))).before args s = true ∨ (Cond.not (Cond.eq (lt_t j) (lt_t 1))).before args s = true := by
  intro j hj hk
  obtain ⟨k, rfl⟩ : ∃ k, j = k + 2 := ⟨j - 2, by omega⟩
  match k, hk with
  | 0, _ => exact Or.inl (hs _ (lw_chk_ok lt_f lt_xL0 lt_xA0 _ (List.mem_of_getElem? (i := 30) rfl)))
  | 1, _ => exact Or.inl (hs _ (lw_chk_ok lt_f lt_xL1 lt_xA1 _ (List.mem_of_getElem? (i := 8) rfl)))
  | 2, _ => exact Or.inl (hs _ (lw_chk_ok lt_f lt_xL1 lt_xA1 _ (List.mem_of_getElem? (i := 19) rfl)))
  | 3, _ => exact Or.inl (hs _ (lw_chk_ok lt_f lt_xL2 lt_xA2 _ (List.mem_of_getElem? (i := 0) rfl)))
  | 4, _ => exact Or.inl (hs _ (lw_chk_ok lt_f lt_xL5 lt_xA5 _ (List.mem_of_getElem? (i := 18) rfl)))
  | 5, _ => exact Or.inl (hs _ (lw_chk_ok lt_f lt_xL6 lt_xA6 _ (List.mem_of_getElem? (i := 9) rfl)))
  | 6, _ => exact Or.inl (hs _ (lw_chk_ok lt_f lt_xL6 lt_xA6 _ (List.mem_of_getElem? (i := 31) rfl)))
  | 7, _ => exact Or.inl (hs _ (lw_chk_ok lt_f lt_xL7 lt_xA7 _ (List.mem_of_getElem? (i := 21) rfl)))
  | 8, _ => exact Or.inl (hs _ (lw_chk_ok lt_f lt_xL8 lt_xA8 _ (List.mem_of_getElem? (i := 12) rfl)))
  | 9, _ => exact Or.inl (hs _ (lw_chk_ok lt_f lt_xL2 lt_xA2 _ (List.mem_of_getElem? (i := 13) rfl)))
  | 10, _ => exact Or.inl (hs _ (lw_chk_ok lt_f lt_xL2 lt_xA2 _ (List.mem_of_getElem? (i := 28) rfl)))
  | 11, _ => exact Or.inl (hs _ (lw_chk_ok lt_f lt_xL3 lt_xA3 _ (List.mem_of_getElem? (i := 12) rfl)))
  | 12, _ => exact Or.inl (hs _ (lw_chk_ok lt_f lt_xL3 lt_xA3 _ (List.mem_of_getElem? (i := 29) rfl)))
  | 13, _ => exact Or.inl (hs _ (lw_chk_ok lt_f lt_xL4 lt_xA4 _ (List.mem_of_getElem? (i := 14) rfl)))
  | 14, _ => exact Or.inl (hs _ (lw_chk_ok lt_f lt_xL4 lt_xA4 _ (List.mem_of_getElem? (i := 30) rfl)))
  | 15, _ => exact Or.inl (hs _ (lw_chk_ok lt_f lt_xL9 lt_xA9 _ (List.mem_of_getElem? (i := 3) rfl)))
  | k + 16, h => exact absurd h (by omega)
theorem lt_ne2 {args : Array Value} {s : State} (hs : ∀ c ∈ lt_f, c.before args s = true) : ∀ j : Nat, 2 < j → j < 18 → (Cond.not (Cond.eq (lt_t 2) (lt_t j))).before args s = true ∨ (Cond.not (Cond.eq (lt_t j) (lt_t 2))).before args s = true := by
  intro j hj hk
  obtain ⟨k, rfl⟩ : ∃ k, j = k + 3 := ⟨j - 3, by omega⟩
  match k, hk with
  | 0, _ => exact Or.inl (hs _ (lw_chk_ok lt_f lt_xL1 lt_xA1 _ (List.mem_of_getElem? (i := 9) rfl)))
  | 1, _ => exact Or.inl (hs _ (lw_chk_ok lt_f lt_xL1 lt_xA1 _ (List.mem_of_getElem? (i := 20) rfl)))
  | 2, _ => exact Or.inl (hs _ (lw_chk_ok lt_f lt_xL2 lt_xA2 _ (List.mem_of_getElem? (i := 1) rfl)))
  | 3, _ => exact Or.inl (hs _ (lw_chk_ok lt_f lt_xL5 lt_xA5 _ (List.mem_of_getElem? (i := 19) rfl)))
  | 4, _ => exact Or.inl (hs _ (lw_chk_ok lt_f lt_xL6 lt_xA6 _ (List.mem_of_getElem? (i := 10) rfl)))
  | 5, _ => exact Or.inl (hs _ (lw_chk_ok lt_f lt_xL7 lt_xA7 _ (List.mem_of_getElem? (i := 0) rfl)))
  | 6, _ => exact Or.inl (hs _ (lw_chk_ok lt_f lt_xL7 lt_xA7 _ (List.mem_of_getElem? (i := 22) rfl)))
  | 7, _ => exact Or.inl (hs _ (lw_chk_ok lt_f lt_xL8 lt_xA8 _ (List.mem_of_getElem? (i := 13) rfl)))
  | 8, _ => exact Or.inl (hs _ (lw_chk_ok lt_f lt_xL2 lt_xA2 _ (List.mem_of_getElem? (i := 14) rfl)))
  | 9, _ => exact Or.inl (hs _ (lw_chk_ok lt_f lt_xL2 lt_xA2 _ (List.mem_of_getElem? (i := 29) rfl)))
  | 10, _ => exact Or.inl (hs _ (lw_chk_ok lt_f lt_xL3 lt_xA3 _ (List.mem_of_getElem? (i := 13) rfl)))
  | 11, _ => exact Or.inl (hs _ (lw_chk_ok lt_f lt_xL3 lt_xA3 _ (List.mem_of_getElem? (i := 30) rfl)))
  | 12, _ => exact Or.inl (hs _ (lw_chk_ok lt_f lt_xL4 lt_xA4 _ (List.mem_of_getElem? (i := 15) rfl)))
  | 13, _ => exact Or.inl (hs _ (lw_chk_ok lt_f lt_xL4 lt_xA4 _ (List.mem_of_getElem? (i := 31) rfl)))
  | 14, _ => exact Or.inl (hs _ (lw_chk_ok lt_f lt_xL9 lt_xA9 _ (List.mem_of_getElem? (i := 4) rfl)))
  | k + 15, h => exact absurd h (by omega)
theorem lt_ne3 {args : Array Value} {s : State} (hs : ∀ c ∈ lt_f, c.before args s = true) : ∀ j : Nat, 3 < j → j < 18 → (Cond.not (Cond.eq (lt_t 3) (lt_t j))).before args s = true ∨ (Cond.not (Cond.eq (lt_t j) (lt_t 3))).before args s = true := by
  intro j hj hk
  obtain ⟨k, rfl⟩ : ∃ k, j = k + 4 := ⟨j - 4, by omega⟩
  match k, hk with
  | 0, _ => exact Or.inl (hs _ (lw_chk_ok lt_f lt_xL1 lt_xA1 _ (List.mem_of_getElem? (i := 21) rfl)))
  | 1, _ => exact Or.inl (hs _ (lw_chk_ok lt_f lt_xL2 lt_xA2 _ (List.mem_of_getElem? (i := 2) rfl)))
  | 2, _ => exact Or.inl (hs _ (lw_chk_ok lt_f lt_xL5 lt_xA5 _ (List.mem_of_getElem? (i := 20) rfl)))
  | 3, _ => exact Or.inl (hs _ (lw_chk_ok lt_f lt_xL6 lt_xA6 _ (List.mem_of_getElem? (i := 11) rfl)))
  | 4, _ => exact Or.inl (hs _ (lw_chk_ok lt_f lt_xL7 lt_xA7 _ (List.mem_of_getElem? (i := 1) rfl)))
  | 5, _ => exact Or.inl (hs _ (lw_chk_ok lt_f lt_xL7 lt_xA7 _ (List.mem_of_getElem? (i := 23) rfl)))
  | 6, _ => exact Or.inl (hs _ (lw_chk_ok lt_f lt_xL8 lt_xA8 _ (List.mem_of_getElem? (i := 14) rfl)))
  | 7, _ => exact Or.inl (hs _ (lw_chk_ok lt_f lt_xL2 lt_xA2 _ (List.mem_of_getElem? (i := 15) rfl)))
  | 8, _ => exact Or.inl (hs _ (lw_chk_ok lt_f lt_xL2 lt_xA2 _ (List.mem_of_getElem? (i := 30) rfl)))
  | 9, _ => exact Or.inl (hs _ (lw_chk_ok lt_f lt_xL3 lt_xA3 _ (List.mem_of_getElem? (i := 14) rfl)))
  | 10, _ => exact Or.inl (hs _ (lw_chk_ok lt_f lt_xL3 lt_xA3 _ (List.mem_of_getElem? (i := 31) rfl)))
  | 11, _ => exact Or.inl (hs _ (lw_chk_ok lt_f lt_xL4 lt_xA4 _ (List.mem_of_getElem? (i := 16) rfl)))
  | 12, _ => exact Or.inl (hs _ (lw_chk_ok lt_f lt_xL5 lt_xA5 _ (List.mem_of_getElem? (i := 0) rfl)))
  | 13, _ => exact Or.inl (hs _ (lw_chk_ok lt_f lt_xL9 lt_xA9 _ (List.mem_of_getElem? (i := 5) rfl)))
  | k + 14, h => exact absurd h (by omega)
theorem lt_ne4 {args : Array Value} {s : State} (hs : ∀ c ∈ lt_f, c.before args s = true) : ∀ j : Nat, 4 < j → j < 18 → (Cond.not (Cond.eq (lt_t 4) (lt_t j))).before args s = true ∨ (Cond.not (Cond.eq (lt_t j) (lt_t 4))).before args s = true := by
  intro j hj hk
  obtain ⟨k, rfl⟩ : ∃ k, j = k + 5 := ⟨j - 5, by omega⟩
  match k, hk with
  | 0, _ => exact Or.inl (hs _ (lw_chk_ok lt_f lt_xL2 lt_xA2 _ (List.mem_of_getElem? (i := 3) rfl)))
  | 1, _ => exact Or.inl (hs _ (lw_chk_ok lt_f lt_xL5 lt_xA5 _ (List.mem_of_getElem? (i := 21) rfl)))
  | 2, _ => exact Or.inl (hs _ (lw_chk_ok lt_f lt_xL6 lt_xA6 _ (List.mem_of_getElem? (i := 12) rfl)))
  | 3, _ => exact Or.inl (hs _ (lw_chk_ok lt_f lt_xL7 lt_xA7 _ (List.mem_of_getElem? (i := 2) rfl)))
  | 4, _ => exact Or.inl (hs _ (lw_chk_ok lt_f lt_xL7 lt_xA7 _ (List.mem_of_getElem? (i := 24) rfl)))
  | 5, _ => exact Or.inl (hs _ (lw_chk_ok lt_f lt_xL8 lt_xA8 _ (List.mem_of_getElem? (i := 15) rfl)))
  | 6, _ => exact Or.inl (hs _ (lw_chk_ok lt_f lt_xL2 lt_xA2 _ (List.mem_of_getElem? (i := 16) rfl)))
  | 7, _ => exact Or.inl (hs _ (lw_chk_ok lt_f lt_xL2 lt_xA2 _ (List.mem_of_getElem? (i := 31) rfl)))
  | 8, _ => exact Or.inl (hs _ (lw_chk_ok lt_f lt_xL3 lt_xA3 _ (List.mem_of_getElem? (i := 15) rfl)))
  | 9, _ => exact Or.inl (hs _ (lw_chk_ok lt_f lt_xL4 lt_xA4 _ (List.mem_of_getElem? (i := 0) rfl)))
  | 10, _ => exact Or.inl (hs _ (lw_chk_ok lt_f lt_xL4 lt_xA4 _ (List.mem_of_getElem? (i := 17) rfl)))
  | 11, _ => exact Or.inl (hs _ (lw_chk_ok lt_f lt_xL5 lt_xA5 _ (List.mem_of_getElem? (i := 1) rfl)))
  | 12, _ => exact Or.inl (hs _ (lw_chk_ok lt_f lt_xL9 lt_xA9 _ (List.mem_of_getElem? (i := 6) rfl)))
  | k + 13, h => exact absurd h (by omega)
theorem lt_ne5 {args : Array Value} {s : State} (hs : ∀ c ∈ lt_f, c.before args s = true) : ∀ j : Nat, 5 < j → j < 18 → (Cond.not (Cond.eq (lt_t 5) (lt_t j))).before args s = true ∨ (Cond.not (Cond.eq (lt_t j) (lt_t 5))).before args s = true := by
  intro j hj hk
  obtain ⟨k, rfl⟩ : ∃ k, j = k + 6 := ⟨j - 6, by omega⟩
  match k, hk with
  | 0, _ => exact Or.inl (hs _ (lw_chk_ok lt_f lt_xL5 lt_xA5 _ (List.mem_of_getElem? (i := 22) rfl)))
  | 1, _ => exact Or.inl (hs _ (lw_chk_ok lt_f lt_xL6 lt_xA6 _ (List.mem_of_getElem? (i := 13) rfl)))
  | 2, _ => exact Or.inl (hs _ (lw_chk_ok lt_f lt_xL7 lt_xA7 _ (List.mem_of_getElem? (i := 3) rfl)))
  | 3, _ => exact Or.inl (hs _ (lw_chk_ok lt_f lt_xL7 lt_xA7 _ (List.mem_of_getElem? (i := 25) rfl)))
  | 4, _ => exact Or.inl (hs _ (lw_chk_ok lt_f lt_xL8 lt_xA8 _ (List.mem_of_getElem? (i := 16) rfl)))
  | 5, _ => exact Or.inl (hs _ (lw_chk_ok lt_f lt_xL2 lt_xA2 _ (List.mem_of_getElem? (i := 17) rfl)))
  | 6, _ => exact Or.inl (hs _ (lw_chk_ok lt_f lt_xL3 lt_xA3 _ (List.mem_of_getElem? (i := 0) rfl)))
  | 7, _ => exact Or.inl (hs _ (lw_chk_ok lt_f lt_xL3 lt_xA3 _ (List.mem_of_getElem? (i := 16) rfl)))
  | 8, _ => exact Or.inl (hs _ (lw_chk_ok lt_f lt_xL4 lt_xA4 _ (List.mem_of_getElem? (i := 1) rfl)))
  | 9, _ => exact Or.inl (hs _ (lw_chk_ok lt_f lt_xL4 lt_xA4 _ (List.mem_of_getElem? (i := 18) rfl)))
  | 10, _ => exact Or.inl (hs _ (lw_chk_ok lt_f lt_xL5 lt_xA5 _ (List.mem_of_getElem? (i := 2) rfl)))
  | 11, _ => exact Or.inl (hs _ (lw_chk_ok lt_f lt_xL9 lt_xA9 _ (List.mem_of_getElem? (i := 7) rfl)))
  | k + 12, h => exact absurd h (by omega)
theorem lt_ne6 {args : Array Value} {s : State} (hs : ∀ c ∈ lt_f, c.before args s = true) : ∀ j : Nat, 6 < j → j < 18 → (Cond.not (Cond.eq (lt_t 6) (lt_t j))).before args s = true ∨ (Cond.not (Cond.eq (lt_t j) (lt_t 6))).before args s = true := by
  intro j hj hk
  obtain ⟨k, rfl⟩ : ∃ k, j = k + 7 := ⟨j - 7, by omega⟩
  match k, hk with
  | 0, _ => exact Or.inl (hs _ (lw_chk_ok lt_f lt_xL6 lt_xA6 _ (List.mem_of_getElem? (i := 20) rfl)))
  | 1, _ => exact Or.inl (hs _ (lw_chk_ok lt_f lt_xL7 lt_xA7 _ (List.mem_of_getElem? (i := 10) rfl)))
  | 2, _ => exact Or.inl (hs _ (lw_chk_ok lt_f lt_xL8 lt_xA8 _ (List.mem_of_getElem? (i := 0) rfl)))
  | 3, _ => exact Or.inl (hs _ (lw_chk_ok lt_f lt_xL8 lt_xA8 _ (List.mem_of_getElem? (i := 23) rfl)))
  | 4, _ => exact Or.inr (hs _ (lw_chk_ok lt_f lt_xL5 lt_xA5 _ (List.mem_of_getElem? (i := 23) rfl)))
  | 5, _ => exact Or.inr (hs _ (lw_chk_ok lt_f lt_xL5 lt_xA5 _ (List.mem_of_getElem? (i := 24) rfl)))
  | 6, _ => exact Or.inr (hs _ (lw_chk_ok lt_f lt_xL5 lt_xA5 _ (List.mem_of_getElem? (i := 25) rfl)))
  | 7, _ => exact Or.inr (hs _ (lw_chk_ok lt_f lt_xL5 lt_xA5 _ (List.mem_of_getElem? (i := 26) rfl)))
  | 8, _ => exact Or.inr (hs _ (lw_chk_ok lt_f lt_xL5 lt_xA5 _ (List.mem_of_getElem? (i := 27) rfl)))
  | 9, _ => exact Or.inr (hs _ (lw_chk_ok lt_f lt_xL5 lt_xA5 _ (List.mem_of_getElem? (i := 28) rfl)))
  | 10, _ => exact Or.inl (hs _ (lw_chk_ok lt_f lt_xL9 lt_xA9 _ (List.mem_of_getElem? (i := 14) rfl)))
  | k + 11, h => exact absurd h (by omega)
theorem lt_ne7 {args : Array Value} {s : State} (hs : ∀ c ∈ lt_f, c.before args s = true) : ∀ j : Nat, 7 < j → j < 18 → (Cond.not (Cond.eq (lt_t 7) (lt_t j))).before args s = true ∨ (Cond.not (Cond.eq (lt_t j) (lt_t 7))).before args s = true := by
  intro j hj hk
  obtain ⟨k, rfl⟩ : ∃ k, j = k + 8 := ⟨j - 8, by omega⟩
  match k, hk with
  | 0, _ => exact Or.inl (hs _ (lw_chk_ok lt_f lt_xL7 lt_xA7 _ (List.mem_of_getElem? (i := 11) rfl)))
  | 1, _ => exact Or.inl (hs _ (lw_chk_ok lt_f lt_xL8 lt_xA8 _ (List.mem_of_getElem? (i := 1) rfl)))
  | 2, _ => exact Or.inl (hs _ (lw_chk_ok lt_f lt_xL8 lt_xA8 _ (List.mem_of_getElem? (i := 24) rfl)))
  | 3, _ => exact Or.inr (hs _ (lw_chk_ok lt_f lt_xL6 lt_xA6 _ (List.mem_of_getElem? (i := 14) rfl)))
  | 4, _ => exact Or.inr (hs _ (lw_chk_ok lt_f lt_xL6 lt_xA6 _ (List.mem_of_getElem? (i := 15) rfl)))
  | 5, _ => exact Or.inr (hs _ (lw_chk_ok lt_f lt_xL6 lt_xA6 _ (List.mem_of_getElem? (i := 16) rfl)))
  | 6, _ => exact Or.inr (hs _ (lw_chk_ok lt_f lt_xL6 lt_xA6 _ (List.mem_of_getElem? (i := 17) rfl)))
  | 7, _ => exact Or.inr (hs _ (lw_chk_ok lt_f lt_xL6 lt_xA6 _ (List.mem_of_getElem? (i := 18) rfl)))
  | 8, _ => exact Or.inr (hs _ (lw_chk_ok lt_f lt_xL6 lt_xA6 _ (List.mem_of_getElem? (i := 19) rfl)))
  | 9, _ => exact Or.inl (hs _ (lw_chk_ok lt_f lt_xL9 lt_xA9 _ (List.mem_of_getElem? (i := 15) rfl)))
  | k + 10, h => exact absurd h (by omega)
theorem lt_ne8 {args : Array Value} {s : State} (hs : ∀ c ∈ lt_f, c.before args s = true) : ∀ j : Nat, 8 < j → j < 18 → (Cond.not (Cond.eq (lt_t 8) (lt_t j))).before args s = true ∨ (Cond.not (Cond.eq (lt_t j) (lt_t 8))).before args s = true := by
  intro j hj hk
  obtain ⟨k, rfl⟩ : ∃ k, j = k + 9 := ⟨j - 9, by omega⟩
  match k, hk with
  | 0, _ => exact Or.inl (hs _ (lw_chk_ok lt_f lt_xL8 lt_xA8 _ (List.mem_of_getElem? (i := 2) rfl)))
  | 1, _ => exact Or.inl (hs _ (lw_chk_ok lt_f lt_xL8 lt_xA8 _ (List.mem_of_getElem? (i := 25) rfl)))
  | 2, _ => exact Or.inr (hs _ (lw_chk_ok lt_f lt_xL7 lt_xA7 _ (List.mem_of_getElem? (i := 4) rfl)))
  | 3, _ => exact Or.inr (hs _ (lw_chk_ok lt_f lt_xL7 lt_xA7 _ (List.mem_of_getElem? (i := 5) rfl)))
  | 4, _ => exact Or.inr (hs _ (lw_chk_ok lt_f lt_xL7 lt_xA7 _ (List.mem_of_getElem? (i := 6) rfl)))
  | 5, _ => exact Or.inr (hs _ (lw_chk_ok lt_f lt_xL7 lt_xA7 _ (List.mem_of_getElem? (i := 7) rfl)))
  | 6, _ => exact Or.inr (hs _ (lw_chk_ok lt_f lt_xL7 lt_xA7 _ (List.mem_of_getElem? (i := 8) rfl)))
  | 7, _ => exact Or.inr (hs _ (lw_chk_ok lt_f lt_xL7 lt_xA7 _ (List.mem_of_getElem? (i := 9) rfl)))
  | 8, _ => exact Or.inl (hs _ (lw_chk_ok lt_f lt_xL9 lt_xA9 _ (List.mem_of_getElem? (i := 16) rfl)))
  | k + 9, h => exact absurd h (by omega)
theorem lt_ne9 {args : Array Value} {s : State} (hs : ∀ c ∈ lt_f, c.before args s = true) : ∀ j : Nat, 9 < j → j < 18 → (Cond.not (Cond.eq (lt_t 9) (lt_t j))).before args s = true ∨ (Cond.not (Cond.eq (lt_t j) (lt_t 9))).before args s = true := by
  intro j hj hk
  obtain ⟨k, rfl⟩ : ∃ k, j = k + 10 := ⟨j - 10, by omega⟩
  match k, hk with
  | 0, _ => exact Or.inl (hs _ (lw_chk_ok lt_f lt_xL8 lt_xA8 _ (List.mem_of_getElem? (i := 26) rfl)))
  | 1, _ => exact Or.inr (hs _ (lw_chk_ok lt_f lt_xL7 lt_xA7 _ (List.mem_of_getElem? (i := 26) rfl)))
  | 2, _ => exact Or.inr (hs _ (lw_chk_ok lt_f lt_xL7 lt_xA7 _ (List.mem_of_getElem? (i := 27) rfl)))
  | 3, _ => exact Or.inr (hs _ (lw_chk_ok lt_f lt_xL7 lt_xA7 _ (List.mem_of_getElem? (i := 28) rfl)))
  | 4, _ => exact Or.inr (hs _ (lw_chk_ok lt_f lt_xL7 lt_xA7 _ (List.mem_of_getElem? (i := 29) rfl)))
  | 5, _ => exact Or.inr (hs _ (lw_chk_ok lt_f lt_xL7 lt_xA7 _ (List.mem_of_getElem? (i := 30) rfl)))
  | 6, _ => exact Or.inr (hs _ (lw_chk_ok lt_f lt_xL7 lt_xA7 _ (List.mem_of_getElem? (i := 31) rfl)))
  | 7, _ => exact Or.inl (hs _ (lw_chk_ok lt_f lt_xL9 lt_xA9 _ (List.mem_of_getElem? (i := 17) rfl)))
  | k + 8, h => exact absurd h (by omega)
theorem lt_ne10 {args : Array Value} {s : State} (hs : ∀ c ∈ lt_f, c.before args s = true) : ∀ j : Nat, 10 < j → j < 18 → (Cond.not (Cond.eq (lt_t 10) (lt_t j))).before args s = true ∨ (Cond.not (Cond.eq (lt_t j) (lt_t 10))).before args s = true := by
  intro j hj hk
  obtain ⟨k, rfl⟩ : ∃ k, j = k + 11 := ⟨j - 11, by omega⟩
  match k, hk with
  | 0, _ => exact Or.inr (hs _ (lw_chk_ok lt_f lt_xL8 lt_xA8 _ (List.mem_of_getElem? (i := 17) rfl)))
  | 1, _ => exact Or.inr (hs _ (lw_chk_ok lt_f lt_xL8 lt_xA8 _ (List.mem_of_getElem? (i := 18) rfl)))
  | 2, _ => exact Or.inr (hs _ (lw_chk_ok lt_f lt_xL8 lt_xA8 _ (List.mem_of_getElem? (i := 19) rfl)))
  | 3, _ => exact Or.inr (hs _ (lw_chk_ok lt_f lt_xL8 lt_xA8 _ (List.mem_of_getElem? (i := 20) rfl)))
  | 4, _ => exact Or.inr (hs _ (lw_chk_ok lt_f lt_xL8 lt_xA8 _ (List.mem_of_getElem? (i := 21) rfl)))
  | 5, _ => exact Or.inr (hs _ (lw_chk_ok lt_f lt_xL8 lt_xA8 _ (List.mem_of_getElem? (i := 22) rfl)))
  | 6, _ => exact Or.inl (hs _ (lw_chk_ok lt_f lt_xL9 lt_xA9 _ (List.mem_of_getElem? (i := 18) rfl)))
  | k + 7, h => exact absurd h (by omega)
theorem lt_ne11 {args : Array Value} {s : State} (hs : ∀ c ∈ lt_f, c.before args s = true) : ∀ j : Nat, 11 < j → j < 18 → (Cond.not (Cond.eq (lt_t 11) (lt_t j))).before args s = true ∨ (Cond.not (Cond.eq (lt_t j) (lt_t 11))).before args s = true := by
  intro j hj hk
  obtain ⟨k, rfl⟩ : ∃ k, j = k + 12 := ⟨j - 12, by omega⟩
  match k, hk with
  | 0, _ => exact Or.inl (hs _ (lw_chk_ok lt_f lt_xL3 lt_xA3 _ (List.mem_of_getElem? (i := 1) rfl)))
  | 1, _ => exact Or.inl (hs _ (lw_chk_ok lt_f lt_xL3 lt_xA3 _ (List.mem_of_getElem? (i := 17) rfl)))
  | 2, _ => exact Or.inl (hs _ (lw_chk_ok lt_f lt_xL4 lt_xA4 _ (List.mem_of_getElem? (i := 2) rfl)))
  | 3, _ => exact Or.inl (hs _ (lw_chk_ok lt_f lt_xL4 lt_xA4 _ (List.mem_of_getElem? (i := 19) rfl)))
  | 4, _ => exact Or.inl (hs _ (lw_chk_ok lt_f lt_xL5 lt_xA5 _ (List.mem_of_getElem? (i := 3) rfl)))
  | 5, _ => exact Or.inl (hs _ (lw_chk_ok lt_f lt_xL9 lt_xA9 _ (List.mem_of_getElem? (i := 8) rfl)))
  | k + 6, h => exact absurd h (by omega)
theorem lt_ne12 {args : Array Value} {s : State} (hs : ∀ c ∈ lt_f, c.before args s = true) : ∀ j : Nat, 12 < j → j < 18 → (Cond.not (Cond.eq (lt_t 12) (lt_t j))).before args s = true ∨ (Cond.not (Cond.eq (lt_t j) (lt_t 12))).before args s = true := by
  intro j hj hk
  obtain ⟨k, rfl⟩ : ∃ k, j = k + 13 := ⟨j - 13, by omega⟩
  match k, hk with
  | 0, _ => exact Or.inl (hs _ (lw_chk_ok lt_f lt_xL3 lt_xA3 _ (List.mem_of_getElem? (i := 18) rfl)))
  | 1, _ => exact Or.inl (hs _ (lw_chk_ok lt_f lt_xL4 lt_xA4 _ (List.mem_of_getElem? (i := 3) rfl)))
  | 2, _ => exact Or.inl (hs _ (lw_chk_ok lt_f lt_xL4 lt_xA4 _ (List.mem_of_getElem? (i := 20) rfl)))
  | 3, _ => exact Or.inl (hs _ (lw_chk_ok lt_f lt_xL5 lt_xA5 _ (List.mem_of_getElem? (i := 4) rfl)))
  | 4, _ => exact Or.inl (hs _ (lw_chk_ok lt_f lt_xL9 lt_xA9 _ (List.mem_of_getElem? (i := 9) rfl)))
  | k + 5, h => exact absurd h (by omega)
theorem lt_ne13 {args : Array Value} {s : State} (hs : ∀ c ∈ lt_f, c.before args s = true) : ∀ j : Nat, 13 < j → j < 18 → (Cond.not (Cond.eq (lt_t 13) (lt_t j))).before args s = true ∨ (Cond.not (Cond.eq (lt_t j) (lt_t 13))).before args s = true := by
  intro j hj hk
  obtain ⟨k, rfl⟩ : ∃ k, j = k + 14 := ⟨j - 14, by omega⟩
  match k, hk with
  | 0, _ => exact Or.inl (hs _ (lw_chk_ok lt_f lt_xL4 lt_xA4 _ (List.mem_of_getElem? (i := 4) rfl)))
  | 1, _ => exact Or.inl (hs _ (lw_chk_ok lt_f lt_xL4 lt_xA4 _ (List.mem_of_getElem? (i := 21) rfl)))
  | 2, _ => exact Or.inl (hs _ (lw_chk_ok lt_f lt_xL5 lt_xA5 _ (List.mem_of_getElem? (i := 5) rfl)))
  | 3, _ => exact Or.inl (hs _ (lw_chk_ok lt_f lt_xL9 lt_xA9 _ (List.mem_of_getElem? (i := 10) rfl)))
  | k + 4, h => exact absurd h (by omega)
theorem lt_ne14 {args : Array Value} {s : State} (hs : ∀ c ∈ lt_f, c.before args s = true) : ∀ j : Nat, 14 < j → j < 18 → (Cond.not (Cond.eq (lt_t 14) (lt_t j))).before args s = true ∨ (Cond.not (Cond.eq (lt_t j) (lt_t 14))).before args s = true := by
  intro j hj hk
  obtain ⟨k, rfl⟩ : ∃ k, j = k + 15 := ⟨j - 15, by omega⟩
  match k, hk with
  | 0, _ => exact Or.inl (hs _ (lw_chk_ok lt_f lt_xL4 lt_xA4 _ (List.mem_of_getElem? (i := 22) rfl)))
  | 1, _ => exact Or.inl (hs _ (lw_chk_ok lt_f lt_xL5 lt_xA5 _ (List.mem_of_getElem? (i := 6) rfl)))
  | 2, _ => exact Or.inl (hs _ (lw_chk_ok lt_f lt_xL9 lt_xA9 _ (List.mem_of_getElem? (i := 11) rfl)))
  | k + 3, h => exact absurd h (by omega)
theorem lt_ne15 {args : Array Value} {s : State} (hs : ∀ c ∈ lt_f, c.before args s = true) : ∀ j : Nat, 15 < j → j < 18 → (Cond.not (Cond.eq (lt_t 15) (lt_t j))).before args s = true ∨ (Cond.not (Cond.eq (lt_t j) (lt_t 15))).before args s = true := by
  intro j hj hk
  obtain ⟨k, rfl⟩ : ∃ k, j = k + 16 := ⟨j - 16, by omega⟩
  match k, hk with
  | 0, _ => exact Or.inl (hs _ (lw_chk_ok lt_f lt_xL5 lt_xA5 _ (List.mem_of_getElem? (i := 7) rfl)))
  | 1, _ => exact Or.inl (hs _ (lw_chk_ok lt_f lt_xL9 lt_xA9 _ (List.mem_of_getElem? (i := 12) rfl)))
  | k + 2, h => exact absurd h (by omega)
theorem lt_ne16 {args : Array Value} {s : State} (hs : ∀ c ∈ lt_f, c.before args s = true) : ∀ j : Nat, 16 < j → j < 18 → (Cond.not (Cond.eq (lt_t 16) (lt_t j))).before args s = true ∨ (Cond.not (Cond.eq (lt_t j) (lt_t 16))).before args s = true := by
  intro j hj hk
  obtain ⟨k, rfl⟩ : ∃ k, j = k + 17 := ⟨j - 17, by omega⟩
  match k, hk with
  | 0, _ => exact Or.inl (hs _ (lw_chk_ok lt_f lt_xL9 lt_xA9 _ (List.mem_of_getElem? (i := 13) rfl)))
  | k + 1, h => exact absurd h (by omega)
theorem lt_ne17 {args : Array Value} {s : State} (hs : ∀ c ∈ lt_f, c.before args s = true) : ∀ j : Nat, 17 < j → j < 18 → (Cond.not (Cond.eq (lt_t 17) (lt_t j))).before args s = true ∨ (Cond.not (Cond.eq (lt_t j) (lt_t 17))).before args s = true := by
  intro j hj hk
  omega
theorem lt_ne' {args : Array Value} {s : State} (hs : ∀ c ∈ lt_f, c.before args s = true) : ∀ i j : Nat, i < j → j < 18 → (Cond.not (Cond.eq (lt_t i) (lt_t j))).before args s = true ∨ (Cond.not (Cond.eq (lt_t j) (lt_t i))).before args s = true := by
  intro i j h1 h2
  have hi : i < 18 := by omega
  match i, hi with
  | 0, _ => exact lt_ne0 hs j h1 h2
  | 1, _ => exact lt_ne1 hs j h1 h2
  | 2, _ => exact lt_ne2 hs j h1 h2
  | 3, _ => exact lt_ne3 hs j h1 h2
  | 4, _ => exact lt_ne4 hs j h1 h2
  | 5, _ => exact lt_ne5 hs j h1 h2
  | 6, _ => exact lt_ne6 hs j h1 h2
  | 7, _ => exact lt_ne7 hs j h1 h2
  | 8, _ => exact lt_ne8 hs j h1 h2
  | 9, _ => exact lt_ne9 hs j h1 h2
  | 10, _ => exact lt_ne10 hs j h1 h2
  | 11, _ => exact lt_ne11 hs j h1 h2
  | 12, _ => exact lt_ne12 hs j h1 h2
  | 13, _ => exact lt_ne13 hs j h1 h2
  | 14, _ => exact lt_ne14 hs j h1 h2
  | 15, _ => exact lt_ne15 hs j h1 h2
  | 16, _ => exact lt_ne16 hs j h1 h2
  | 17, _ => exact lt_ne17 hs j h1 h2
  | k + 18, h => exact absurd h (by omega)
theorem lt_ne {args : Array Value} {s : State} (hs : ∀ c ∈ lt_f, c.before args s = true) : ∀ i j : Nat, i < 18 → j < 18 → i ≠ j → (Cond.not (Cond.eq (lt_t i) (lt_t j))).before args s = true ∨ (Cond.not (Cond.eq (lt_t j) (lt_t i))).before args s = true := by
  intro i j hi hj hn
  rcases Nat.lt_or_gt_of_ne hn with h | h
  · exact lt_ne' hs i j h hj
  · exact (lt_ne' hs j i h hi).symm
theorem lt_N : ∀ i : Nat, i < 18 → pm_len.getD i 0 < 2 ^ 31 := by
  intro i hi
  have h : ((List.range 18).all fun i => decide (pm_len.getD i 0 < 2 ^ 31)) = true := by decide +kernel
  exact of_decide_eq_true (List.all_eq_true.mp h i (List.mem_range.mpr hi))
theorem lt_cs {args : Array Value} {s : State} (hs : ∀ c ∈ lt_f, c.before args s = true) : (Cond.eq (.static "java/lang/String" "COMPACT_STRINGS" "Z") (.int 1)).before args s = true := hs _ (lw_chk_ok lt_f lt_xL0 lt_xA0 _ (List.mem_of_getElem? (i := 0) rfl))
theorem lt_fm {args : Array Value} {s : State} (hs : ∀ c ∈ lt_f, c.before args s = true) : (Cond.isRef (.static "jdk/internal/util/Preconditions" "SIOOBE_FORMATTER" "Ljava/util/function/BiFunction;")).before args s = true := hs _ (lw_chk_ok lt_f lt_xL0 lt_xA0 _ (List.mem_of_getElem? (i := 1) rfl))
theorem lt_inst : ∀ (ci : Nat) (C : String) (T : u_T) (N : Nat), pm_cl[ci]? = some (C, T, N) → Cond.instantiable C N ∈ pm_all := by
  intro ci C T N h
  match ci, h with
  | 0, h => cases h; exact pm_in 2128 (by decide +kernel)
  | 1, h => cases h; exact pm_in 2108 (by decide +kernel)
  | 2, h => cases h; exact pm_in 1205 (by decide +kernel)
  | 3, h => cases h; exact pm_in 2028 (by decide +kernel)
  | 4, h => cases h; exact pm_in 2102 (by decide +kernel)
  | 5, h => cases h; exact pm_in 1130 (by decide +kernel)
  | 6, h => cases h; exact pm_in 2000 (by decide +kernel)
  | 7, h => cases h; exact pm_in 1073 (by decide +kernel)
  | 8, h => cases h; exact pm_in 1028 (by decide +kernel)
  | 9, h => cases h; exact pm_in 1045 (by decide +kernel)
  | 10, h => cases h; exact pm_in 2041 (by decide +kernel)
  | 11, h => cases h; exact pm_in 1020 (by decide +kernel)
  | 12, h => cases h; exact pm_in 5116 (by decide +kernel)
  | k + 13, h => simp [pm_cl] at h
theorem lt_sr {args : Array Value} {s : State} (hts : ∀ w ∈ lw_tbl, w.before args s = true) (lit : Nat → Nat) (hE : ∀ i : Nat, i < 18 → (lt_t i).eval args s none [] s = some (.ref (lit i))) : ∀ q ∈ pm_lits, vk_R "LipsVoiceModel" q.1 q.2.1 (lit q.2.2) s := by
  intro q hq
  obtain ⟨i, hi⟩ := List.mem_iff_getElem?.mp hq
  match i, hi with
  | 0, hi => cases hi; exact vk_R.of (hts _ (pm_look_mem (i := 6096) (by decide +kernel))) (hE 0 (by decide))
  | 1, hi => cases hi; exact vk_R.of (hts _ (pm_look_mem (i := 6160) (by decide +kernel))) (hE 1 (by decide))
  | 2, hi => cases hi; exact vk_R.of (hts _ (pm_look_mem (i := 6161) (by decide +kernel))) (hE 2 (by decide))
  | 3, hi => cases hi; exact vk_R.of (hts _ (pm_look_mem (i := 6162) (by decide +kernel))) (hE 3 (by decide))
  | 4, hi => cases hi; exact vk_R.of (hts _ (pm_look_mem (i := 6163) (by decide +kernel))) (hE 4 (by decide))
  | 5, hi => cases hi; exact vk_R.of (hts _ (pm_look_mem (i := 6164) (by decide +kernel))) (hE 5 (by decide))
  | 6, hi => cases hi; exact vk_R.of (hts _ (pm_look_mem (i := 6227) (by decide +kernel))) (hE 6 (by decide))
  | 7, hi => cases hi; exact vk_R.of (hts _ (pm_look_mem (i := 6228) (by decide +kernel))) (hE 7 (by decide))
  | 8, hi => cases hi; exact vk_R.of (hts _ (pm_look_mem (i := 6229) (by decide +kernel))) (hE 8 (by decide))
  | 9, hi => cases hi; exact vk_R.of (hts _ (pm_look_mem (i := 6230) (by decide +kernel))) (hE 9 (by decide))
  | 10, hi => cases hi; exact vk_R.of (hts _ (pm_look_mem (i := 6231) (by decide +kernel))) (hE 10 (by decide))
  | 11, hi => cases hi; exact vk_R.of (hts _ (pm_look_mem (i := 6209) (by decide +kernel))) (hE 11 (by decide))
  | 12, hi => cases hi; exact vk_R.of (hts _ (pm_look_mem (i := 6210) (by decide +kernel))) (hE 12 (by decide))
  | 13, hi => cases hi; exact vk_R.of (hts _ (pm_look_mem (i := 6211) (by decide +kernel))) (hE 13 (by decide))
  | 14, hi => cases hi; exact vk_R.of (hts _ (pm_look_mem (i := 6212) (by decide +kernel))) (hE 14 (by decide))
  | 15, hi => cases hi; exact vk_R.of (hts _ (pm_look_mem (i := 6213) (by decide +kernel))) (hE 15 (by decide))
  | 16, hi => cases hi; exact vk_R.of (hts _ (pm_look_mem (i := 6214) (by decide +kernel))) (hE 16 (by decide))
  | 17, hi => cases hi; exact vk_R.of (hts _ (pm_look_mem (i := 6239) (by decide +kernel))) (hE 17 (by decide))
  | k + 18, h => simp [pm_lits] at h
set_option maxHeartbeats 4000000 in
/-- the tables, the literals and the statics at the start -/
theorem lt_T {args : Array Value} {s : State} (b : Nat) (hts : ∀ w ∈ lw_tbl, w.before args s = true) (hs : ∀ c ∈ lt_f, c.before args s = true) : ∃ G : pm_G, G.1 = s.heap.size ∧ G.2.2.2.2.2 = b ∧ pm_T G s s.heap := by
  have hA : ∀ a : Nat, a < s.heap.size → ¬ (fun q : Nat => s.heap.size ≤ q) a := fun a h q => absurd h (Nat.not_lt.mpr q)
  have ha : ∀ w ∈ pm_all, w.before args s = true := fun w h => hts w (List.mem_filter.mp h).1
  obtain ⟨c0, i0, -⟩ := u_known (N := 3) (n := 3) ha (pm_uws 0 RX0 TX0 3 rfl).1 (ha _ (lt_inst 0 RX0 TX0 3 rfl))
  have h1 : ∀ k : Nat, ∃ x : ClassId × (Nat → Nat), ∀ q : vw_C, pm_cl[k]? = some q → u_Kn s q.1 q.2.1 q.2.2 x.1 x.2 := by
    intro k
    cases e : pm_cl[k]? with
    | none => exact ⟨(c0, i0), fun q h => by cases h⟩
    | some q =>
      obtain ⟨C, T, N⟩ := q
      obtain ⟨cC, iS, hk⟩ := u_known (N := N) (n := N) ha (pm_uws k C T N e).1 (ha _ (lt_inst k C T N e))
      exact ⟨(cC, iS), fun q h => by cases h; exact hk⟩
  obtain ⟨f, hf⟩ := Classical.axiomOfChoice h1
  obtain ⟨cI, kI, mI, i1, i2, i3⟩ := Cond.arrayClass_spec (type := .int) (ha _ (pm_in 1043 (by decide +kernel)))
  obtain ⟨cJ, kJ, mJ, j1, j2, j3⟩ := Cond.arrayClass_spec (type := .long) (ha _ (pm_in 1238 (by decide +kernel)))
  obtain ⟨cZ, kZ, mZ, z1, z2, z3⟩ := Cond.arrayClass_spec (type := .boolean) (ha _ (pm_in 1127 (by decide +kernel)))
  obtain ⟨cB, kB, mB, b1, b2, b3⟩ := Cond.arrayClass_spec (type := .byte) (ha _ (pm_in 6056 (by decide +kernel)))
  have hov := hts _ (pm_look_mem (w := .arrayOver (.object "LipsVoice$Sheet")) (i := 1128) (by decide +kernel))
  obtain ⟨mS, cS, kS, s1, -, s2, s3, s4⟩ := Cond.arrayOver_spec hov
  obtain ⟨adK, adV, hS4, hE⟩ := vk_Sof (N := 18) (tm := lt_t) (len := pm_len) (byt := pm_byt) (A := fun q => s.heap.size ≤ q) lt_N (lt_ex hs) (lt_co hs) (lt_ar hs) (lt_le hs) (lt_el hs) (lt_ne hs) hA
  obtain ⟨v, v1, v2⟩ := Cond.isRef_spec (lt_fm hs)
  obtain ⟨t, ht⟩ : ∃ t : Nat, v = .null ∨ v = .ref t := by
    cases v <;> first | exact ⟨0, Or.inl rfl⟩ | exact ⟨_, Or.inr rfl⟩ | exact absurd v2 Bool.false_ne_true
  obtain ⟨lit, hlit⟩ : ∃ lit : Nat → Nat, lit = fun q => if q < 18 then adK q else if q < 36 then adV (q - 18) else t := ⟨_, rfl⟩
  have l1 : ∀ q, q < 18 → lit q = adK q := fun q h => by rw [hlit]; exact if_pos h
  have l2 : ∀ q, q < 18 → lit (18 + q) = adV q := fun q h => by
    rw [hlit]
    show (if 18 + q < 18 then adK (18 + q) else if 18 + q < 36 then adV (18 + q - 18) else t) = adV q
    rw [if_neg (by omega), if_pos (by omega), show 18 + q - 18 = q by omega]
  have l3 : lit 36 = t := by rw [hlit]; rfl
  refine ⟨(s.heap.size, (fun k => (f k).1, fun k => (f k).2), fun k => match k with | 0 => cI | 1 => cJ | 3 => cS | 7 => cZ | _ => cB, lit, adV, b), rfl, rfl, ⟨fun k q h => hf k q h, fun k q h => ?_⟩, fun w hm hn => ?_, lt_sr hts lit (fun i hi => by rw [l1 i hi]; exact hE i hi), ⟨⟨fun i hi => ?_, fun i j hi hj e => ?_⟩, l2⟩, ?_, ?_, va_AO.of hov⟩
  · match k, h with
    | 0, h => cases h; exact ⟨fun n z => ⟨fun k h => (by cases h), kI, i2, mI, i3⟩, i1⟩
    | 1, h => cases h; exact ⟨fun n z => ⟨fun k h => (by cases h), kJ, j2, mJ, j3⟩, j1⟩
    | 2, h => cases h; exact ⟨fun n z => ⟨fun k h => (by cases h), kS, s2, mS, s3⟩, kS, mS, s2, s3, s1, s4⟩
    | 3, h => cases h; exact ⟨fun n z => ⟨fun k h => (by cases h), kZ, z2, mZ, z3⟩, z1⟩
    | 4, h => cases h; exact ⟨fun n z => ⟨fun k h => (by cases h), kB, b2, mB, b3⟩, b1⟩
    | k + 5, h => simp [pm_tys] at h
  · cases w <;> first | exact absurd hn Bool.false_ne_true | exact va_Nw.of rfl (hts _ hm)
  · have h := hS4.1 i hi
    have hl : lit i = adK i := l1 i hi
    show va_O "java/lang/String" (lit i) _ s s.heap ∧ va_OF "java/lang/String" "coder" "B" (.int 0) (lit i) _ s s.heap ∧ va_OF "java/lang/String" "value" "[B" (.ref (adV i)) (lit i) _ s s.heap ∧ _
    rw [hl]
    exact h
  · have e : lit i = lit j := e
    rw [l1 i hi, l1 j hj] at e
    exact hS4.2 i j hi hj e
  · exact va_Zof (hts _ (pm_look_mem (i := 6113) (by decide +kernel))) (ha _ (pm_in 1014 (by decide +kernel))) (va_eqt (lt_cs hs)) hA
  · have hz := va_Zof (v := v) (A := fun q => s.heap.size ≤ q) (hts _ (pm_look_mem (i := 6129) (by decide +kernel))) (ha _ (pm_in 1016 (by decide +kernel))) v1 hA
    rcases ht with rfl | rfl
    · exact Or.inl hz
    · right
      show va_Z _ _ _ (.ref (lit 36)) _ s s.heap
      rw [l3]
      exact hz
