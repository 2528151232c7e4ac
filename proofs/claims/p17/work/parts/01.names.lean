/-- a private method of a class that the tables say can be made, by its rows of tables_1 -/
def lw_okq (q : MethodName × Nat) : Prop := (q.1.cls ≠ "java/lang/invoke/MethodHandle" ∧ q.1.cls ≠ "java/lang/invoke/VarHandle") ∧ Cond.instantiable q.1.cls q.2 ∈ tables_1 ∧ Cond.privateMethod q.1 ∈ tables_1 ∧ Cond.instanceMethod q.1 ∈ tables_1
/-- the list holds these, each so many places behind the one before -/
def lw_chk : List Cond → List (Nat × Cond) → Bool
  | _, [] => true
  | [], _ :: _ => false
  | c :: cs, (0, d) :: ps => decide (c = d) && lw_chk cs ps
  | _ :: cs, (g + 1, d) :: ps => lw_chk cs ((g, d) :: ps)
theorem lw_chk_ok : ∀ (l : List Cond) (ps : List (Nat × Cond)), lw_chk l ps = true → ∀ d ∈ ps.map Prod.snd, d ∈ l
  | _, [], _ => fun d h => absurd h List.not_mem_nil
  | [], _ :: _, h => by simp only [lw_chk] at h; exact absurd h Bool.false_ne_true
  | c :: cs, (0, d) :: ps, h => by
    simp only [lw_chk, Bool.and_eq_true] at h
    have e : c = d := of_decide_eq_true h.1
    intro x hx
    rcases List.mem_cons.mp hx with hx | hx
    · rw [hx, ← e]; exact List.mem_cons_self
    · exact List.mem_cons_of_mem _ (lw_chk_ok cs ps h.2 x hx)
  | c :: cs, (g + 1, d) :: ps, h => by
    simp only [lw_chk] at h
    intro x hx
    exact List.mem_cons_of_mem _ (lw_chk_ok cs ((g, d) :: ps) h x hx)
def lw_xL0 : List (Nat × Cond) := [(20, Cond.instantiable "LipsVoice" 17), (24, Cond.instantiable "LipsVoice$Tokens" 5), (159, Cond.instantiable "LipsVoice$Rules" 8), (34, Cond.instantiable "LipsVoice$SceneReader" 7), (27, Cond.instantiable "LipsVoice$RulesReader" 2), (12, Cond.instantiable "LipsVoice$Trial" 16), (60, Cond.instantiable "LipsVoice$Scale" 2), (132, Cond.privateMethod ⟨"LipsVoice$Tokens", "take", "(I)V"⟩), (0, Cond.instanceMethod ⟨"LipsVoice$Tokens", "take", "(I)V"⟩), (5, Cond.privateMethod ⟨"LipsVoice$SceneReader", "readStatement", "()Z"⟩), (0, Cond.instanceMethod ⟨"LipsVoice$SceneReader", "readStatement", "()Z"⟩), (7, Cond.privateMethod ⟨"LipsVoice$SceneReader", "readSound", "()Z"⟩), (0, Cond.instanceMethod ⟨"LipsVoice$SceneReader", "readSound", "()Z"⟩), (13, Cond.privateMethod ⟨"LipsVoice$SceneReader", "findName", "()I"⟩), (0, Cond.instanceMethod ⟨"LipsVoice$SceneReader", "findName", "()I"⟩), (10, Cond.privateMethod ⟨"LipsVoice$SceneReader", "closes", "()Z"⟩), (0, Cond.instanceMethod ⟨"LipsVoice$SceneReader", "closes", "()Z"⟩), (7, Cond.privateMethod ⟨"LipsVoice$SceneReader", "readVoice", "()Z"⟩), (0, Cond.instanceMethod ⟨"LipsVoice$SceneReader", "readVoice", "()Z"⟩), (2, Cond.privateMethod ⟨"LipsVoice$SceneReader", "readNumbers", "(IIII)Z"⟩), (0, Cond.instanceMethod ⟨"LipsVoice$SceneReader", "readNumbers", "(IIII)Z"⟩), (3, Cond.privateMethod ⟨"LipsVoice$SceneReader", "readFace", "()Z"⟩), (0, Cond.instanceMethod ⟨"LipsVoice$SceneReader", "readFace", "()Z"⟩), (3, Cond.privateMethod ⟨"LipsVoice$SceneReader", "readOdds", "()Z"⟩), (0, Cond.instanceMethod ⟨"LipsVoice$SceneReader", "readOdds", "()Z"⟩), (3, Cond.privateMethod ⟨"LipsVoice$SceneReader", "readHold", "()Z"⟩), (0, Cond.instanceMethod ⟨"LipsVoice$SceneReader", "readHold", "()Z"⟩), (3, Cond.privateMethod ⟨"LipsVoice$SceneReader", "readLearn", "()Z"⟩), (0, Cond.instanceMethod ⟨"LipsVoice$SceneReader", "readLearn", "()Z"⟩), (19, Cond.privateMethod ⟨"LipsVoice$RulesReader", "readLine", "()Z"⟩), (0, Cond.instanceMethod ⟨"LipsVoice$RulesReader", "readLine", "()Z"⟩), (2, Cond.privateMethod ⟨"LipsVoice$RulesReader", "readHead", "()Z"⟩)]
theorem lw_xA0 : lw_chk tables_1 lw_xL0 = true := by decide +kernel
def lw_xL1 : List (Nat × Cond) := [(577, Cond.instanceMethod ⟨"LipsVoice$RulesReader", "readHead", "()Z"⟩), (5, Cond.privateMethod ⟨"LipsVoice$RulesReader", "outcomeOfWord", "()I"⟩), (0, Cond.instanceMethod ⟨"LipsVoice$RulesReader", "outcomeOfWord", "()I"⟩), (11, Cond.privateMethod ⟨"LipsVoice$RulesReader", "readSum", "(I)Z"⟩), (0, Cond.instanceMethod ⟨"LipsVoice$RulesReader", "readSum", "(I)Z"⟩), (2, Cond.privateMethod ⟨"LipsVoice$RulesReader", "readProduct", "(I)Z"⟩), (0, Cond.instanceMethod ⟨"LipsVoice$RulesReader", "readProduct", "(I)Z"⟩), (2, Cond.privateMethod ⟨"LipsVoice$RulesReader", "readFactor", "(I)Z"⟩), (0, Cond.instanceMethod ⟨"LipsVoice$RulesReader", "readFactor", "(I)Z"⟩), (2, Cond.privateMethod ⟨"LipsVoice$RulesReader", "codeOfToken", "()I"⟩), (0, Cond.instanceMethod ⟨"LipsVoice$RulesReader", "codeOfToken", "()I"⟩), (15, Cond.privateMethod ⟨"LipsVoice$RulesReader", "isComparison", "()Z"⟩), (0, Cond.instanceMethod ⟨"LipsVoice$RulesReader", "isComparison", "()Z"⟩), (32, Cond.privateMethod ⟨"LipsVoice", "isSound", "(I)Z"⟩), (0, Cond.instanceMethod ⟨"LipsVoice", "isSound", "(I)Z"⟩), (6, Cond.privateMethod ⟨"LipsVoice", "hasScene", "()Z"⟩), (0, Cond.instanceMethod ⟨"LipsVoice", "hasScene", "()Z"⟩), (17, Cond.privateMethod ⟨"LipsVoice", "isPerson", "(I)Z"⟩), (0, Cond.instanceMethod ⟨"LipsVoice", "isPerson", "(I)Z"⟩), (11, Cond.privateMethod ⟨"LipsVoice", "weighs", "(IIII)Z"⟩), (0, Cond.instanceMethod ⟨"LipsVoice", "weighs", "(IIII)Z"⟩), (5, Cond.privateMethod ⟨"LipsVoice", "isTrial", "(III)Z"⟩), (0, Cond.instanceMethod ⟨"LipsVoice", "isTrial", "(III)Z"⟩), (8, Cond.privateMethod ⟨"LipsVoice", "pose", "(III)V"⟩), (0, Cond.instanceMethod ⟨"LipsVoice", "pose", "(III)V"⟩), (2, Cond.privateMethod ⟨"LipsVoice", "poseAs", "(IIII)V"⟩), (0, Cond.instanceMethod ⟨"LipsVoice", "poseAs", "(IIII)V"⟩), (16, Cond.privateMethod ⟨"LipsVoice$Trial", "farFrom", "(III)I"⟩), (0, Cond.instanceMethod ⟨"LipsVoice$Trial", "farFrom", "(III)I"⟩), (10, Cond.privateMethod ⟨"LipsVoice$Trial", "weighFace", "()V"⟩), (0, Cond.instanceMethod ⟨"LipsVoice$Trial", "weighFace", "()V"⟩), (2, Cond.privateMethod ⟨"LipsVoice$Trial", "weighSurer", "()V"⟩)]
theorem lw_xA1 : lw_chk tables_1 lw_xL1 = true := by decide +kernel
def lw_xL2 : List (Nat × Cond) := [(755, Cond.instanceMethod ⟨"LipsVoice$Trial", "weighSurer", "()V"⟩), (2, Cond.privateMethod ⟨"LipsVoice$Trial", "greatestWeight", "()J"⟩), (0, Cond.instanceMethod ⟨"LipsVoice$Trial", "greatestWeight", "()J"⟩), (6, Cond.privateMethod ⟨"LipsVoice$Trial", "weighVoice", "()V"⟩), (0, Cond.instanceMethod ⟨"LipsVoice$Trial", "weighVoice", "()V"⟩), (2, Cond.privateMethod ⟨"LipsVoice$Trial", "weighOne", "()V"⟩), (0, Cond.instanceMethod ⟨"LipsVoice$Trial", "weighOne", "()V"⟩), (2, Cond.privateMethod ⟨"LipsVoice$Trial", "weighOdds", "()V"⟩), (0, Cond.instanceMethod ⟨"LipsVoice$Trial", "weighOdds", "()V"⟩), (3, Cond.privateMethod ⟨"LipsVoice$Trial", "weighLearnt", "()V"⟩), (0, Cond.instanceMethod ⟨"LipsVoice$Trial", "weighLearnt", "()V"⟩), (3, Cond.privateMethod ⟨"LipsVoice$Trial", "weighSingle", "(I)V"⟩), (0, Cond.instanceMethod ⟨"LipsVoice$Trial", "weighSingle", "(I)V"⟩), (2, Cond.privateMethod ⟨"LipsVoice$Trial", "soundBetween", "()I"⟩), (0, Cond.instanceMethod ⟨"LipsVoice$Trial", "soundBetween", "()I"⟩), (70, Cond.privateMethod ⟨"LipsVoice", "isPersonOrAll", "(I)Z"⟩), (0, Cond.instanceMethod ⟨"LipsVoice", "isPersonOrAll", "(I)Z"⟩), (2, Cond.privateMethod ⟨"LipsVoice", "gather", "(LLipsVoice$Chances;II)V"⟩), (0, Cond.instanceMethod ⟨"LipsVoice", "gather", "(LLipsVoice$Chances;II)V"⟩), (28, Cond.privateMethod ⟨"LipsVoice$Scale", "compareExactly", "(LLipsVoice$Chances;LLipsVoice$Chances;I)I"⟩), (0, Cond.instanceMethod ⟨"LipsVoice$Scale", "compareExactly", "(LLipsVoice$Chances;LLipsVoice$Chances;I)I"⟩), (19, Cond.privateMethod ⟨"LipsVoice", "keepsTried", "()Z"⟩), (0, Cond.instanceMethod ⟨"LipsVoice", "keepsTried", "()Z"⟩), (6, Cond.privateMethod ⟨"LipsVoice", "findOwnOdds", "(I)I"⟩), (0, Cond.instanceMethod ⟨"LipsVoice", "findOwnOdds", "(I)I"⟩), (2, Cond.privateMethod ⟨"LipsVoice", "gatherOdds", "(LLipsVoice$Chances;IIII)V"⟩), (0, Cond.instanceMethod ⟨"LipsVoice", "gatherOdds", "(LLipsVoice$Chances;IIII)V"⟩), (2, Cond.privateMethod ⟨"LipsVoice", "findOwnSpans", "(I)V"⟩), (0, Cond.instanceMethod ⟨"LipsVoice", "findOwnSpans", "(I)V"⟩), (3, Cond.privateMethod ⟨"LipsVoice", "trySpans", "(III)V"⟩), (0, Cond.instanceMethod ⟨"LipsVoice", "trySpans", "(III)V"⟩), (9, Cond.privateMethod ⟨"LipsVoice", "countOfLand", "(I)I"⟩)]
theorem lw_xA2 : lw_chk tables_1 lw_xL2 = true := by decide +kernel
def lw_xL3 : List (Nat × Cond) := [(948, Cond.instanceMethod ⟨"LipsVoice", "countOfLand", "(I)I"⟩), (2, Cond.privateMethod ⟨"LipsVoice", "isOfLand", "(II)Z"⟩), (0, Cond.instanceMethod ⟨"LipsVoice", "isOfLand", "(II)Z"⟩), (10, Cond.privateMethod ⟨"LipsVoice", "isPair", "(IIII)Z"⟩), (0, Cond.instanceMethod ⟨"LipsVoice", "isPair", "(IIII)Z"⟩), (11, Cond.privateMethod ⟨"LipsVoice", "sumRight", "(III)I"⟩), (0, Cond.instanceMethod ⟨"LipsVoice", "sumRight", "(III)I"⟩), (34, Cond.privateMethod ⟨"LipsVoice", "fillAtoms", "(I)V"⟩), (0, Cond.instanceMethod ⟨"LipsVoice", "fillAtoms", "(I)V"⟩), (6, Cond.privateMethod ⟨"LipsVoice$Rules", "push", "(J)V"⟩), (0, Cond.instanceMethod ⟨"LipsVoice$Rules", "push", "(J)V"⟩), (2, Cond.privateMethod ⟨"LipsVoice$Rules", "applies", "(I)Z"⟩), (0, Cond.instanceMethod ⟨"LipsVoice$Rules", "applies", "(I)Z"⟩), (2, Cond.privateMethod ⟨"LipsVoice$Rules", "pop", "()J"⟩), (0, Cond.instanceMethod ⟨"LipsVoice$Rules", "pop", "()J"⟩), (16, Cond.privateMethod ⟨"LipsVoice", "drawAnswer", "(II)V"⟩), (0, Cond.instanceMethod ⟨"LipsVoice", "drawAnswer", "(II)V"⟩), (2, Cond.privateMethod ⟨"LipsVoice", "lotBelow", "(J)I"⟩), (0, Cond.instanceMethod ⟨"LipsVoice", "lotBelow", "(J)I"⟩), (24, Cond.instantiable "LipsVoiceModel" 58), (196, Cond.privateMethod ⟨"LipsVoiceModel", "sceneFault", "()I"⟩), (0, Cond.instanceMethod ⟨"LipsVoiceModel", "sceneFault", "()I"⟩), (2, Cond.privateMethod ⟨"LipsVoiceModel", "leads", "()V"⟩), (0, Cond.instanceMethod ⟨"LipsVoiceModel", "leads", "()V"⟩), (14, Cond.privateMethod ⟨"LipsVoiceModel", "sceneLine", "()Z"⟩), (0, Cond.instanceMethod ⟨"LipsVoiceModel", "sceneLine", "()Z"⟩), (3, Cond.privateMethod ⟨"LipsVoiceModel", "isWord", "(Ljava/lang/String;)Z"⟩), (0, Cond.instanceMethod ⟨"LipsVoiceModel", "isWord", "(Ljava/lang/String;)Z"⟩), (53, Cond.privateMethod ⟨"LipsVoiceModel", "soundLine", "()Z"⟩), (0, Cond.instanceMethod ⟨"LipsVoiceModel", "soundLine", "()Z"⟩), (2, Cond.privateMethod ⟨"LipsVoiceModel", "isName", "()Z"⟩), (0, Cond.instanceMethod ⟨"LipsVoiceModel", "isName", "()Z"⟩)]
theorem lw_xA3 : lw_chk tables_1 lw_xL3 = true := by decide +kernel
def lw_xL4 : List (Nat × Cond) := [(1366, Cond.privateMethod ⟨"LipsVoiceModel", "named", "()I"⟩), (0, Cond.instanceMethod ⟨"LipsVoiceModel", "named", "()I"⟩), (2, Cond.privateMethod ⟨"LipsVoiceModel", "number", "(II)Z"⟩), (0, Cond.instanceMethod ⟨"LipsVoiceModel", "number", "(II)Z"⟩), (2, Cond.privateMethod ⟨"LipsVoiceModel", "closes", "()Z"⟩), (0, Cond.instanceMethod ⟨"LipsVoiceModel", "closes", "()Z"⟩), (2, Cond.privateMethod ⟨"LipsVoiceModel", "isSign", "(I)Z"⟩), (0, Cond.instanceMethod ⟨"LipsVoiceModel", "isSign", "(I)Z"⟩), (2, Cond.privateMethod ⟨"LipsVoiceModel", "spanLine", "(I)Z"⟩), (0, Cond.instanceMethod ⟨"LipsVoiceModel", "spanLine", "(I)Z"⟩), (2, Cond.privateMethod ⟨"LipsVoiceModel", "oddsLine", "()Z"⟩), (0, Cond.instanceMethod ⟨"LipsVoiceModel", "oddsLine", "()Z"⟩), (2, Cond.privateMethod ⟨"LipsVoiceModel", "holdLine", "()Z"⟩), (0, Cond.instanceMethod ⟨"LipsVoiceModel", "holdLine", "()Z"⟩), (2, Cond.privateMethod ⟨"LipsVoiceModel", "learnLine", "()Z"⟩), (0, Cond.instanceMethod ⟨"LipsVoiceModel", "learnLine", "()Z"⟩), (6, Cond.privateMethod ⟨"LipsVoiceModel", "rulesFault", "()I"⟩), (0, Cond.instanceMethod ⟨"LipsVoiceModel", "rulesFault", "()I"⟩), (2, Cond.privateMethod ⟨"LipsVoiceModel", "ruleLine", "()Z"⟩), (0, Cond.instanceMethod ⟨"LipsVoiceModel", "ruleLine", "()Z"⟩), (8, Cond.privateMethod ⟨"LipsVoiceModel", "sumHere", "()Z"⟩), (0, Cond.instanceMethod ⟨"LipsVoiceModel", "sumHere", "()Z"⟩), (2, Cond.privateMethod ⟨"LipsVoiceModel", "lays", "(II)V"⟩), (0, Cond.instanceMethod ⟨"LipsVoiceModel", "lays", "(II)V"⟩), (2, Cond.privateMethod ⟨"LipsVoiceModel", "nameHere", "()I"⟩), (0, Cond.instanceMethod ⟨"LipsVoiceModel", "nameHere", "()I"⟩), (7, Cond.privateMethod ⟨"LipsVoiceModel", "empties", "(I)V"⟩), (0, Cond.instanceMethod ⟨"LipsVoiceModel", "empties", "(I)V"⟩), (26, Cond.privateMethod ⟨"LipsVoiceModel", "isPerson", "(I)Z"⟩), (0, Cond.instanceMethod ⟨"LipsVoiceModel", "isPerson", "(I)Z"⟩), (10, Cond.privateMethod ⟨"LipsVoiceModel", "weighsIf", "(IIII)Z"⟩), (0, Cond.instanceMethod ⟨"LipsVoiceModel", "weighsIf", "(IIII)Z"⟩)]
theorem lw_xA4 : lw_chk tables_1 lw_xL4 = true := by decide +kernel
def lw_xL5 : List (Nat × Cond) := [(1480, Cond.privateMethod ⟨"LipsVoiceModel", "isTrial", "(III)Z"⟩), (0, Cond.instanceMethod ⟨"LipsVoiceModel", "isTrial", "(III)Z"⟩), (2, Cond.privateMethod ⟨"LipsVoiceModel", "works", "(III)V"⟩), (0, Cond.instanceMethod ⟨"LipsVoiceModel", "works", "(III)V"⟩), (3, Cond.privateMethod ⟨"LipsVoiceModel", "x", "(I)I"⟩), (0, Cond.instanceMethod ⟨"LipsVoiceModel", "x", "(I)I"⟩), (5, Cond.privateMethod ⟨"LipsVoiceModel", "y", "(I)I"⟩), (0, Cond.instanceMethod ⟨"LipsVoiceModel", "y", "(I)I"⟩), (2, Cond.privateMethod ⟨"LipsVoiceModel", "weighs", "(I)V"⟩), (0, Cond.instanceMethod ⟨"LipsVoiceModel", "weighs", "(I)V"⟩), (2, Cond.privateMethod ⟨"LipsVoiceModel", "takesVoice", "()V"⟩), (0, Cond.instanceMethod ⟨"LipsVoiceModel", "takesVoice", "()V"⟩), (2, Cond.privateMethod ⟨"LipsVoiceModel", "takesFace", "()V"⟩), (0, Cond.instanceMethod ⟨"LipsVoiceModel", "takesFace", "()V"⟩), (2, Cond.privateMethod ⟨"LipsVoiceModel", "takesSurer", "()V"⟩), (0, Cond.instanceMethod ⟨"LipsVoiceModel", "takesSurer", "()V"⟩), (3, Cond.privateMethod ⟨"LipsVoiceModel", "takesOdds", "()V"⟩), (0, Cond.instanceMethod ⟨"LipsVoiceModel", "takesOdds", "()V"⟩), (2, Cond.privateMethod ⟨"LipsVoiceModel", "takesBetween", "()V"⟩), (0, Cond.instanceMethod ⟨"LipsVoiceModel", "takesBetween", "()V"⟩), (6, Cond.privateMethod ⟨"LipsVoiceModel", "chanceOf", "(I)I"⟩), (0, Cond.instanceMethod ⟨"LipsVoiceModel", "chanceOf", "(I)I"⟩), (7, Cond.privateMethod ⟨"LipsVoiceModel", "chanceOfKind", "(I)I"⟩), (0, Cond.instanceMethod ⟨"LipsVoiceModel", "chanceOfKind", "(I)I"⟩), (2, Cond.privateMethod ⟨"LipsVoiceModel", "kindOf", "(I)I"⟩), (0, Cond.instanceMethod ⟨"LipsVoiceModel", "kindOf", "(I)I"⟩), (6, Cond.privateMethod ⟨"LipsVoiceModel", "likeliest", "()I"⟩), (0, Cond.instanceMethod ⟨"LipsVoiceModel", "likeliest", "()I"⟩), (6, Cond.privateMethod ⟨"LipsVoiceModel", "noticedNow", "()I"⟩), (0, Cond.instanceMethod ⟨"LipsVoiceModel", "noticedNow", "()I"⟩), (6, Cond.privateMethod ⟨"LipsVoiceModel", "keepsAnswer", "(IIIII)V"⟩), (0, Cond.instanceMethod ⟨"LipsVoiceModel", "keepsAnswer", "(IIIII)V"⟩)]
theorem lw_xA5 : lw_chk tables_1 lw_xL5 = true := by decide +kernel
def lw_xL6 : List (Nat × Cond) := [(1578, Cond.privateMethod ⟨"LipsVoiceModel", "worksAnswer", "(I)V"⟩), (0, Cond.instanceMethod ⟨"LipsVoiceModel", "worksAnswer", "(I)V"⟩), (6, Cond.privateMethod ⟨"LipsVoiceModel", "fits", "(III)V"⟩), (0, Cond.instanceMethod ⟨"LipsVoiceModel", "fits", "(III)V"⟩), (2, Cond.privateMethod ⟨"LipsVoiceModel", "ones", "(I)V"⟩), (0, Cond.instanceMethod ⟨"LipsVoiceModel", "ones", "(I)V"⟩), (2, Cond.privateMethod ⟨"LipsVoiceModel", "multiplies", "(IJ)V"⟩), (0, Cond.instanceMethod ⟨"LipsVoiceModel", "multiplies", "(IJ)V"⟩), (3, Cond.privateMethod ⟨"LipsVoiceModel", "keeps", "()V"⟩), (0, Cond.instanceMethod ⟨"LipsVoiceModel", "keeps", "()V"⟩), (2, Cond.privateMethod ⟨"LipsVoiceModel", "copies", "(II)V"⟩), (0, Cond.instanceMethod ⟨"LipsVoiceModel", "copies", "(II)V"⟩), (2, Cond.privateMethod ⟨"LipsVoiceModel", "against", "()I"⟩), (0, Cond.instanceMethod ⟨"LipsVoiceModel", "against", "()I"⟩), (2, Cond.privateMethod ⟨"LipsVoiceModel", "joins", "(III)V"⟩), (0, Cond.instanceMethod ⟨"LipsVoiceModel", "joins", "(III)V"⟩), (2, Cond.privateMethod ⟨"LipsVoiceModel", "compares", "(II)I"⟩), (0, Cond.instanceMethod ⟨"LipsVoiceModel", "compares", "(II)I"⟩), (14, Cond.privateMethod ⟨"LipsVoiceModel", "isOf", "(II)Z"⟩), (0, Cond.instanceMethod ⟨"LipsVoiceModel", "isOf", "(II)Z"⟩), (14, Cond.privateMethod ⟨"LipsVoiceModel", "third", "(III)I"⟩), (0, Cond.instanceMethod ⟨"LipsVoiceModel", "third", "(III)I"⟩), (6, Cond.privateMethod ⟨"LipsVoiceModel", "canBe", "(III)Z"⟩), (0, Cond.instanceMethod ⟨"LipsVoiceModel", "canBe", "(III)Z"⟩), (2, Cond.privateMethod ⟨"LipsVoiceModel", "rightOf", "(III)I"⟩), (0, Cond.instanceMethod ⟨"LipsVoiceModel", "rightOf", "(III)I"⟩), (13, Cond.privateMethod ⟨"LipsVoiceModel", "partedNow", "(II)I"⟩), (0, Cond.instanceMethod ⟨"LipsVoiceModel", "partedNow", "(II)I"⟩), (15, Cond.privateMethod ⟨"LipsVoiceModel", "tellsNames", "(III)V"⟩), (0, Cond.instanceMethod ⟨"LipsVoiceModel", "tellsNames", "(III)V"⟩), (12, Cond.privateMethod ⟨"LipsVoiceModel", "draws", "(J)I"⟩), (0, Cond.instanceMethod ⟨"LipsVoiceModel", "draws", "(J)I"⟩)]
theorem lw_xA6 : lw_chk tables_1 lw_xL6 = true := by decide +kernel
theorem lw_q0 : ("LipsVoice$Tokens" ≠ "java/lang/invoke/MethodHandle" ∧ "LipsVoice$Tokens" ≠ "java/lang/invoke/VarHandle") ∧ Cond.instantiable "LipsVoice$Tokens" 5 ∈ tables_1 := ⟨by decide +kernel, lw_chk_ok tables_1 lw_xL0 lw_xA0 _ (List.mem_of_getElem? (i := 1) rfl)⟩
theorem lw_p0 : lw_okq (⟨"LipsVoice$Tokens", "take", "(I)V"⟩, 5) := ⟨lw_q0.1, lw_q0.2, lw_chk_ok tables_1 lw_xL0 lw_xA0 _ (List.mem_of_getElem? (i := 7) rfl), lw_chk_ok tables_1 lw_xL0 lw_xA0 _ (List.mem_of_getElem? (i := 8) rfl)⟩
theorem lw_q1 : ("LipsVoice$SceneReader" ≠ "java/lang/invoke/MethodHandle" ∧ "LipsVoice$SceneReader" ≠ "java/lang/invoke/VarHandle") ∧ Cond.instantiable "LipsVoice$SceneReader" 7 ∈ tables_1 := ⟨by decide +kernel, lw_chk_ok tables_1 lw_xL0 lw_xA0 _ (List.mem_of_getElem? (i := 3) rfl)⟩
theorem lw_p1 : lw_okq (⟨"LipsVoice$SceneReader", "readStatement", "()Z"⟩, 7) := ⟨lw_q1.1, lw_q1.2, lw_chk_ok tables_1 lw_xL0 lw_xA0 _ (List.mem_of_getElem? (i := 9) rfl), lw_chk_ok tables_1 lw_xL0 lw_xA0 _ (List.mem_of_getElem? (i := 10) rfl)⟩
theorem lw_p2 : lw_okq (⟨"LipsVoice$SceneReader", "readSound", "()Z"⟩, 7) := ⟨lw_q1.1, lw_q1.2, lw_chk_ok tables_1 lw_xL0 lw_xA0 _ (List.mem_of_getElem? (i := 11) rfl), lw_chk_ok tables_1 lw_xL0 lw_xA0 _ (List.mem_of_getElem? (i := 12) rfl)⟩
theorem lw_p3 : lw_okq (⟨"LipsVoice$SceneReader", "findName", "()I"⟩, 7) := ⟨lw_q1.1, lw_q1.2, lw_chk_ok tables_1 lw_xL0 lw_xA0 _ (List.mem_of_getElem? (i := 13) rfl), lw_chk_ok tables_1 lw_xL0 lw_xA0 _ (List.mem_of_getElem? (i := 14) rfl)⟩
theorem lw_p4 : lw_okq (⟨"LipsVoice$SceneReader", "closes", "()Z"⟩, 7) := ⟨lw_q1.1, lw_q1.2, lw_chk_ok tables_1 lw_xL0 lw_xA0 _ (List.mem_of_getElem? (i := 15) rfl), lw_chk_ok tables_1 lw_xL0 lw_xA0 _ (List.mem_of_getElem? (i := 16) rfl)⟩
theorem lw_p5 : lw_okq (⟨"LipsVoice$SceneReader", "readVoice", "()Z"⟩, 7) := ⟨lw_q1.1, lw_q1.2, lw_chk_ok tables_1 lw_xL0 lw_xA0 _ (List.mem_of_getElem? (i := 17) rfl), lw_chk_ok tables_1 lw_xL0 lw_xA0 _ (List.mem_of_getElem? (i := 18) rfl)⟩
theorem lw_p6 : lw_okq (⟨"LipsVoice$SceneReader", "readNumbers", "(IIII)Z"⟩, 7) := ⟨lw_q1.1, lw_q1.2, lw_chk_ok tables_1 lw_xL0 lw_xA0 _ (List.mem_of_getElem? (i := 19) rfl), lw_chk_ok tables_1 lw_xL0 lw_xA0 _ (List.mem_of_getElem? (i := 20) rfl)⟩
theorem lw_p7 : lw_okq (⟨"LipsVoice$SceneReader", "readFace", "()Z"⟩, 7) := ⟨lw_q1.1, lw_q1.2, lw_chk_ok tables_1 lw_xL0 lw_xA0 _ (List.mem_of_getElem? (i := 21) rfl), lw_chk_ok tables_1 lw_xL0 lw_xA0 _ (List.mem_of_getElem? (i := 22) rfl)⟩
theorem lw_p8 : lw_okq (⟨"LipsVoice$SceneReader", "readOdds", "()Z"⟩, 7) := ⟨lw_q1.1, lw_q1.2, lw_chk_ok tables_1 lw_xL0 lw_xA0 _ (List.mem_of_getElem? (i := 23) rfl), lw_chk_ok tables_1 lw_xL0 lw_xA0 _ (List.mem_of_getElem? (i := 24) rfl)⟩
theorem lw_p9 : lw_okq (⟨"LipsVoice$SceneReader", "readHold", "()Z"⟩, 7) := ⟨lw_q1.1, lw_q1.2, lw_chk_ok tables_1 lw_xL0 lw_xA0 _ (List.mem_of_getElem? (i := 25) rfl), lw_chk_ok tables_1 lw_xL0 lw_xA0 _ (List.mem_of_getElem? (i := 26) rfl)⟩
theorem lw_p10 : lw_okq (⟨"LipsVoice$SceneReader", "readLearn", "()Z"⟩, 7) := ⟨lw_q1.1, lw_q1.2, lw_chk_ok tables_1 lw_xL0 lw_xA0 _ (List.mem_of_getElem? (i := 27) rfl), lw_chk_ok tables_1 lw_xL0 lw_xA0 _ (List.mem_of_getElem? (i := 28) rfl)⟩
theorem lw_q2 : ("LipsVoice$RulesReader" ≠ "java/lang/invoke/MethodHandle" ∧ "LipsVoice$RulesReader" ≠ "java/lang/invoke/VarHandle") ∧ Cond.instantiable "LipsVoice$RulesReader" 2 ∈ tables_1 := ⟨by decide +kernel, lw_chk_ok tables_1 lw_xL0 lw_xA0 _ (List.mem_of_getElem? (i := 4) rfl)⟩
theorem lw_p11 : lw_okq (⟨"LipsVoice$RulesReader", "readLine", "()Z"⟩, 2) := ⟨lw_q2.1, lw_q2.2, lw_chk_ok tables_1 lw_xL0 lw_xA0 _ (List.mem_of_getElem? (i := 29) rfl), lw_chk_ok tables_1 lw_xL0 lw_xA0 _ (List.mem_of_getElem? (i := 30) rfl)⟩
theorem lw_p12 : lw_okq (⟨"LipsVoice$RulesReader", "readHead", "()Z"⟩, 2) := ⟨lw_q2.1, lw_q2.2, lw_chk_ok tables_1 lw_xL0 lw_xA0 _ (List.mem_of_getElem? (i := 31) rfl), lw_chk_ok tables_1 lw_xL1 lw_xA1 _ (List.mem_of_getElem? (i := 0) rfl)⟩
theorem lw_p13 : lw_okq (⟨"LipsVoice$RulesReader", "outcomeOfWord", "()I"⟩, 2) := ⟨lw_q2.1, lw_q2.2, lw_chk_ok tables_1 lw_xL1 lw_xA1 _ (List.mem_of_getElem? (i := 1) rfl), lw_chk_ok tables_1 lw_xL1 lw_xA1 _ (List.mem_of_getElem? (i := 2) rfl)⟩
theorem lw_p14 : lw_okq (⟨"LipsVoice$RulesReader", "readSum", "(I)Z"⟩, 2) := ⟨lw_q2.1, lw_q2.2, lw_chk_ok tables_1 lw_xL1 lw_xA1 _ (List.mem_of_getElem? (i := 3) rfl), lw_chk_ok tables_1 lw_xL1 lw_xA1 _ (List.mem_of_getElem? (i := 4) rfl)⟩
theorem lw_p15 : lw_okq (⟨"LipsVoice$RulesReader", "readProduct", "(I)Z"⟩, 2) := ⟨lw_q2.1, lw_q2.2, lw_chk_ok tables_1 lw_xL1 lw_xA1 _ (List.mem_of_getElem? (i := 5) rfl), lw_chk_ok tables_1 lw_xL1 lw_xA1 _ (List.mem_of_getElem? (i := 6) rfl)⟩
def lw_privs_1 : List (MethodName × Nat) := [(⟨"LipsVoice$Tokens", "take", "(I)V"⟩, 5), (⟨"LipsVoice$SceneReader", "readStatement", "()Z"⟩, 7), (⟨"LipsVoice$SceneReader", "readSound", "()Z"⟩, 7), (⟨"LipsVoice$SceneReader", "findName", "()I"⟩, 7), (⟨"LipsVoice$SceneReader", "closes", "()Z"⟩, 7), (⟨"LipsVoice$SceneReader", "readVoice", "()Z"⟩, 7), (⟨"LipsVoice$SceneReader", "readNumbers", "(IIII)Z"⟩, 7), (⟨"LipsVoice$SceneReader", "readFace", "()Z"⟩, 7), (⟨"LipsVoice$SceneReader", "readOdds", "()Z"⟩, 7), (⟨"LipsVoice$SceneReader", "readHold", "()Z"⟩, 7), (⟨"LipsVoice$SceneReader", "readLearn", "()Z"⟩, 7), (⟨"LipsVoice$RulesReader", "readLine", "()Z"⟩, 2), (⟨"LipsVoice$RulesReader", "readHead", "()Z"⟩, 2), (⟨"LipsVoice$RulesReader", "outcomeOfWord", "()I"⟩, 2), (⟨"LipsVoice$RulesReader", "readSum", "(I)Z"⟩, 2), (⟨"LipsVoice$RulesReader", "readProduct", "(I)Z"⟩, 2)]
theorem lw_r1 : ∀ q ∈ lw_privs_1, lw_okq q := List.forall_mem_cons.mpr ⟨lw_p0, List.forall_mem_cons.mpr ⟨lw_p1, List.forall_mem_cons.mpr ⟨lw_p2, List.forall_mem_cons.mpr ⟨lw_p3, List.forall_mem_cons.mpr ⟨lw_p4, List.forall_mem_cons.mpr ⟨lw_p5, List.forall_mem_cons.mpr ⟨lw_p6, List.forall_mem_cons.mpr ⟨lw_p7, List.forall_mem_cons.mpr ⟨lw_p8, List.forall_mem_cons.mpr ⟨lw_p9, List.forall_mem_cons.mpr ⟨lw_p10, List.forall_mem_cons.mpr ⟨lw_p11, List.forall_mem_cons.mpr ⟨lw_p12, List.forall_mem_cons.mpr ⟨lw_p13, List.forall_mem_cons.mpr ⟨lw_p14, List.forall_mem_cons.mpr ⟨lw_p15, fun _ h => absurd h List.not_mem_nil⟩⟩⟩⟩⟩⟩⟩⟩⟩⟩⟩⟩⟩⟩⟩⟩
theorem lw_p16 : lw_okq (⟨"LipsVoice$RulesReader", "readFactor", "(I)Z"⟩, 2) := ⟨lw_q2.1, lw_q2.2, lw_chk_ok tables_1 lw_xL1 lw_xA1 _ (List.mem_of_getElem? (i := 7) rfl), lw_chk_ok tables_1 lw_xL1 lw_xA1 _ (List.mem_of_getElem? (i := 8) rfl)⟩
theorem lw_p17 : lw_okq (⟨"LipsVoice$RulesReader", "codeOfToken", "()I"⟩, 2) := ⟨lw_q2.1, lw_q2.2, lw_chk_ok tables_1 lw_xL1 lw_xA1 _ (List.mem_of_getElem? (i := 9) rfl), lw_chk_ok tables_1 lw_xL1 lw_xA1 _ (List.mem_of_getElem? (i := 10) rfl)⟩
theorem lw_p18 : lw_okq (⟨"LipsVoice$RulesReader", "isComparison", "()Z"⟩, 2) := ⟨lw_q2.1, lw_q2.2, lw_chk_ok tables_1 lw_xL1 lw_xA1 _ (List.mem_of_getElem? (i := 11) rfl), lw_chk_ok tables_1 lw_xL1 lw_xA1 _ (List.mem_of_getElem? (i := 12) rfl)⟩
theorem lw_q3 : ("LipsVoice" ≠ "java/lang/invoke/MethodHandle" ∧ "LipsVoice" ≠ "java/lang/invoke/VarHandle") ∧ Cond.instantiable "LipsVoice" 17 ∈ tables_1 := ⟨by decide +kernel, lw_chk_ok tables_1 lw_xL0 lw_xA0 _ (List.mem_of_getElem? (i := 0) rfl)⟩
theorem lw_p19 : lw_okq (⟨"LipsVoice", "isSound", "(I)Z"⟩, 17) := ⟨lw_q3.1, lw_q3.2, lw_chk_ok tables_1 lw_xL1 lw_xA1 _ (List.mem_of_getElem? (i := 13) rfl), lw_chk_ok tables_1 lw_xL1 lw_xA1 _ (List.mem_of_getElem? (i := 14) rfl)⟩
theorem lw_p20 : lw_okq (⟨"LipsVoice", "hasScene", "()Z"⟩, 17) := ⟨lw_q3.1, lw_q3.2, lw_chk_ok tables_1 lw_xL1 lw_xA1 _ (List.mem_of_getElem? (i := 15) rfl), lw_chk_ok tables_1 lw_xL1 lw_xA1 _ (List.mem_of_getElem? (i := 16) rfl)⟩
theorem lw_p21 : lw_okq (⟨"LipsVoice", "isPerson", "(I)Z"⟩, 17) := ⟨lw_q3.1, lw_q3.2, lw_chk_ok tables_1 lw_xL1 lw_xA1 _ (List.mem_of_getElem? (i := 17) rfl), lw_chk_ok tables_1 lw_xL1 lw_xA1 _ (List.mem_of_getElem? (i := 18) rfl)⟩
theorem lw_p22 : lw_okq (⟨"LipsVoice", "weighs", "(IIII)Z"⟩, 17) := ⟨lw_q3.1, lw_q3.2, lw_chk_ok tables_1 lw_xL1 lw_xA1 _ (List.mem_of_getElem? (i := 19) rfl), lw_chk_ok tables_1 lw_xL1 lw_xA1 _ (List.mem_of_getElem? (i := 20) rfl)⟩
theorem lw_p23 : lw_okq (⟨"LipsVoice", "isTrial", "(III)Z"⟩, 17) := ⟨lw_q3.1, lw_q3.2, lw_chk_ok tables_1 lw_xL1 lw_xA1 _ (List.mem_of_getElem? (i := 21) rfl), lw_chk_ok tables_1 lw_xL1 lw_xA1 _ (List.mem_of_getElem? (i := 22) rfl)⟩
theorem lw_p24 : lw_okq (⟨"LipsVoice", "pose", "(III)V"⟩, 17) := ⟨lw_q3.1, lw_q3.2, lw_chk_ok tables_1 lw_xL1 lw_xA1 _ (List.mem_of_getElem? (i := 23) rfl), lw_chk_ok tables_1 lw_xL1 lw_xA1 _ (List.mem_of_getElem? (i := 24) rfl)⟩
theorem lw_p25 : lw_okq (⟨"LipsVoice", "poseAs", "(IIII)V"⟩, 17) := ⟨lw_q3.1, lw_q3.2, lw_chk_ok tables_1 lw_xL1 lw_xA1 _ (List.mem_of_getElem? (i := 25) rfl), lw_chk_ok tables_1 lw_xL1 lw_xA1 _ (List.mem_of_getElem? (i := 26) rfl)⟩
theorem lw_q4 : ("LipsVoice$Trial" ≠ "java/lang/invoke/MethodHandle" ∧ "LipsVoice$Trial" ≠ "java/lang/invoke/VarHandle") ∧ Cond.instantiable "LipsVoice$Trial" 16 ∈ tables_1 := ⟨by decide +kernel, lw_chk_ok tables_1 lw_xL0 lw_xA0 _ (List.mem_of_getElem? (i := 5) rfl)⟩
theorem lw_p26 : lw_okq (⟨"LipsVoice$Trial", "farFrom", "(III)I"⟩, 16) := ⟨lw_q4.1, lw_q4.2, lw_chk_ok tables_1 lw_xL1 lw_xA1 _ (List.mem_of_getElem? (i := 27) rfl), lw_chk_ok tables_1 lw_xL1 lw_xA1 _ (List.mem_of_getElem? (i := 28) rfl)⟩
theorem lw_p27 : lw_okq (⟨"LipsVoice$Trial", "weighFace", "()V"⟩, 16) := ⟨lw_q4.1, lw_q4.2, lw_chk_ok tables_1 lw_xL1 lw_xA1 _ (List.mem_of_getElem? (i := 29) rfl), lw_chk_ok tables_1 lw_xL1 lw_xA1 _ (List.mem_of_getElem? (i := 30) rfl)⟩
theorem lw_p28 : lw_okq (⟨"LipsVoice$Trial", "weighSurer", "()V"⟩, 16) := ⟨lw_q4.1, lw_q4.2, lw_chk_ok tables_1 lw_xL1 lw_xA1 _ (List.mem_of_getElem? (i := 31) rfl), lw_chk_ok tables_1 lw_xL2 lw_xA2 _ (List.mem_of_getElem? (i := 0) rfl)⟩
theorem lw_p29 : lw_okq (⟨"LipsVoice$Trial", "greatestWeight", "()J"⟩, 16) := ⟨lw_q4.1, lw_q4.2, lw_chk_ok tables_1 lw_xL2 lw_xA2 _ (List.mem_of_getElem? (i := 1) rfl), lw_chk_ok tables_1 lw_xL2 lw_xA2 _ (List.mem_of_getElem? (i := 2) rfl)⟩
theorem lw_p30 : lw_okq (⟨"LipsVoice$Trial", "weighVoice", "()V"⟩, 16) := ⟨lw_q4.1, lw_q4.2, lw_chk_ok tables_1 lw_xL2 lw_xA2 _ (List.mem_of_getElem? (i := 3) rfl), lw_chk_ok tables_1 lw_xL2 lw_xA2 _ (List.mem_of_getElem? (i := 4) rfl)⟩
theorem lw_p31 : lw_okq (⟨"LipsVoice$Trial", "weighOne", "()V"⟩, 16) := ⟨lw_q4.1, lw_q4.2, lw_chk_ok tables_1 lw_xL2 lw_xA2 _ (List.mem_of_getElem? (i := 5) rfl), lw_chk_ok tables_1 lw_xL2 lw_xA2 _ (List.mem_of_getElem? (i := 6) rfl)⟩
def lw_privs_2 : List (MethodName × Nat) := [(⟨"LipsVoice$RulesReader", "readFactor", "(I)Z"⟩, 2), (⟨"LipsVoice$RulesReader", "codeOfToken", "()I"⟩, 2), (⟨"LipsVoice$RulesReader", "isComparison", "()Z"⟩, 2), (⟨"LipsVoice", "isSound", "(I)Z"⟩, 17), (⟨"LipsVoice", "hasScene", "()Z"⟩, 17), (⟨"LipsVoice", "isPerson", "(I)Z"⟩, 17), (⟨"LipsVoice", "weighs", "(IIII)Z"⟩, 17), (⟨"LipsVoice", "isTrial", "(III)Z"⟩, 17), (⟨"LipsVoice", "pose", "(III)V"⟩, 17), (⟨"LipsVoice", "poseAs", "(IIII)V"⟩, 17), (⟨"LipsVoice$Trial", "farFrom", "(III)I"⟩, 16), (⟨"LipsVoice$Trial", "weighFace", "()V"⟩, 16), (⟨"LipsVoice$Trial", "weighSurer", "()V"⟩, 16), (⟨"LipsVoice$Trial", "greatestWeight", "()J"⟩, 16), (⟨"LipsVoice$Trial", "weighVoice", "()V"⟩, 16), (⟨"LipsVoice$Trial", "weighOne", "()V"⟩, 16)]
theorem lw_r2 : ∀ q ∈ lw_privs_2, lw_okq q := List.forall_mem_cons.mpr ⟨lw_p16, List.forall_mem_cons.mpr ⟨lw_p17, List.forall_mem_cons.mpr ⟨lw_p18, List.forall_mem_cons.mpr ⟨lw_p19, List.forall_mem_cons.mpr ⟨lw_p20, List.forall_mem_cons.mpr ⟨lw_p21, List.forall_mem_cons.mpr ⟨lw_p22, List.forall_mem_cons.mpr ⟨lw_p23, List.forall_mem_cons.mpr ⟨lw_p24, List.forall_mem_cons.mpr ⟨lw_p25, List.forall_mem_cons.mpr ⟨lw_p26, List.forall_mem_cons.mpr ⟨lw_p27, List.forall_mem_cons.mpr ⟨lw_p28, List.forall_mem_cons.mpr ⟨lw_p29, List.forall_mem_cons.mpr ⟨lw_p30, List.forall_mem_cons.mpr ⟨lw_p31, fun _ h => absurd h List.not_mem_nil⟩⟩⟩⟩⟩⟩⟩⟩⟩⟩⟩⟩⟩⟩⟩⟩
theorem lw_p32 : lw_okq (⟨"LipsVoice$Trial", "weighOdds", "()V"⟩, 16) := ⟨lw_q4.1, lw_q4.2, lw_chk_ok tables_1 lw_xL2 lw_xA2 _ (List.mem_of_getElem? (i := 7) rfl), lw_chk_ok tables_1 lw_xL2 lw_xA2 _ (List.mem_of_getElem? (i := 8) rfl)⟩
theorem lw_p33 : lw_okq (⟨"LipsVoice$Trial", "weighLearnt", "()V"⟩, 16) := ⟨lw_q4.1, lw_q4.2, lw_chk_ok tables_1 lw_xL2 lw_xA2 _ (List.mem_of_getElem? (i := 9) rfl), lw_chk_ok tables_1 lw_xL2 lw_xA2 _ (List.mem_of_getElem? (i := 10) rfl)⟩
theorem lw_p34 : lw_okq (⟨"LipsVoice$Trial", "weighSingle", "(I)V"⟩, 16) := ⟨lw_q4.1, lw_q4.2, lw_chk_ok tables_1 lw_xL2 lw_xA2 _ (List.mem_of_getElem? (i := 11) rfl), lw_chk_ok tables_1 lw_xL2 lw_xA2 _ (List.mem_of_getElem? (i := 12) rfl)⟩
theorem lw_p35 : lw_okq (⟨"LipsVoice$Trial", "soundBetween", "()I"⟩, 16) := ⟨lw_q4.1, lw_q4.2, lw_chk_ok tables_1 lw_xL2 lw_xA2 _ (List.mem_of_getElem? (i := 13) rfl), lw_chk_ok tables_1 lw_xL2 lw_xA2 _ (List.mem_of_getElem? (i := 14) rfl)⟩
theorem lw_p36 : lw_okq (⟨"LipsVoice", "isPersonOrAll", "(I)Z"⟩, 17) := ⟨lw_q3.1, lw_q3.2, lw_chk_ok tables_1 lw_xL2 lw_xA2 _ (List.mem_of_getElem? (i := 15) rfl), lw_chk_ok tables_1 lw_xL2 lw_xA2 _ (List.mem_of_getElem? (i := 16) rfl)⟩
theorem lw_p37 : lw_okq (⟨"LipsVoice", "gather", "(LLipsVoice$Chances;II)V"⟩, 17) := ⟨lw_q3.1, lw_q3.2, lw_chk_ok tables_1 lw_xL2 lw_xA2 _ (List.mem_of_getElem? (i := 17) rfl), lw_chk_ok tables_1 lw_xL2 lw_xA2 _ (List.mem_of_getElem? (i := 18) rfl)⟩
theorem lw_q5 : ("LipsVoice$Scale" ≠ "java/lang/invoke/MethodHandle" ∧ "LipsVoice$Scale" ≠ "java/lang/invoke/VarHandle") ∧ Cond.instantiable "LipsVoice$Scale" 2 ∈ tables_1 := ⟨by decide +kernel, lw_chk_ok tables_1 lw_xL0 lw_xA0 _ (List.mem_of_getElem? (i := 6) rfl)⟩
theorem lw_p38 : lw_okq (⟨"LipsVoice$Scale", "compareExactly", "(LLipsVoice$Chances;LLipsVoice$Chances;I)I"⟩, 2) := ⟨lw_q5.1, lw_q5.2, lw_chk_ok tables_1 lw_xL2 lw_xA2 _ (List.mem_of_getElem? (i := 19) rfl), lw_chk_ok tables_1 lw_xL2 lw_xA2 _ (List.mem_of_getElem? (i := 20) rfl)⟩
theorem lw_p39 : lw_okq (⟨"LipsVoice", "keepsTried", "()Z"⟩, 17) := ⟨lw_q3.1, lw_q3.2, lw_chk_ok tables_1 lw_xL2 lw_xA2 _ (List.mem_of_getElem? (i := 21) rfl), lw_chk_ok tables_1 lw_xL2 lw_xA2 _ (List.mem_of_getElem? (i := 22) rfl)⟩
theorem lw_p40 : lw_okq (⟨"LipsVoice", "findOwnOdds", "(I)I"⟩, 17) := ⟨lw_q3.1, lw_q3.2, lw_chk_ok tables_1 lw_xL2 lw_xA2 _ (List.mem_of_getElem? (i := 23) rfl), lw_chk_ok tables_1 lw_xL2 lw_xA2 _ (List.mem_of_getElem? (i := 24) rfl)⟩
theorem lw_p41 : lw_okq (⟨"LipsVoice", "gatherOdds", "(LLipsVoice$Chances;IIII)V"⟩, 17) := ⟨lw_q3.1, lw_q3.2, lw_chk_ok tables_1 lw_xL2 lw_xA2 _ (List.mem_of_getElem? (i := 25) rfl), lw_chk_ok tables_1 lw_xL2 lw_xA2 _ (List.mem_of_getElem? (i := 26) rfl)⟩
theorem lw_p42 : lw_okq (⟨"LipsVoice", "findOwnSpans", "(I)V"⟩, 17) := ⟨lw_q3.1, lw_q3.2, lw_chk_ok tables_1 lw_xL2 lw_xA2 _ (List.mem_of_getElem? (i := 27) rfl), lw_chk_ok tables_1 lw_xL2 lw_xA2 _ (List.mem_of_getElem? (i := 28) rfl)⟩
theorem lw_p43 : lw_okq (⟨"LipsVoice", "trySpans", "(III)V"⟩, 17) := ⟨lw_q3.1, lw_q3.2, lw_chk_ok tables_1 lw_xL2 lw_xA2 _ (List.mem_of_getElem? (i := 29) rfl), lw_chk_ok tables_1 lw_xL2 lw_xA2 _ (List.mem_of_getElem? (i := 30) rfl)⟩
theorem lw_p44 : lw_okq (⟨"LipsVoice", "countOfLand", "(I)I"⟩, 17) := ⟨lw_q3.1, lw_q3.2, lw_chk_ok tables_1 lw_xL2 lw_xA2 _ (List.mem_of_getElem? (i := 31) rfl), lw_chk_ok tables_1 lw_xL3 lw_xA3 _ (List.mem_of_getElem? (i := 0) rfl)⟩
theorem lw_p45 : lw_okq (⟨"LipsVoice", "isOfLand", "(II)Z"⟩, 17) := ⟨lw_q3.1, lw_q3.2, lw_chk_ok tables_1 lw_xL3 lw_xA3 _ (List.mem_of_getElem? (i := 1) rfl), lw_chk_ok tables_1 lw_xL3 lw_xA3 _ (List.mem_of_getElem? (i := 2) rfl)⟩
theorem lw_p46 : lw_okq (⟨"LipsVoice", "isPair", "(IIII)Z"⟩, 17) := ⟨lw_q3.1, lw_q3.2, lw_chk_ok tables_1 lw_xL3 lw_xA3 _ (List.mem_of_getElem? (i := 3) rfl), lw_chk_ok tables_1 lw_xL3 lw_xA3 _ (List.mem_of_getElem? (i := 4) rfl)⟩
theorem lw_p47 : lw_okq (⟨"LipsVoice", "sumRight", "(III)I"⟩, 17) := ⟨lw_q3.1, lw_q3.2, lw_chk_ok tables_1 lw_xL3 lw_xA3 _ (List.mem_of_getElem? (i := 5) rfl), lw_chk_ok tables_1 lw_xL3 lw_xA3 _ (List.mem_of_getElem? (i := 6) rfl)⟩
def lw_privs_3 : List (MethodName × Nat) := [(⟨"LipsVoice$Trial", "weighOdds", "()V"⟩, 16), (⟨"LipsVoice$Trial", "weighLearnt", "()V"⟩, 16), (⟨"LipsVoice$Trial", "weighSingle", "(I)V"⟩, 16), (⟨"LipsVoice$Trial", "soundBetween", "()I"⟩, 16), (⟨"LipsVoice", "isPersonOrAll", "(I)Z"⟩, 17), (⟨"LipsVoice", "gather", "(LLipsVoice$Chances;II)V"⟩, 17), (⟨"LipsVoice$Scale", "compareExactly", "(LLipsVoice$Chances;LLipsVoice$Chances;I)I"⟩, 2), (⟨"LipsVoice", "keepsTried", "()Z"⟩, 17), (⟨"LipsVoice", "findOwnOdds", "(I)I"⟩, 17), (⟨"LipsVoice", "gatherOdds", "(LLipsVoice$Chances;IIII)V"⟩, 17), (⟨"LipsVoice", "findOwnSpans", "(I)V"⟩, 17), (⟨"LipsVoice", "trySpans", "(III)V"⟩, 17), (⟨"LipsVoice", "countOfLand", "(I)I"⟩, 17), (⟨"LipsVoice", "isOfLand", "(II)Z"⟩, 17), (⟨"LipsVoice", "isPair", "(IIII)Z"⟩, 17), (⟨"LipsVoice", "sumRight", "(III)I"⟩, 17)]
theorem lw_r3 : ∀ q ∈ lw_privs_3, lw_okq q := List.forall_mem_cons.mpr ⟨lw_p32, List.forall_mem_cons.mpr ⟨lw_p33, List.forall_mem_cons.mpr ⟨lw_p34, List.forall_mem_cons.mpr ⟨lw_p35, List.forall_mem_cons.mpr ⟨lw_p36, List.forall_mem_cons.mpr ⟨lw_p37, List.forall_mem_cons.mpr ⟨lw_p38, List.forall_mem_cons.mpr ⟨lw_p39, List.forall_mem_cons.mpr ⟨lw_p40, List.forall_mem_cons.mpr ⟨lw_p41, List.forall_mem_cons.mpr ⟨lw_p42, List.forall_mem_cons.mpr ⟨lw_p43, List.forall_mem_cons.mpr ⟨lw_p44, List.forall_mem_cons.mpr ⟨lw_p45, List.forall_mem_cons.mpr ⟨lw_p46, List.forall_mem_cons.mpr ⟨lw_p47, fun _ h => absurd h List.not_mem_nil⟩⟩⟩⟩⟩⟩⟩⟩⟩⟩⟩⟩⟩⟩⟩⟩
theorem lw_p48 : lw_okq (⟨"LipsVoice", "fillAtoms", "(I)V"⟩, 17) := ⟨lw_q3.1, lw_q3.2, lw_chk_ok tables_1 lw_xL3 lw_xA3 _ (List.mem_of_getElem? (i := 7) rfl), lw_chk_ok tables_1 lw_xL3 lw_xA3 _ (List.mem_of_getElem? (i := 8) rfl)⟩
theorem lw_q6 : ("LipsVoice$Rules" ≠ "java/lang/invoke/MethodHandle" ∧ "LipsVoice$Rules" ≠ "java/lang/invoke/VarHandle") ∧ Cond.instantiable "LipsVoice$Rules" 8 ∈ tables_1 := ⟨by decide +kernel, lw_chk_ok tables_1 lw_xL0 lw_xA0 _ (List.mem_of_getElem? (i := 2) rfl)⟩
theorem lw_p49 : lw_okq (⟨"LipsVoice$Rules", "push", "(J)V"⟩, 8) := ⟨lw_q6.1, lw_q6.2, lw_chk_ok tables_1 lw_xL3 lw_xA3 _ (List.mem_of_getElem? (i := 9) rfl), lw_chk_ok tables_1 lw_xL3 lw_xA3 _ (List.mem_of_getElem? (i := 10) rfl)⟩
theorem lw_p50 : lw_okq (⟨"LipsVoice$Rules", "applies", "(I)Z"⟩, 8) := ⟨lw_q6.1, lw_q6.2, lw_chk_ok tables_1 lw_xL3 lw_xA3 _ (List.mem_of_getElem? (i := 11) rfl), lw_chk_ok tables_1 lw_xL3 lw_xA3 _ (List.mem_of_getElem? (i := 12) rfl)⟩
theorem lw_p51 : lw_okq (⟨"LipsVoice$Rules", "pop", "()J"⟩, 8) := ⟨lw_q6.1, lw_q6.2, lw_chk_ok tables_1 lw_xL3 lw_xA3 _ (List.mem_of_getElem? (i := 13) rfl), lw_chk_ok tables_1 lw_xL3 lw_xA3 _ (List.mem_of_getElem? (i := 14) rfl)⟩
theorem lw_p52 : lw_okq (⟨"LipsVoice", "drawAnswer", "(II)V"⟩, 17) := ⟨lw_q3.1, lw_q3.2, lw_chk_ok tables_1 lw_xL3 lw_xA3 _ (List.mem_of_getElem? (i := 15) rfl), lw_chk_ok tables_1 lw_xL3 lw_xA3 _ (List.mem_of_getElem? (i := 16) rfl)⟩
theorem lw_p53 : lw_okq (⟨"LipsVoice", "lotBelow", "(J)I"⟩, 17) := ⟨lw_q3.1, lw_q3.2, lw_chk_ok tables_1 lw_xL3 lw_xA3 _ (List.mem_of_getElem? (i := 17) rfl), lw_chk_ok tables_1 lw_xL3 lw_xA3 _ (List.mem_of_getElem? (i := 18) rfl)⟩
theorem lw_q7 : ("LipsVoiceModel" ≠ "java/lang/invoke/MethodHandle" ∧ "LipsVoiceModel" ≠ "java/lang/invoke/VarHandle") ∧ Cond.instantiable "LipsVoiceModel" 58 ∈ tables_1 := ⟨by decide +kernel, lw_chk_ok tables_1 lw_xL3 lw_xA3 _ (List.mem_of_getElem? (i := 19) rfl)⟩
theorem lw_p54 : lw_okq (⟨"LipsVoiceModel", "sceneFault", "()I"⟩, 58) := ⟨lw_q7.1, lw_q7.2, lw_chk_ok tables_1 lw_xL3 lw_xA3 _ (List.mem_of_getElem? (i := 20) rfl), lw_chk_ok tables_1 lw_xL3 lw_xA3 _ (List.mem_of_getElem? (i := 21) rfl)⟩
theorem lw_p55 : lw_okq (⟨"LipsVoiceModel", "leads", "()V"⟩, 58) := ⟨lw_q7.1, lw_q7.2, lw_chk_ok tables_1 lw_xL3 lw_xA3 _ (List.mem_of_getElem? (i := 22) rfl), lw_chk_ok tables_1 lw_xL3 lw_xA3 _ (List.mem_of_getElem? (i := 23) rfl)⟩
theorem lw_p56 : lw_okq (⟨"LipsVoiceModel", "sceneLine", "()Z"⟩, 58) := ⟨lw_q7.1, lw_q7.2, lw_chk_ok tables_1 lw_xL3 lw_xA3 _ (List.mem_of_getElem? (i := 24) rfl), lw_chk_ok tables_1 lw_xL3 lw_xA3 _ (List.mem_of_getElem? (i := 25) rfl)⟩
theorem lw_p57 : lw_okq (⟨"LipsVoiceModel", "isWord", "(Ljava/lang/String;)Z"⟩, 58) := ⟨lw_q7.1, lw_q7.2, lw_chk_ok tables_1 lw_xL3 lw_xA3 _ (List.mem_of_getElem? (i := 26) rfl), lw_chk_ok tables_1 lw_xL3 lw_xA3 _ (List.mem_of_getElem? (i := 27) rfl)⟩
theorem lw_p58 : lw_okq (⟨"LipsVoiceModel", "soundLine", "()Z"⟩, 58) := ⟨lw_q7.1, lw_q7.2, lw_chk_ok tables_1 lw_xL3 lw_xA3 _ (List.mem_of_getElem? (i := 28) rfl), lw_chk_ok tables_1 lw_xL3 lw_xA3 _ (List.mem_of_getElem? (i := 29) rfl)⟩
theorem lw_p59 : lw_okq (⟨"LipsVoiceModel", "isName", "()Z"⟩, 58) := ⟨lw_q7.1, lw_q7.2, lw_chk_ok tables_1 lw_xL3 lw_xA3 _ (List.mem_of_getElem? (i := 30) rfl), lw_chk_ok tables_1 lw_xL3 lw_xA3 _ (List.mem_of_getElem? (i := 31) rfl)⟩
theorem lw_p60 : lw_okq (⟨"LipsVoiceModel", "named", "()I"⟩, 58) := ⟨lw_q7.1, lw_q7.2, lw_chk_ok tables_1 lw_xL4 lw_xA4 _ (List.mem_of_getElem? (i := 0) rfl), lw_chk_ok tables_1 lw_xL4 lw_xA4 _ (List.mem_of_getElem? (i := 1) rfl)⟩
theorem lw_p61 : lw_okq (⟨"LipsVoiceModel", "number", "(II)Z"⟩, 58) := ⟨lw_q7.1, lw_q7.2, lw_chk_ok tables_1 lw_xL4 lw_xA4 _ (List.mem_of_getElem? (i := 2) rfl), lw_chk_ok tables_1 lw_xL4 lw_xA4 _ (List.mem_of_getElem? (i := 3) rfl)⟩
theorem lw_p62 : lw_okq (⟨"LipsVoiceModel", "closes", "()Z"⟩, 58) := ⟨lw_q7.1, lw_q7.2, lw_chk_ok tables_1 lw_xL4 lw_xA4 _ (List.mem_of_getElem? (i := 4) rfl), lw_chk_ok tables_1 lw_xL4 lw_xA4 _ (List.mem_of_getElem? (i := 5) rfl)⟩
theorem lw_p63 : lw_okq (⟨"LipsVoiceModel", "isSign", "(I)Z"⟩, 58) := ⟨lw_q7.1, lw_q7.2, lw_chk_ok tables_1 lw_xL4 lw_xA4 _ (List.mem_of_getElem? (i := 6) rfl), lw_chk_ok tables_1 lw_xL4 lw_xA4 _ (List.mem_of_getElem? (i := 7) rfl)⟩
def lw_privs_4 : List (MethodName × Nat) := [(⟨"LipsVoice", "fillAtoms", "(I)V"⟩, 17), (⟨"LipsVoice$Rules", "push", "(J)V"⟩, 8), (⟨"LipsVoice$Rules", "applies", "(I)Z"⟩, 8), (⟨"LipsVoice$Rules", "pop", "()J"⟩, 8), (⟨"LipsVoice", "drawAnswer", "(II)V"⟩, 17), (⟨"LipsVoice", "lotBelow", "(J)I"⟩, 17), (⟨"LipsVoiceModel", "sceneFault", "()I"⟩, 58), (⟨"LipsVoiceModel", "leads", "()V"⟩, 58), (⟨"LipsVoiceModel", "sceneLine", "()Z"⟩, 58), (⟨"LipsVoiceModel", "isWord", "(Ljava/lang/String;)Z"⟩, 58), (⟨"LipsVoiceModel", "soundLine", "()Z"⟩, 58), (⟨"LipsVoiceModel", "isName", "()Z"⟩, 58), (⟨"LipsVoiceModel", "named", "()I"⟩, 58), (⟨"LipsVoiceModel", "number", "(II)Z"⟩, 58), (⟨"LipsVoiceModel", "closes", "()Z"⟩, 58), (⟨"LipsVoiceModel", "isSign", "(I)Z"⟩, 58)]
theorem lw_r4 : ∀ q ∈ lw_privs_4, lw_okq q := List.forall_mem_cons.mpr ⟨lw_p48, List.forall_mem_cons.mpr ⟨lw_p49, List.forall_mem_cons.mpr ⟨lw_p50, List.forall_mem_cons.mpr ⟨lw_p51, List.forall_mem_cons.mpr ⟨lw_p52, List.forall_mem_cons.mpr ⟨lw_p53, List.forall_mem_cons.mpr ⟨lw_p54, List.forall_mem_cons.mpr ⟨lw_p55, List.forall_mem_cons.mpr ⟨lw_p56, List.forall_mem_cons.mpr ⟨lw_p57, List.forall_mem_cons.mpr ⟨lw_p58, List.forall_mem_cons.mpr ⟨lw_p59, List.forall_mem_cons.mpr ⟨lw_p60, List.forall_mem_cons.mpr ⟨lw_p61, List.forall_mem_cons.mpr ⟨lw_p62, List.forall_mem_cons.mpr ⟨lw_p63, fun _ h => absurd h List.not_mem_nil⟩⟩⟩⟩⟩⟩⟩⟩⟩⟩⟩⟩⟩⟩⟩⟩
theorem lw_p64 : lw_okq (⟨"LipsVoiceModel", "spanLine", "(I)Z"⟩, 58) := ⟨lw_q7.1, lw_q7.2, lw_chk_ok tables_1 lw_xL4 lw_xA4 _ (List.mem_of_getElem? (i := 8) rfl), lw_chk_ok tables_1 lw_xL4 lw_xA4 _ (List.mem_of_getElem? (i := 9) rfl)⟩
theorem lw_p65 : lw_okq (⟨"LipsVoiceModel", "oddsLine", "()Z"⟩, 58) := ⟨lw_q7.1, lw_q7.2, lw_chk_ok tables_1 lw_xL4 lw_xA4 _ (List.mem_of_getElem? (i := 10) rfl), lw_chk_ok tables_1 lw_xL4 lw_xA4 _ (List.mem_of_getElem? (i := 11) rfl)⟩
theorem lw_p66 : lw_okq (⟨"LipsVoiceModel", "holdLine", "()Z"⟩, 58) := ⟨lw_q7.1, lw_q7.2, lw_chk_ok tables_1 lw_xL4 lw_xA4 _ (List.mem_of_getElem? (i := 12) rfl), lw_chk_ok tables_1 lw_xL4 lw_xA4 _ (List.mem_of_getElem? (i := 13) rfl)⟩
theorem lw_p67 : lw_okq (⟨"LipsVoiceModel", "learnLine", "()Z"⟩, 58) := ⟨lw_q7.1, lw_q7.2, lw_chk_ok tables_1 lw_xL4 lw_xA4 _ (List.mem_of_getElem? (i := 14) rfl), lw_chk_ok tables_1 lw_xL4 lw_xA4 _ (List.mem_of_getElem? (i := 15) rfl)⟩
theorem lw_p68 : lw_okq (⟨"LipsVoiceModel", "rulesFault", "()I"⟩, 58) := ⟨lw_q7.1, lw_q7.2, lw_chk_ok tables_1 lw_xL4 lw_xA4 _ (List.mem_of_getElem? (i := 16) rfl), lw_chk_ok tables_1 lw_xL4 lw_xA4 _ (List.mem_of_getElem? (i := 17) rfl)⟩
theorem lw_p69 : lw_okq (⟨"LipsVoiceModel", "ruleLine", "()Z"⟩, 58) := ⟨lw_q7.1, lw_q7.2, lw_chk_ok tables_1 lw_xL4 lw_xA4 _ (List.mem_of_getElem? (i := 18) rfl), lw_chk_ok tables_1 lw_xL4 lw_xA4 _ (List.mem_of_getElem? (i := 19) rfl)⟩
theorem lw_p70 : lw_okq (⟨"LipsVoiceModel", "sumHere", "()Z"⟩, 58) := ⟨lw_q7.1, lw_q7.2, lw_chk_ok tables_1 lw_xL4 lw_xA4 _ (List.mem_of_getElem? (i := 20) rfl), lw_chk_ok tables_1 lw_xL4 lw_xA4 _ (List.mem_of_getElem? (i := 21) rfl)⟩
theorem lw_p71 : lw_okq (⟨"LipsVoiceModel", "lays", "(II)V"⟩, 58) := ⟨lw_q7.1, lw_q7.2, lw_chk_ok tables_1 lw_xL4 lw_xA4 _ (List.mem_of_getElem? (i := 22) rfl), lw_chk_ok tables_1 lw_xL4 lw_xA4 _ (List.mem_of_getElem? (i := 23) rfl)⟩
theorem lw_p72 : lw_okq (⟨"LipsVoiceModel", "nameHere", "()I"⟩, 58) := ⟨lw_q7.1, lw_q7.2, lw_chk_ok tables_1 lw_xL4 lw_xA4 _ (List.mem_of_getElem? (i := 24) rfl), lw_chk_ok tables_1 lw_xL4 lw_xA4 _ (List.mem_of_getElem? (i := 25) rfl)⟩
theorem lw_p73 : lw_okq (⟨"LipsVoiceModel", "empties", "(I)V"⟩, 58) := ⟨lw_q7.1, lw_q7.2, lw_chk_ok tables_1 lw_xL4 lw_xA4 _ (List.mem_of_getElem? (i := 26) rfl), lw_chk_ok tables_1 lw_xL4 lw_xA4 _ (List.mem_of_getElem? (i := 27) rfl)⟩
theorem lw_p74 : lw_okq (⟨"LipsVoiceModel", "isPerson", "(I)Z"⟩, 58) := ⟨lw_q7.1, lw_q7.2, lw_chk_ok tables_1 lw_xL4 lw_xA4 _ (List.mem_of_getElem? (i := 28) rfl), lw_chk_ok tables_1 lw_xL4 lw_xA4 _ (List.mem_of_getElem? (i := 29) rfl)⟩
theorem lw_p75 : lw_okq (⟨"LipsVoiceModel", "weighsIf", "(IIII)Z"⟩, 58) := ⟨lw_q7.1, lw_q7.2, lw_chk_ok tables_1 lw_xL4 lw_xA4 _ (List.mem_of_getElem? (i := 30) rfl), lw_chk_ok tables_1 lw_xL4 lw_xA4 _ (List.mem_of_getElem? (i := 31) rfl)⟩
theorem lw_p76 : lw_okq (⟨"LipsVoiceModel", "isTrial", "(III)Z"⟩, 58) := ⟨lw_q7.1, lw_q7.2, lw_chk_ok tables_1 lw_xL5 lw_xA5 _ (List.mem_of_getElem? (i := 0) rfl), lw_chk_ok tables_1 lw_xL5 lw_xA5 _ (List.mem_of_getElem? (i := 1) rfl)⟩
theorem lw_p77 : lw_okq (⟨"LipsVoiceModel", "works", "(III)V"⟩, 58) := ⟨lw_q7.1, lw_q7.2, lw_chk_ok tables_1 lw_xL5 lw_xA5 _ (List.mem_of_getElem? (i := 2) rfl), lw_chk_ok tables_1 lw_xL5 lw_xA5 _ (List.mem_of_getElem? (i := 3) rfl)⟩
theorem lw_p78 : lw_okq (⟨"LipsVoiceModel", "x", "(I)I"⟩, 58) := ⟨lw_q7.1, lw_q7.2, lw_chk_ok tables_1 lw_xL5 lw_xA5 _ (List.mem_of_getElem? (i := 4) rfl), lw_chk_ok tables_1 lw_xL5 lw_xA5 _ (List.mem_of_getElem? (i := 5) rfl)⟩
theorem lw_p79 : lw_okq (⟨"LipsVoiceModel", "y", "(I)I"⟩, 58) := ⟨lw_q7.1, lw_q7.2, lw_chk_ok tables_1 lw_xL5 lw_xA5 _ (List.mem_of_getElem? (i := 6) rfl), lw_chk_ok tables_1 lw_xL5 lw_xA5 _ (List.mem_of_getElem? (i := 7) rfl)⟩
def lw_privs_5 : List (MethodName × Nat) := [(⟨"LipsVoiceModel", "spanLine", "(I)Z"⟩, 58), (⟨"LipsVoiceModel", "oddsLine", "()Z"⟩, 58), (⟨"LipsVoiceModel", "holdLine", "()Z"⟩, 58), (⟨"LipsVoiceModel", "learnLine", "()Z"⟩, 58), (⟨"LipsVoiceModel", "rulesFault", "()I"⟩, 58), (⟨"LipsVoiceModel", "ruleLine", "()Z"⟩, 58), (⟨"LipsVoiceModel", "sumHere", "()Z"⟩, 58), (⟨"LipsVoiceModel", "lays", "(II)V"⟩, 58), (⟨"LipsVoiceModel", "nameHere", "()I"⟩, 58), (⟨"LipsVoiceModel", "empties", "(I)V"⟩, 58), (⟨"LipsVoiceModel", "isPerson", "(I)Z"⟩, 58), (⟨"LipsVoiceModel", "weighsIf", "(IIII)Z"⟩, 58), (⟨"LipsVoiceModel", "isTrial", "(III)Z"⟩, 58), (⟨"LipsVoiceModel", "works", "(III)V"⟩, 58), (⟨"LipsVoiceModel", "x", "(I)I"⟩, 58), (⟨"LipsVoiceModel", "y", "(I)I"⟩, 58)]
theorem lw_r5 : ∀ q ∈ lw_privs_5, lw_okq q := List.forall_mem_cons.mpr ⟨lw_p64, List.forall_mem_cons.mpr ⟨lw_p65, List.forall_mem_cons.mpr ⟨lw_p66, List.forall_mem_cons.mpr ⟨lw_p67, List.forall_mem_cons.mpr ⟨lw_p68, List.forall_mem_cons.mpr ⟨lw_p69, List.forall_mem_cons.mpr ⟨lw_p70, List.forall_mem_cons.mpr ⟨lw_p71, List.forall_mem_cons.mpr ⟨lw_p72, List.forall_mem_cons.mpr ⟨lw_p73, List.forall_mem_cons.mpr ⟨lw_p74, List.forall_mem_cons.mpr ⟨lw_p75, List.forall_mem_cons.mpr ⟨lw_p76, List.forall_mem_cons.mpr ⟨lw_p77, List.forall_mem_cons.mpr ⟨lw_p78, List.forall_mem_cons.mpr ⟨lw_p79, fun _ h => absurd h List.not_mem_nil⟩⟩⟩⟩⟩⟩⟩⟩⟩⟩⟩⟩⟩⟩⟩⟩
theorem lw_p80 : lw_okq (⟨"LipsVoiceModel", "weighs", "(I)V"⟩, 58) := ⟨lw_q7.1, lw_q7.2, lw_chk_ok tables_1 lw_xL5 lw_xA5 _ (List.mem_of_getElem? (i := 8) rfl), lw_chk_ok tables_1 lw_xL5 lw_xA5 _ (List.mem_of_getElem? (i := 9) rfl)⟩
theorem lw_p81 : lw_okq (⟨"LipsVoiceModel", "takesVoice", "()V"⟩, 58) := ⟨lw_q7.1, lw_q7.2, lw_chk_ok tables_1 lw_xL5 lw_xA5 _ (List.mem_of_getElem? (i := 10) rfl), lw_chk_ok tables_1 lw_xL5 lw_xA5 _ (List.mem_of_getElem? (i := 11) rfl)⟩
theorem lw_p82 : lw_okq (⟨"LipsVoiceModel", "takesFace", "()V"⟩, 58) := ⟨lw_q7.1, lw_q7.2, lw_chk_ok tables_1 lw_xL5 lw_xA5 _ (List.mem_of_getElem? (i := 12) rfl), lw_chk_ok tables_1 lw_xL5 lw_xA5 _ (List.mem_of_getElem? (i := 13) rfl)⟩
theorem lw_p83 : lw_okq (⟨"LipsVoiceModel", "takesSurer", "()V"⟩, 58) := ⟨lw_q7.1, lw_q7.2, lw_chk_ok tables_1 lw_xL5 lw_xA5 _ (List.mem_of_getElem? (i := 14) rfl), lw_chk_ok tables_1 lw_xL5 lw_xA5 _ (List.mem_of_getElem? (i := 15) rfl)⟩
theorem lw_p84 : lw_okq (⟨"LipsVoiceModel", "takesOdds", "()V"⟩, 58) := ⟨lw_q7.1, lw_q7.2, lw_chk_ok tables_1 lw_xL5 lw_xA5 _ (List.mem_of_getElem? (i := 16) rfl), lw_chk_ok tables_1 lw_xL5 lw_xA5 _ (List.mem_of_getElem? (i := 17) rfl)⟩
theorem lw_p85 : lw_okq (⟨"LipsVoiceModel", "takesBetween", "()V"⟩, 58) := ⟨lw_q7.1, lw_q7.2, lw_chk_ok tables_1 lw_xL5 lw_xA5 _ (List.mem_of_getElem? (i := 18) rfl), lw_chk_ok tables_1 lw_xL5 lw_xA5 _ (List.mem_of_getElem? (i := 19) rfl)⟩
theorem lw_p86 : lw_okq (⟨"LipsVoiceModel", "chanceOf", "(I)I"⟩, 58) := ⟨lw_q7.1, lw_q7.2, lw_chk_ok tables_1 lw_xL5 lw_xA5 _ (List.mem_of_getElem? (i := 20) rfl), lw_chk_ok tables_1 lw_xL5 lw_xA5 _ (List.mem_of_getElem? (i := 21) rfl)⟩
theorem lw_p87 : lw_okq (⟨"LipsVoiceModel", "chanceOfKind", "(I)I"⟩, 58) := ⟨lw_q7.1, lw_q7.2, lw_chk_ok tables_1 lw_xL5 lw_xA5 _ (List.mem_of_getElem? (i := 22) rfl), lw_chk_ok tables_1 lw_xL5 lw_xA5 _ (List.mem_of_getElem? (i := 23) rfl)⟩
theorem lw_p88 : lw_okq (⟨"LipsVoiceModel", "kindOf", "(I)I"⟩, 58) := ⟨lw_q7.1, lw_q7.2, lw_chk_ok tables_1 lw_xL5 lw_xA5 _ (List.mem_of_getElem? (i := 24) rfl), lw_chk_ok tables_1 lw_xL5 lw_xA5 _ (List.mem_of_getElem? (i := 25) rfl)⟩
theorem lw_p89 : lw_okq (⟨"LipsVoiceModel", "likeliest", "()I"⟩, 58) := ⟨lw_q7.1, lw_q7.2, lw_chk_ok tables_1 lw_xL5 lw_xA5 _ (List.mem_of_getElem? (i := 26) rfl), lw_chk_ok tables_1 lw_xL5 lw_xA5 _ (List.mem_of_getElem? (i := 27) rfl)⟩
theorem lw_p90 : lw_okq (⟨"LipsVoiceModel", "noticedNow", "()I"⟩, 58) := ⟨lw_q7.1, lw_q7.2, lw_chk_ok tables_1 lw_xL5 lw_xA5 _ (List.mem_of_getElem? (i := 28) rfl), lw_chk_ok tables_1 lw_xL5 lw_xA5 _ (List.mem_of_getElem? (i := 29) rfl)⟩
theorem lw_p91 : lw_okq (⟨"LipsVoiceModel", "keepsAnswer", "(IIIII)V"⟩, 58) := ⟨lw_q7.1, lw_q7.2, lw_chk_ok tables_1 lw_xL5 lw_xA5 _ (List.mem_of_getElem? (i := 30) rfl), lw_chk_ok tables_1 lw_xL5 lw_xA5 _ (List.mem_of_getElem? (i := 31) rfl)⟩
theorem lw_p92 : lw_okq (⟨"LipsVoiceModel", "worksAnswer", "(I)V"⟩, 58) := ⟨lw_q7.1, lw_q7.2, lw_chk_ok tables_1 lw_xL6 lw_xA6 _ (List.mem_of_getElem? (i := 0) rfl), lw_chk_ok tables_1 lw_xL6 lw_xA6 _ (List.mem_of_getElem? (i := 1) rfl)⟩
theorem lw_p93 : lw_okq (⟨"LipsVoiceModel", "fits", "(III)V"⟩, 58) := ⟨lw_q7.1, lw_q7.2, lw_chk_ok tables_1 lw_xL6 lw_xA6 _ (List.mem_of_getElem? (i := 2) rfl), lw_chk_ok tables_1 lw_xL6 lw_xA6 _ (List.mem_of_getElem? (i := 3) rfl)⟩
theorem lw_p94 : lw_okq (⟨"LipsVoiceModel", "ones", "(I)V"⟩, 58) := ⟨lw_q7.1, lw_q7.2, lw_chk_ok tables_1 lw_xL6 lw_xA6 _ (List.mem_of_getElem? (i := 4) rfl), lw_chk_ok tables_1 lw_xL6 lw_xA6 _ (List.mem_of_getElem? (i := 5) rfl)⟩
theorem lw_p95 : lw_okq (⟨"LipsVoiceModel", "multiplies", "(IJ)V"⟩, 58) := ⟨lw_q7.1, lw_q7.2, lw_chk_ok tables_1 lw_xL6 lw_xA6 _ (List.mem_of_getElem? (i := 6) rfl), lw_chk_ok tables_1 lw_xL6 lw_xA6 _ (List.mem_of_getElem? (i := 7) rfl)⟩
def lw_privs_6 : List (MethodName × Nat) := [(⟨"LipsVoiceModel", "weighs", "(I)V"⟩, 58), (⟨"LipsVoiceModel", "takesVoice", "()V"⟩, 58), (⟨"LipsVoiceModel", "takesFace", "()V"⟩, 58), (⟨"LipsVoiceModel", "takesSurer", "()V"⟩, 58), (⟨"LipsVoiceModel", "takesOdds", "()V"⟩, 58), (⟨"LipsVoiceModel", "takesBetween", "()V"⟩, 58), (⟨"LipsVoiceModel", "chanceOf", "(I)I"⟩, 58), (⟨"LipsVoiceModel", "chanceOfKind", "(I)I"⟩, 58), (⟨"LipsVoiceModel", "kindOf", "(I)I"⟩, 58), (⟨"LipsVoiceModel", "likeliest", "()I"⟩, 58), (⟨"LipsVoiceModel", "noticedNow", "()I"⟩, 58), (⟨"LipsVoiceModel", "keepsAnswer", "(IIIII)V"⟩, 58), (⟨"LipsVoiceModel", "worksAnswer", "(I)V"⟩, 58), (⟨"LipsVoiceModel", "fits", "(III)V"⟩, 58), (⟨"LipsVoiceModel", "ones", "(I)V"⟩, 58), (⟨"LipsVoiceModel", "multiplies", "(IJ)V"⟩, 58)]
theorem lw_r6 : ∀ q ∈ lw_privs_6, lw_okq q := List.forall_mem_cons.mpr ⟨lw_p80, List.forall_mem_cons.mpr ⟨lw_p81, List.forall_mem_cons.mpr ⟨lw_p82, List.forall_mem_cons.mpr ⟨lw_p83, List.forall_mem_cons.mpr ⟨lw_p84, List.forall_mem_cons.mpr ⟨lw_p85, List.forall_mem_cons.mpr ⟨lw_p86, List.forall_mem_cons.mpr ⟨lw_p87, List.forall_mem_cons.mpr ⟨lw_p88, List.forall_mem_cons.mpr ⟨lw_p89, List.forall_mem_cons.mpr ⟨lw_p90, List.forall_mem_cons.mpr ⟨lw_p91, List.forall_mem_cons.mpr ⟨lw_p92, List.forall_mem_cons.mpr ⟨lw_p93, List.forall_mem_cons.mpr ⟨lw_p94, List.forall_mem_cons.mpr ⟨lw_p95, fun _ h => absurd h List.not_mem_nil⟩⟩⟩⟩⟩⟩⟩⟩⟩⟩⟩⟩⟩⟩⟩⟩
theorem lw_p96 : lw_okq (⟨"LipsVoiceModel", "keeps", "()V"⟩, 58) := ⟨lw_q7.1, lw_q7.2, lw_chk_ok tables_1 lw_xL6 lw_xA6 _ (List.mem_of_getElem? (i := 8) rfl), lw_chk_ok tables_1 lw_xL6 lw_xA6 _ (List.mem_of_getElem? (i := 9) rfl)⟩
theorem lw_p97 : lw_okq (⟨"LipsVoiceModel", "copies", "(II)V"⟩, 58) := ⟨lw_q7.1, lw_q7.2, lw_chk_ok tables_1 lw_xL6 lw_xA6 _ (List.mem_of_getElem? (i := 10) rfl), lw_chk_ok tables_1 lw_xL6 lw_xA6 _ (List.mem_of_getElem? (i := 11) rfl)⟩
theorem lw_p98 : lw_okq (⟨"LipsVoiceModel", "against", "()I"⟩, 58) := ⟨lw_q7.1, lw_q7.2, lw_chk_ok tables_1 lw_xL6 lw_xA6 _ (List.mem_of_getElem? (i := 12) rfl), lw_chk_ok tables_1 lw_xL6 lw_xA6 _ (List.mem_of_getElem? (i := 13) rfl)⟩
theorem lw_p99 : lw_okq (⟨"LipsVoiceModel", "joins", "(III)V"⟩, 58) := ⟨lw_q7.1, lw_q7.2, lw_chk_ok tables_1 lw_xL6 lw_xA6 _ (List.mem_of_getElem? (i := 14) rfl), lw_chk_ok tables_1 lw_xL6 lw_xA6 _ (List.mem_of_getElem? (i := 15) rfl)⟩
theorem lw_p100 : lw_okq (⟨"LipsVoiceModel", "compares", "(II)I"⟩, 58) := ⟨lw_q7.1, lw_q7.2, lw_chk_ok tables_1 lw_xL6 lw_xA6 _ (List.mem_of_getElem? (i := 16) rfl), lw_chk_ok tables_1 lw_xL6 lw_xA6 _ (List.mem_of_getElem? (i := 17) rfl)⟩
theorem lw_p101 : lw_okq (⟨"LipsVoiceModel", "isOf", "(II)Z"⟩, 58) := ⟨lw_q7.1, lw_q7.2, lw_chk_ok tables_1 lw_xL6 lw_xA6 _ (List.mem_of_getElem? (i := 18) rfl), lw_chk_ok tables_1 lw_xL6 lw_xA6 _ (List.mem_of_getElem? (i := 19) rfl)⟩
theorem lw_p102 : lw_okq (⟨"LipsVoiceModel", "third", "(III)I"⟩, 58) := ⟨lw_q7.1, lw_q7.2, lw_chk_ok tables_1 lw_xL6 lw_xA6 _ (List.mem_of_getElem? (i := 20) rfl), lw_chk_ok tables_1 lw_xL6 lw_xA6 _ (List.mem_of_getElem? (i := 21) rfl)⟩
theorem lw_p103 : lw_okq (⟨"LipsVoiceModel", "canBe", "(III)Z"⟩, 58) := ⟨lw_q7.1, lw_q7.2, lw_chk_ok tables_1 lw_xL6 lw_xA6 _ (List.mem_of_getElem? (i := 22) rfl), lw_chk_ok tables_1 lw_xL6 lw_xA6 _ (List.mem_of_getElem? (i := 23) rfl)⟩
theorem lw_p104 : lw_okq (⟨"LipsVoiceModel", "rightOf", "(III)I"⟩, 58) := ⟨lw_q7.1, lw_q7.2, lw_chk_ok tables_1 lw_xL6 lw_xA6 _ (List.mem_of_getElem? (i := 24) rfl), lw_chk_ok tables_1 lw_xL6 lw_xA6 _ (List.mem_of_getElem? (i := 25) rfl)⟩
theorem lw_p105 : lw_okq (⟨"LipsVoiceModel", "partedNow", "(II)I"⟩, 58) := ⟨lw_q7.1, lw_q7.2, lw_chk_ok tables_1 lw_xL6 lw_xA6 _ (List.mem_of_getElem? (i := 26) rfl), lw_chk_ok tables_1 lw_xL6 lw_xA6 _ (List.mem_of_getElem? (i := 27) rfl)⟩
theorem lw_p106 : lw_okq (⟨"LipsVoiceModel", "tellsNames", "(III)V"⟩, 58) := ⟨lw_q7.1, lw_q7.2, lw_chk_ok tables_1 lw_xL6 lw_xA6 _ (List.mem_of_getElem? (i := 28) rfl), lw_chk_ok tables_1 lw_xL6 lw_xA6 _ (List.mem_of_getElem? (i := 29) rfl)⟩
theorem lw_p107 : lw_okq (⟨"LipsVoiceModel", "draws", "(J)I"⟩, 58) := ⟨lw_q7.1, lw_q7.2, lw_chk_ok tables_1 lw_xL6 lw_xA6 _ (List.mem_of_getElem? (i := 30) rfl), lw_chk_ok tables_1 lw_xL6 lw_xA6 _ (List.mem_of_getElem? (i := 31) rfl)⟩
def lw_privs_7 : List (MethodName × Nat) := [(⟨"LipsVoiceModel", "keeps", "()V"⟩, 58), (⟨"LipsVoiceModel", "copies", "(II)V"⟩, 58), (⟨"LipsVoiceModel", "against", "()I"⟩, 58), (⟨"LipsVoiceModel", "joins", "(III)V"⟩, 58), (⟨"LipsVoiceModel", "compares", "(II)I"⟩, 58), (⟨"LipsVoiceModel", "isOf", "(II)Z"⟩, 58), (⟨"LipsVoiceModel", "third", "(III)I"⟩, 58), (⟨"LipsVoiceModel", "canBe", "(III)Z"⟩, 58), (⟨"LipsVoiceModel", "rightOf", "(III)I"⟩, 58), (⟨"LipsVoiceModel", "partedNow", "(II)I"⟩, 58), (⟨"LipsVoiceModel", "tellsNames", "(III)V"⟩, 58), (⟨"LipsVoiceModel", "draws", "(J)I"⟩, 58)]
theorem lw_r7 : ∀ q ∈ lw_privs_7, lw_okq q := List.forall_mem_cons.mpr ⟨lw_p96, List.forall_mem_cons.mpr ⟨lw_p97, List.forall_mem_cons.mpr ⟨lw_p98, List.forall_mem_cons.mpr ⟨lw_p99, List.forall_mem_cons.mpr ⟨lw_p100, List.forall_mem_cons.mpr ⟨lw_p101, List.forall_mem_cons.mpr ⟨lw_p102, List.forall_mem_cons.mpr ⟨lw_p103, List.forall_mem_cons.mpr ⟨lw_p104, List.forall_mem_cons.mpr ⟨lw_p105, List.forall_mem_cons.mpr ⟨lw_p106, List.forall_mem_cons.mpr ⟨lw_p107, fun _ h => absurd h List.not_mem_nil⟩⟩⟩⟩⟩⟩⟩⟩⟩⟩⟩⟩
def lw_privs : List (MethodName × Nat) := lw_privs_1 ++ (lw_privs_2 ++ (lw_privs_3 ++ (lw_privs_4 ++ (lw_privs_5 ++ (lw_privs_6 ++ (lw_privs_7))))))
def lw_tbl : List Cond := k2_sels lw_privs ++ tables_1
theorem lw_privs_ok : ∀ q ∈ lw_privs, lw_okq q := by
  show ∀ q ∈ lw_privs_1 ++ (lw_privs_2 ++ (lw_privs_3 ++ (lw_privs_4 ++ (lw_privs_5 ++ (lw_privs_6 ++ (lw_privs_7)))))), lw_okq q
  exact List.forall_mem_append.mpr ⟨lw_r1, List.forall_mem_append.mpr ⟨lw_r2, List.forall_mem_append.mpr ⟨lw_r3, List.forall_mem_append.mpr ⟨lw_r4, List.forall_mem_append.mpr ⟨lw_r5, List.forall_mem_append.mpr ⟨lw_r6, lw_r7⟩⟩⟩⟩⟩⟩
/-- the streams that the claim lets the run draw from -/
abbrev lw_cs : List Choice := [Jvm.Choice.named "NaN.bits"]
theorem lw_bits : nanBits ∈ lw_cs := by first | decide | exact List.mem_cons_self | simp [lw_cs, nanBits]
def RX0 : String := "LipsVoice$Chances"
def TX0 : u_T := fun k => match k with
  | 0 => ("LipsVoice$Chances", "size", "I", false)
  | 1 => ("LipsVoice$Chances", "parts", "[J", true)
  | _ => ("LipsVoice$Chances", "wholes", "[J", true)
def tyX0 : Nat → FieldType := fun k => match k with
  | 0 => .int
  | 1 => .array .long
  | _ => .array .long
abbrev wsX00 : List Cond := u_ws RX0 TX0 3
theorem nmX0 : ∀ a, a < 3 → ∀ b, b < 3 → a ≠ b → (TX0 a).2.1 ≠ (TX0 b).2.1 := by decide +kernel
theorem tyX0_ok : ∀ k, k < 3 → parseFieldDescriptor (TX0 k).2.2.1 = some (tyX0 k) := by decide +kernel
abbrev cX0_init : ByteArray := prog_2_method_1_code
def yX0_init : MethodName := ⟨RX0, "<init>", "()V"⟩
abbrev cX0_add : ByteArray := prog_2_method_2_code
def yX0_add : MethodName := ⟨RX0, "add", "(JJ)V"⟩
abbrev cX0_isNever : ByteArray := prog_2_method_3_code
def yX0_isNever : MethodName := ⟨RX0, "isNever", "()Z"⟩
def RX1 : String := "LipsVoice$Product"
def TX1 : u_T := fun k => match k with
  | 0 => ("LipsVoice$Product", "digits", "[J", true)
  | _ => ("LipsVoice$Product", "size", "I", false)
def tyX1 : Nat → FieldType := fun k => match k with
  | 0 => .array .long
  | _ => .int
abbrev wsX10 : List Cond := u_ws RX1 TX1 2
theorem nmX1 : ∀ a, a < 2 → ∀ b, b < 2 → a ≠ b → (TX1 a).2.1 ≠ (TX1 b).2.1 := by decide +kernel
theorem tyX1_ok : ∀ k, k < 2 → parseFieldDescriptor (TX1 k).2.2.1 = some (tyX1 k) := by decide +kernel
abbrev cX1_init : ByteArray := prog_3_method_1_code
def yX1_init : MethodName := ⟨RX1, "<init>", "()V"⟩
abbrev cX1_begin : ByteArray := prog_3_method_2_code
def yX1_begin : MethodName := ⟨RX1, "begin", "()V"⟩
abbrev cX1_times : ByteArray := prog_3_method_3_code
def yX1_times : MethodName := ⟨RX1, "times", "(J)V"⟩
abbrev cX1_compareWith : ByteArray := prog_3_method_4_code
def yX1_compareWith : MethodName := ⟨RX1, "compareWith", "(LLipsVoice$Product;)I"⟩
def RX2 : String := "LipsVoice$Rules"
def TX2 : u_T := fun k => match k with
  | 0 => ("LipsVoice$Rules", "lines", "I", false)
  | 1 => ("LipsVoice$Rules", "outcome", "[I", true)
  | 2 => ("LipsVoice$Rules", "from", "[I", true)
  | 3 => ("LipsVoice$Rules", "to", "[I", true)
  | 4 => ("LipsVoice$Rules", "codes", "[I", true)
  | 5 => ("LipsVoice$Rules", "size", "I", false)
  | 6 => ("LipsVoice$Rules", "stack", "[J", true)
  | _ => ("LipsVoice$Rules", "height", "I", false)
def tyX2 : Nat → FieldType := fun k => match k with
  | 0 => .int
  | 1 => .array .int
  | 2 => .array .int
  | 3 => .array .int
  | 4 => .array .int
  | 5 => .int
  | 6 => .array .long
  | _ => .int
abbrev wsX20 : List Cond := u_ws RX2 TX2 8
theorem nmX2 : ∀ a, a < 8 → ∀ b, b < 8 → a ≠ b → (TX2 a).2.1 ≠ (TX2 b).2.1 := by decide +kernel
theorem tyX2_ok : ∀ k, k < 8 → parseFieldDescriptor (TX2 k).2.2.1 = some (tyX2 k) := by decide +kernel
abbrev cX2_init : ByteArray := prog_4_method_1_code
def yX2_init : MethodName := ⟨RX2, "<init>", "()V"⟩
abbrev cX2_clear : ByteArray := prog_4_method_2_code
def yX2_clear : MethodName := ⟨RX2, "clear", "()V"⟩
abbrev cX2_beginLine : ByteArray := prog_4_method_3_code
def yX2_beginLine : MethodName := ⟨RX2, "beginLine", "(I)V"⟩
abbrev cX2_endLine : ByteArray := prog_4_method_4_code
def yX2_endLine : MethodName := ⟨RX2, "endLine", "()V"⟩
abbrev cX2_emit : ByteArray := prog_4_method_5_code
def yX2_emit : MethodName := ⟨RX2, "emit", "(I)V"⟩
abbrev cX2_holds : ByteArray := prog_4_method_6_code
def yX2_holds : MethodName := ⟨RX2, "holds", "(I[J)Z"⟩
abbrev cX2_applies : ByteArray := prog_4_method_7_code
def yX2_applies : MethodName := ⟨RX2, "applies", "(I)Z"⟩
abbrev cX2_push : ByteArray := prog_4_method_8_code
def yX2_push : MethodName := ⟨RX2, "push", "(J)V"⟩
abbrev cX2_pop : ByteArray := prog_4_method_9_code
def yX2_pop : MethodName := ⟨RX2, "pop", "()J"⟩
abbrev cX2_bounded : ByteArray := prog_4_method_10_code
def yX2_bounded : MethodName := ⟨RX2, "bounded", "(J)J"⟩
def RX3 : String := "LipsVoice$RulesReader"
def TX3 : u_T := fun k => match k with
  | 0 => ("LipsVoice$RulesReader", "tokens", "LLipsVoice$Tokens;", true)
  | _ => ("LipsVoice$RulesReader", "rules", "LLipsVoice$Rules;", false)
def tyX3 : Nat → FieldType := fun k => match k with
  | 0 => .object "LipsVoice$Tokens"
  | _ => .object "LipsVoice$Rules"
abbrev wsX30 : List Cond := u_ws RX3 TX3 2
theorem nmX3 : ∀ a, a < 2 → ∀ b, b < 2 → a ≠ b → (TX3 a).2.1 ≠ (TX3 b).2.1 := by decide +kernel
theorem tyX3_ok : ∀ k, k < 2 → parseFieldDescriptor (TX3 k).2.2.1 = some (tyX3 k) := by decide +kernel
abbrev cX3_init : ByteArray := prog_5_method_1_code
def yX3_init : MethodName := ⟨RX3, "<init>", "(LLipsVoice$Tokens;LLipsVoice$Rules;)V"⟩
abbrev cX3_read : ByteArray := prog_5_method_2_code
def yX3_read : MethodName := ⟨RX3, "read", "(LLipsVoice$Rules;)I"⟩
abbrev cX3_readLine : ByteArray := prog_5_method_3_code
def yX3_readLine : MethodName := ⟨RX3, "readLine", "()Z"⟩
abbrev cX3_readHead : ByteArray := prog_5_method_4_code
def yX3_readHead : MethodName := ⟨RX3, "readHead", "()Z"⟩
abbrev cX3_isComparison : ByteArray := prog_5_method_5_code
def yX3_isComparison : MethodName := ⟨RX3, "isComparison", "()Z"⟩
abbrev cX3_readSum : ByteArray := prog_5_method_6_code
def yX3_readSum : MethodName := ⟨RX3, "readSum", "(I)Z"⟩
abbrev cX3_readProduct : ByteArray := prog_5_method_7_code
def yX3_readProduct : MethodName := ⟨RX3, "readProduct", "(I)Z"⟩
abbrev cX3_readFactor : ByteArray := prog_5_method_8_code
def yX3_readFactor : MethodName := ⟨RX3, "readFactor", "(I)Z"⟩
abbrev cX3_outcomeOfWord : ByteArray := prog_5_method_9_code
def yX3_outcomeOfWord : MethodName := ⟨RX3, "outcomeOfWord", "()I"⟩
abbrev cX3_codeOfToken : ByteArray := prog_5_method_10_code
def yX3_codeOfToken : MethodName := ⟨RX3, "codeOfToken", "()I"⟩
def RX4 : String := "LipsVoice$Scale"
def TX4 : u_T := fun k => match k with
  | 0 => ("LipsVoice$Scale", "one", "LLipsVoice$Product;", true)
  | _ => ("LipsVoice$Scale", "other", "LLipsVoice$Product;", true)
def tyX4 : Nat → FieldType := fun k => match k with
  | 0 => .object "LipsVoice$Product"
  | _ => .object "LipsVoice$Product"
abbrev wsX40 : List Cond := u_ws RX4 TX4 2
theorem nmX4 : ∀ a, a < 2 → ∀ b, b < 2 → a ≠ b → (TX4 a).2.1 ≠ (TX4 b).2.1 := by decide +kernel
theorem tyX4_ok : ∀ k, k < 2 → parseFieldDescriptor (TX4 k).2.2.1 = some (tyX4 k) := by decide +kernel
abbrev cX4_init : ByteArray := prog_6_method_1_code
def yX4_init : MethodName := ⟨RX4, "<init>", "()V"⟩
abbrev cX4_compareProducts : ByteArray := prog_6_method_2_code
def yX4_compareProducts : MethodName := ⟨RX4, "compareProducts", "(LLipsVoice$Chances;LLipsVoice$Chances;)I"⟩
abbrev cX4_roughQuotient : ByteArray := prog_6_method_3_code
def yX4_roughQuotient : MethodName := ⟨RX4, "roughQuotient", "(LLipsVoice$Chances;LLipsVoice$Chances;I)D"⟩
abbrev cX4_factorOf : ByteArray := prog_6_method_4_code
def yX4_factorOf : MethodName := ⟨RX4, "factorOf", "(LLipsVoice$Chances;LLipsVoice$Chances;I)J"⟩
abbrev cX4_compareExactly : ByteArray := prog_6_method_5_code
def yX4_compareExactly : MethodName := ⟨RX4, "compareExactly", "(LLipsVoice$Chances;LLipsVoice$Chances;I)I"⟩
def RX5 : String := "LipsVoice$Scene"
def TX5 : u_T := fun k => match k with
  | 0 => ("LipsVoice$Scene", "sounds", "I", false)
  | 1 => ("LipsVoice$Scene", "x", "[I", true)
  | 2 => ("LipsVoice$Scene", "y", "[I", true)
  | 3 => ("LipsVoice$Scene", "hold", "[I", true)
  | 4 => ("LipsVoice$Scene", "voiceSpan", "I", false)
  | 5 => ("LipsVoice$Scene", "voiceGain", "I", false)
  | 6 => ("LipsVoice$Scene", "faceSpan", "I", false)
  | 7 => ("LipsVoice$Scene", "faceGain", "I", false)
  | 8 => ("LipsVoice$Scene", "belief", "I", false)
  | 9 => ("LipsVoice$Scene", "window", "I", false)
  | 10 => ("LipsVoice$Scene", "couples", "I", false)
  | 11 => ("LipsVoice$Scene", "couple", "[I", true)
  | _ => ("LipsVoice$Scene", "learnt", "[I", true)
def tyX5 : Nat → FieldType := fun k => match k with
  | 0 => .int
  | 1 => .array .int
  | 2 => .array .int
  | 3 => .array .int
  | 4 => .int
  | 5 => .int
  | 6 => .int
  | 7 => .int
  | 8 => .int
  | 9 => .int
  | 10 => .int
  | 11 => .array .int
  | _ => .array .int
abbrev wsX50 : List Cond := u_ws RX5 TX5 13
theorem nmX5 : ∀ a, a < 13 → ∀ b, b < 13 → a ≠ b → (TX5 a).2.1 ≠ (TX5 b).2.1 := by decide +kernel
theorem tyX5_ok : ∀ k, k < 13 → parseFieldDescriptor (TX5 k).2.2.1 = some (tyX5 k) := by decide +kernel
abbrev cX5_init : ByteArray := prog_7_method_1_code
def yX5_init : MethodName := ⟨RX5, "<init>", "()V"⟩
abbrev cX5_clear : ByteArray := prog_7_method_2_code
def yX5_clear : MethodName := ⟨RX5, "clear", "()V"⟩
abbrev cX5_isTaken : ByteArray := prog_7_method_3_code
def yX5_isTaken : MethodName := ⟨RX5, "isTaken", "(II)Z"⟩
abbrev cX5_learntOf : ByteArray := prog_7_method_4_code
def yX5_learntOf : MethodName := ⟨RX5, "learntOf", "(II)I"⟩
abbrev cX5_isWhole : ByteArray := prog_7_method_5_code
def yX5_isWhole : MethodName := ⟨RX5, "isWhole", "()Z"⟩
def RX6 : String := "LipsVoice$SceneReader"
def TX6 : u_T := fun k => match k with
  | 0 => ("LipsVoice$SceneReader", "tokens", "LLipsVoice$Tokens;", true)
  | 1 => ("LipsVoice$SceneReader", "names", "[J", true)
  | 2 => ("LipsVoice$SceneReader", "held", "[Z", true)
  | 3 => ("LipsVoice$SceneReader", "scene", "LLipsVoice$Scene;", false)
  | 4 => ("LipsVoice$SceneReader", "hasOdds", "Z", false)
  | 5 => ("LipsVoice$SceneReader", "first", "I", false)
  | _ => ("LipsVoice$SceneReader", "second", "I", false)
def tyX6 : Nat → FieldType := fun k => match k with
  | 0 => .object "LipsVoice$Tokens"
  | 1 => .array .long
  | 2 => .array .boolean
  | 3 => .object "LipsVoice$Scene"
  | 4 => .boolean
  | 5 => .int
  | _ => .int
abbrev wsX60 : List Cond := u_ws RX6 TX6 7
theorem nmX6 : ∀ a, a < 7 → ∀ b, b < 7 → a ≠ b → (TX6 a).2.1 ≠ (TX6 b).2.1 := by decide +kernel
theorem tyX6_ok : ∀ k, k < 7 → parseFieldDescriptor (TX6 k).2.2.1 = some (tyX6 k) := by decide +kernel
abbrev cX6_init : ByteArray := prog_8_method_1_code
def yX6_init : MethodName := ⟨RX6, "<init>", "(LLipsVoice$Tokens;LLipsVoice$Scene;)V"⟩
abbrev cX6_read : ByteArray := prog_8_method_2_code
def yX6_read : MethodName := ⟨RX6, "read", "(LLipsVoice$Scene;)I"⟩
abbrev cX6_readStatement : ByteArray := prog_8_method_3_code
def yX6_readStatement : MethodName := ⟨RX6, "readStatement", "()Z"⟩
abbrev cX6_readSound : ByteArray := prog_8_method_4_code
def yX6_readSound : MethodName := ⟨RX6, "readSound", "()Z"⟩
abbrev cX6_readVoice : ByteArray := prog_8_method_5_code
def yX6_readVoice : MethodName := ⟨RX6, "readVoice", "()Z"⟩
abbrev cX6_readFace : ByteArray := prog_8_method_6_code
def yX6_readFace : MethodName := ⟨RX6, "readFace", "()Z"⟩
abbrev cX6_readOdds : ByteArray := prog_8_method_7_code
def yX6_readOdds : MethodName := ⟨RX6, "readOdds", "()Z"⟩
abbrev cX6_readHold : ByteArray := prog_8_method_8_code
def yX6_readHold : MethodName := ⟨RX6, "readHold", "()Z"⟩
abbrev cX6_readLearn : ByteArray := prog_8_method_9_code
def yX6_readLearn : MethodName := ⟨RX6, "readLearn", "()Z"⟩
abbrev cX6_readNumbers : ByteArray := prog_8_method_10_code
def yX6_readNumbers : MethodName := ⟨RX6, "readNumbers", "(IIII)Z"⟩
abbrev cX6_closes : ByteArray := prog_8_method_11_code
def yX6_closes : MethodName := ⟨RX6, "closes", "()Z"⟩
abbrev cX6_findName : ByteArray := prog_8_method_12_code
def yX6_findName : MethodName := ⟨RX6, "findName", "()I"⟩
def RX7 : String := "LipsVoice$Sheet"
def TX7 : u_T := fun k => match k with
  | 0 => ("LipsVoice$Sheet", "there", "Z", false)
  | 1 => ("LipsVoice$Sheet", "people", "I", false)
  | 2 => ("LipsVoice$Sheet", "voiceChange", "[I", true)
  | 3 => ("LipsVoice$Sheet", "faceChange", "[I", true)
  | 4 => ("LipsVoice$Sheet", "belief", "[I", true)
  | 5 => ("LipsVoice$Sheet", "land", "[I", true)
  | 6 => ("LipsVoice$Sheet", "answers", "I", false)
  | 7 => ("LipsVoice$Sheet", "who", "[I", true)
  | 8 => ("LipsVoice$Sheet", "setting", "[I", true)
  | 9 => ("LipsVoice$Sheet", "late", "[I", true)
  | 10 => ("LipsVoice$Sheet", "said", "[I", true)
  | _ => ("LipsVoice$Sheet", "noticed", "[Z", true)
def tyX7 : Nat → FieldType := fun k => match k with
  | 0 => .boolean
  | 1 => .int
  | 2 => .array .int
  | 3 => .array .int
  | 4 => .array .int
  | 5 => .array .int
  | 6 => .int
  | 7 => .array .int
  | 8 => .array .int
  | 9 => .array .int
  | 10 => .array .int
  | _ => .array .boolean
abbrev wsX70 : List Cond := u_ws RX7 TX7 12
theorem nmX7 : ∀ a, a < 12 → ∀ b, b < 12 → a ≠ b → (TX7 a).2.1 ≠ (TX7 b).2.1 := by decide +kernel
theorem tyX7_ok : ∀ k, k < 12 → parseFieldDescriptor (TX7 k).2.2.1 = some (tyX7 k) := by decide +kernel
abbrev cX7_init : ByteArray := prog_9_method_1_code
def yX7_init : MethodName := ⟨RX7, "<init>", "()V"⟩
abbrev cX7_begin : ByteArray := prog_9_method_2_code
def yX7_begin : MethodName := ⟨RX7, "begin", "(I)V"⟩
abbrev cX7_addPerson : ByteArray := prog_9_method_3_code
def yX7_addPerson : MethodName := ⟨RX7, "addPerson", "(IIII)I"⟩
abbrev cX7_changePerson : ByteArray := prog_9_method_4_code
def yX7_changePerson : MethodName := ⟨RX7, "changePerson", "(IIII)V"⟩
abbrev cX7_isAnswer : ByteArray := prog_9_method_5_code
def yX7_isAnswer : MethodName := ⟨RX7, "isAnswer", "(I)Z"⟩
abbrev cX7_addAnswer : ByteArray := prog_9_method_6_code
def yX7_addAnswer : MethodName := ⟨RX7, "addAnswer", "(IIIIZ)V"⟩
abbrev cX7_kindOfAnswer : ByteArray := prog_9_method_7_code
def yX7_kindOfAnswer : MethodName := ⟨RX7, "kindOfAnswer", "(I)I"⟩
abbrev cX7_copyFrom : ByteArray := prog_9_method_8_code
def yX7_copyFrom : MethodName := ⟨RX7, "copyFrom", "(LLipsVoice$Sheet;)V"⟩
def RX8 : String := "LipsVoice$Text"
def TX8 : u_T := fun k => match k with
  | 0 => ("LipsVoice$Text", "bytes", "[I", true)
  | _ => ("LipsVoice$Text", "length", "I", false)
def tyX8 : Nat → FieldType := fun k => match k with
  | 0 => .array .int
  | _ => .int
abbrev wsX80 : List Cond := u_ws RX8 TX8 2
theorem nmX8 : ∀ a, a < 2 → ∀ b, b < 2 → a ≠ b → (TX8 a).2.1 ≠ (TX8 b).2.1 := by decide +kernel
theorem tyX8_ok : ∀ k, k < 2 → parseFieldDescriptor (TX8 k).2.2.1 = some (tyX8 k) := by decide +kernel
abbrev cX8_init : ByteArray := prog_10_method_1_code
def yX8_init : MethodName := ⟨RX8, "<init>", "()V"⟩
abbrev cX8_add : ByteArray := prog_10_method_2_code
def yX8_add : MethodName := ⟨RX8, "add", "(I)V"⟩
def RX9 : String := "LipsVoice$Tokens"
def TX9 : u_T := fun k => match k with
  | 0 => ("LipsVoice$Tokens", "text", "LLipsVoice$Text;", true)
  | 1 => ("LipsVoice$Tokens", "sort", "I", false)
  | 2 => ("LipsVoice$Tokens", "place", "I", false)
  | 3 => ("LipsVoice$Tokens", "value", "J", false)
  | _ => ("LipsVoice$Tokens", "stop", "I", false)
def tyX9 : Nat → FieldType := fun k => match k with
  | 0 => .object "LipsVoice$Text"
  | 1 => .int
  | 2 => .int
  | 3 => .long
  | _ => .int
abbrev wsX90 : List Cond := u_ws RX9 TX9 5
theorem nmX9 : ∀ a, a < 5 → ∀ b, b < 5 → a ≠ b → (TX9 a).2.1 ≠ (TX9 b).2.1 := by decide +kernel
theorem tyX9_ok : ∀ k, k < 5 → parseFieldDescriptor (TX9 k).2.2.1 = some (tyX9 k) := by decide +kernel
abbrev cX9_init : ByteArray := prog_11_method_1_code
def yX9_init : MethodName := ⟨RX9, "<init>", "(LLipsVoice$Text;)V"⟩
abbrev cX9_begin : ByteArray := prog_11_method_2_code
def yX9_begin : MethodName := ⟨RX9, "begin", "()V"⟩
abbrev cX9_step : ByteArray := prog_11_method_3_code
def yX9_step : MethodName := ⟨RX9, "step", "()V"⟩
abbrev cX9_take : ByteArray := prog_11_method_4_code
def yX9_take : MethodName := ⟨RX9, "take", "(I)V"⟩
abbrev cX9_sortOf : ByteArray := prog_11_method_5_code
def yX9_sortOf : MethodName := ⟨RX9, "sortOf", "(I)I"⟩
abbrev cX9_isWord : ByteArray := prog_11_method_6_code
def yX9_isWord : MethodName := ⟨RX9, "isWord", "(J)Z"⟩
abbrev cX9_isSign : ByteArray := prog_11_method_7_code
def yX9_isSign : MethodName := ⟨RX9, "isSign", "(I)Z"⟩
abbrev cX9_isNumber : ByteArray := prog_11_method_8_code
def yX9_isNumber : MethodName := ⟨RX9, "isNumber", "(II)Z"⟩
abbrev cX9_isName : ByteArray := prog_11_method_9_code
def yX9_isName : MethodName := ⟨RX9, "isName", "()Z"⟩
def RX10 : String := "LipsVoice$Trial"
def TX10 : u_T := fun k => match k with
  | 0 => ("LipsVoice$Trial", "scene", "LLipsVoice$Scene;", false)
  | 1 => ("LipsVoice$Trial", "voice", "I", false)
  | 2 => ("LipsVoice$Trial", "face", "I", false)
  | 3 => ("LipsVoice$Trial", "noise", "I", false)
  | 4 => ("LipsVoice$Trial", "dark", "I", false)
  | 5 => ("LipsVoice$Trial", "voiceSpan", "I", false)
  | 6 => ("LipsVoice$Trial", "faceSpan", "I", false)
  | 7 => ("LipsVoice$Trial", "trust", "J", false)
  | 8 => ("LipsVoice$Trial", "heard", "[J", true)
  | 9 => ("LipsVoice$Trial", "seen", "[J", true)
  | 10 => ("LipsVoice$Trial", "heardSum", "J", false)
  | 11 => ("LipsVoice$Trial", "seenSum", "J", false)
  | 12 => ("LipsVoice$Trial", "bothSum", "J", false)
  | 13 => ("LipsVoice$Trial", "weights", "[J", false)
  | 14 => ("LipsVoice$Trial", "total", "J", false)
  | _ => ("LipsVoice$Trial", "otherWeights", "[J", false)
def tyX10 : Nat → FieldType := fun k => match k with
  | 0 => .object "LipsVoice$Scene"
  | 1 => .int
  | 2 => .int
  | 3 => .int
  | 4 => .int
  | 5 => .int
  | 6 => .int
  | 7 => .long
  | 8 => .array .long
  | 9 => .array .long
  | 10 => .long
  | 11 => .long
  | 12 => .long
  | 13 => .array .long
  | 14 => .long
  | _ => .array .long
abbrev wsX100 : List Cond := u_ws RX10 TX10 16
theorem nmX10 : ∀ a, a < 16 → ∀ b, b < 16 → a ≠ b → (TX10 a).2.1 ≠ (TX10 b).2.1 := by decide +kernel
theorem tyX10_ok : ∀ k, k < 16 → parseFieldDescriptor (TX10 k).2.2.1 = some (tyX10 k) := by decide +kernel
abbrev cX10_init : ByteArray := prog_12_method_1_code
def yX10_init : MethodName := ⟨RX10, "<init>", "(LLipsVoice$Scene;)V"⟩
abbrev cX10_place : ByteArray := prog_12_method_2_code
def yX10_place : MethodName := ⟨RX10, "place", "(LLipsVoice$Scene;II)V"⟩
abbrev cX10_spread : ByteArray := prog_12_method_3_code
def yX10_spread : MethodName := ⟨RX10, "spread", "(II)V"⟩
abbrev cX10_trustAt : ByteArray := prog_12_method_4_code
def yX10_trustAt : MethodName := ⟨RX10, "trustAt", "(II)V"⟩
abbrev cX10_weigh : ByteArray := prog_12_method_5_code
def yX10_weigh : MethodName := ⟨RX10, "weigh", "(I)V"⟩
abbrev cX10_weighVoice : ByteArray := prog_12_method_6_code
def yX10_weighVoice : MethodName := ⟨RX10, "weighVoice", "()V"⟩
abbrev cX10_weighFace : ByteArray := prog_12_method_7_code
def yX10_weighFace : MethodName := ⟨RX10, "weighFace", "()V"⟩
abbrev cX10_weighSurer : ByteArray := prog_12_method_8_code
def yX10_weighSurer : MethodName := ⟨RX10, "weighSurer", "()V"⟩
abbrev cX10_weighOne : ByteArray := prog_12_method_9_code
def yX10_weighOne : MethodName := ⟨RX10, "weighOne", "()V"⟩
abbrev cX10_weighOdds : ByteArray := prog_12_method_10_code
def yX10_weighOdds : MethodName := ⟨RX10, "weighOdds", "()V"⟩
abbrev cX10_weighLearnt : ByteArray := prog_12_method_11_code
def yX10_weighLearnt : MethodName := ⟨RX10, "weighLearnt", "()V"⟩
abbrev cX10_weighSingle : ByteArray := prog_12_method_12_code
def yX10_weighSingle : MethodName := ⟨RX10, "weighSingle", "(I)V"⟩
abbrev cX10_soundBetween : ByteArray := prog_12_method_13_code
def yX10_soundBetween : MethodName := ⟨RX10, "soundBetween", "()I"⟩
abbrev cX10_farFrom : ByteArray := prog_12_method_14_code
def yX10_farFrom : MethodName := ⟨RX10, "farFrom", "(III)I"⟩
abbrev cX10_greatestWeight : ByteArray := prog_12_method_15_code
def yX10_greatestWeight : MethodName := ⟨RX10, "greatestWeight", "()J"⟩
abbrev cX10_mostLikely : ByteArray := prog_12_method_16_code
def yX10_mostLikely : MethodName := ⟨RX10, "mostLikely", "()I"⟩
abbrev cX10_chanceOf : ByteArray := prog_12_method_17_code
def yX10_chanceOf : MethodName := ⟨RX10, "chanceOf", "(I)I"⟩
abbrev cX10_chanceOfKind : ByteArray := prog_12_method_18_code
def yX10_chanceOfKind : MethodName := ⟨RX10, "chanceOfKind", "(I)I"⟩
abbrev cX10_chanceNoticed : ByteArray := prog_12_method_19_code
def yX10_chanceNoticed : MethodName := ⟨RX10, "chanceNoticed", "()I"⟩
abbrev cX10_partedBy : ByteArray := prog_12_method_20_code
def yX10_partedBy : MethodName := ⟨RX10, "partedBy", "(II)I"⟩
abbrev cX10_saidAt : ByteArray := prog_12_method_21_code
def yX10_saidAt : MethodName := ⟨RX10, "saidAt", "(J)I"⟩
def RX11 : String := "LipsVoice"
def TX11 : u_T := fun k => match k with
  | 0 => ("LipsVoice", "text", "LLipsVoice$Text;", true)
  | 1 => ("LipsVoice", "sceneReader", "LLipsVoice$SceneReader;", true)
  | 2 => ("LipsVoice", "rulesReader", "LLipsVoice$RulesReader;", true)
  | 3 => ("LipsVoice", "sheet", "LLipsVoice$Sheet;", true)
  | 4 => ("LipsVoice", "images", "[LLipsVoice$Sheet;", true)
  | 5 => ("LipsVoice", "trial", "LLipsVoice$Trial;", true)
  | 6 => ("LipsVoice", "scale", "LLipsVoice$Scale;", true)
  | 7 => ("LipsVoice", "atoms", "[J", true)
  | 8 => ("LipsVoice", "currentScene", "LLipsVoice$Scene;", false)
  | 9 => ("LipsVoice", "spareScene", "LLipsVoice$Scene;", false)
  | 10 => ("LipsVoice", "currentRules", "LLipsVoice$Rules;", false)
  | 11 => ("LipsVoice", "spareRules", "LLipsVoice$Rules;", false)
  | 12 => ("LipsVoice", "keptChances", "LLipsVoice$Chances;", false)
  | 13 => ("LipsVoice", "triedChances", "LLipsVoice$Chances;", false)
  | 14 => ("LipsVoice", "ownVoice", "I", false)
  | 15 => ("LipsVoice", "ownFace", "I", false)
  | _ => ("LipsVoice", "lotState", "J", false)
def tyX11 : Nat → FieldType := fun k => match k with
  | 0 => .object "LipsVoice$Text"
  | 1 => .object "LipsVoice$SceneReader"
  | 2 => .object "LipsVoice$RulesReader"
  | 3 => .object "LipsVoice$Sheet"
  | 4 => .array (.object "LipsVoice$Sheet")
  | 5 => .object "LipsVoice$Trial"
  | 6 => .object "LipsVoice$Scale"
  | 7 => .array .long
  | 8 => .object "LipsVoice$Scene"
  | 9 => .object "LipsVoice$Scene"
  | 10 => .object "LipsVoice$Rules"
  | 11 => .object "LipsVoice$Rules"
  | 12 => .object "LipsVoice$Chances"
  | 13 => .object "LipsVoice$Chances"
  | 14 => .int
  | 15 => .int
  | _ => .long
abbrev wsX110 : List Cond := u_ws RX11 TX11 17
theorem nmX11 : ∀ a, a < 17 → ∀ b, b < 17 → a ≠ b → (TX11 a).2.1 ≠ (TX11 b).2.1 := by decide +kernel
theorem tyX11_ok : ∀ k, k < 17 → parseFieldDescriptor (TX11 k).2.2.1 = some (tyX11 k) := by decide +kernel
abbrev cX11_init : ByteArray := prog_1_method_1_code
def yX11_init : MethodName := ⟨RX11, "<init>", "()V"⟩
abbrev cX11_feed : ByteArray := prog_1_method_2_code
def yX11_feed : MethodName := ⟨RX11, "feed", "(IIIII)I"⟩
abbrev cX11_end : ByteArray := prog_1_method_3_code
def yX11_end : MethodName := ⟨RX11, "end", "(I)Z"⟩
abbrev cX11_fault : ByteArray := prog_1_method_4_code
def yX11_fault : MethodName := ⟨RX11, "fault", "(I)I"⟩
abbrev cX11_scene : ByteArray := prog_1_method_5_code
def yX11_scene : MethodName := ⟨RX11, "scene", "()I"⟩
abbrev cX11_rules : ByteArray := prog_1_method_6_code
def yX11_rules : MethodName := ⟨RX11, "rules", "()I"⟩
abbrev cX11_sound : ByteArray := prog_1_method_7_code
def yX11_sound : MethodName := ⟨RX11, "sound", "(II)I"⟩
abbrev cX11_count : ByteArray := prog_1_method_8_code
def yX11_count : MethodName := ⟨RX11, "count", "(I)I"⟩
abbrev cX11_person : ByteArray := prog_1_method_9_code
def yX11_person : MethodName := ⟨RX11, "person", "(III)I"⟩
abbrev cX11_who : ByteArray := prog_1_method_10_code
def yX11_who : MethodName := ⟨RX11, "who", "(II)I"⟩
abbrev cX11_becomes : ByteArray := prog_1_method_11_code
def yX11_becomes : MethodName := ⟨RX11, "becomes", "(IIII)Z"⟩
abbrev cX11_weight : ByteArray := prog_1_method_12_code
def yX11_weight : MethodName := ⟨RX11, "weight", "(IIIII)I"⟩
abbrev cX11_chance : ByteArray := prog_1_method_13_code
def yX11_chance : MethodName := ⟨RX11, "chance", "(IIIII)I"⟩
abbrev cX11_kind : ByteArray := prog_1_method_14_code
def yX11_kind : MethodName := ⟨RX11, "kind", "(IIIII)I"⟩
abbrev cX11_likely : ByteArray := prog_1_method_15_code
def yX11_likely : MethodName := ⟨RX11, "likely", "(IIII)I"⟩
abbrev cX11_noticed : ByteArray := prog_1_method_16_code
def yX11_noticed : MethodName := ⟨RX11, "noticed", "(III)I"⟩
abbrev cX11_answer : ByteArray := prog_1_method_17_code
def yX11_answer : MethodName := ⟨RX11, "answer", "(IIII)I"⟩
abbrev cX11_undo : ByteArray := prog_1_method_18_code
def yX11_undo : MethodName := ⟨RX11, "undo", "()I"⟩
abbrev cX11_of : ByteArray := prog_1_method_19_code
def yX11_of : MethodName := ⟨RX11, "of", "(II)I"⟩
abbrev cX11_more : ByteArray := prog_1_method_20_code
def yX11_more : MethodName := ⟨RX11, "more", "(III)I"⟩
abbrev cX11_best : ByteArray := prog_1_method_21_code
def yX11_best : MethodName := ⟨RX11, "best", "(I)I"⟩
abbrev cX11_own : ByteArray := prog_1_method_22_code
def yX11_own : MethodName := ⟨RX11, "own", "(II)I"⟩
abbrev cX11_share : ByteArray := prog_1_method_23_code
def yX11_share : MethodName := ⟨RX11, "share", "(II)I"⟩
abbrev cX11_foretold : ByteArray := prog_1_method_24_code
def yX11_foretold : MethodName := ⟨RX11, "foretold", "(III)I"⟩
abbrev cX11_pairs : ByteArray := prog_1_method_25_code
def yX11_pairs : MethodName := ⟨RX11, "pairs", "(IIIII)I"⟩
abbrev cX11_hump : ByteArray := prog_1_method_26_code
def yX11_hump : MethodName := ⟨RX11, "hump", "(III)I"⟩
abbrev cX11_right : ByteArray := prog_1_method_27_code
def yX11_right : MethodName := ⟨RX11, "right", "(III)I"⟩
abbrev cX11_worth : ByteArray := prog_1_method_28_code
def yX11_worth : MethodName := ⟨RX11, "worth", "(III)I"⟩
abbrev cX11_parted : ByteArray := prog_1_method_29_code
def yX11_parted : MethodName := ⟨RX11, "parted", "(IIII)I"⟩
abbrev cX11_next : ByteArray := prog_1_method_30_code
def yX11_next : MethodName := ⟨RX11, "next", "(IIII)I"⟩
abbrev cX11_knowing : ByteArray := prog_1_method_31_code
def yX11_knowing : MethodName := ⟨RX11, "knowing", "(IIII)I"⟩
abbrev cX11_called : ByteArray := prog_1_method_32_code
def yX11_called : MethodName := ⟨RX11, "called", "(IIII)I"⟩
abbrev cX11_draw : ByteArray := prog_1_method_33_code
def yX11_draw : MethodName := ⟨RX11, "draw", "(IIII)I"⟩
abbrev cX11_image : ByteArray := prog_1_method_34_code
def yX11_image : MethodName := ⟨RX11, "image", "(I)Z"⟩
abbrev cX11_back : ByteArray := prog_1_method_35_code
def yX11_back : MethodName := ⟨RX11, "back", "(I)Z"⟩
abbrev cX11_hasScene : ByteArray := prog_1_method_36_code
def yX11_hasScene : MethodName := ⟨RX11, "hasScene", "()Z"⟩
abbrev cX11_isSound : ByteArray := prog_1_method_37_code
def yX11_isSound : MethodName := ⟨RX11, "isSound", "(I)Z"⟩
abbrev cX11_isPerson : ByteArray := prog_1_method_38_code
def yX11_isPerson : MethodName := ⟨RX11, "isPerson", "(I)Z"⟩
abbrev cX11_isPersonOrAll : ByteArray := prog_1_method_39_code
def yX11_isPersonOrAll : MethodName := ⟨RX11, "isPersonOrAll", "(I)Z"⟩
abbrev cX11_isTrial : ByteArray := prog_1_method_40_code
def yX11_isTrial : MethodName := ⟨RX11, "isTrial", "(III)Z"⟩
abbrev cX11_isSetting : ByteArray := prog_1_method_41_code
def yX11_isSetting : MethodName := ⟨RX11, "isSetting", "(I)Z"⟩
abbrev cX11_isLate : ByteArray := prog_1_method_42_code
def yX11_isLate : MethodName := ⟨RX11, "isLate", "(I)Z"⟩
abbrev cX11_isLaw : ByteArray := prog_1_method_43_code
def yX11_isLaw : MethodName := ⟨RX11, "isLaw", "(I)Z"⟩
abbrev cX11_areLaws : ByteArray := prog_1_method_44_code
def yX11_areLaws : MethodName := ⟨RX11, "areLaws", "(I)Z"⟩
abbrev cX11_isKind : ByteArray := prog_1_method_45_code
def yX11_isKind : MethodName := ⟨RX11, "isKind", "(I)Z"⟩
abbrev cX11_isLandOrAll : ByteArray := prog_1_method_46_code
def yX11_isLandOrAll : MethodName := ⟨RX11, "isLandOrAll", "(I)Z"⟩
abbrev cX11_isBelief : ByteArray := prog_1_method_47_code
def yX11_isBelief : MethodName := ⟨RX11, "isBelief", "(I)Z"⟩
abbrev cX11_areChanges : ByteArray := prog_1_method_48_code
def yX11_areChanges : MethodName := ⟨RX11, "areChanges", "(II)Z"⟩
abbrev cX11_kindOfSaid : ByteArray := prog_1_method_49_code
def yX11_kindOfSaid : MethodName := ⟨RX11, "kindOfSaid", "(III)I"⟩
abbrev cX11_ofThousand : ByteArray := prog_1_method_50_code
def yX11_ofThousand : MethodName := ⟨RX11, "ofThousand", "(JJ)I"⟩
abbrev cX11_pose : ByteArray := prog_1_method_51_code
def yX11_pose : MethodName := ⟨RX11, "pose", "(III)V"⟩
abbrev cX11_poseAs : ByteArray := prog_1_method_52_code
def yX11_poseAs : MethodName := ⟨RX11, "poseAs", "(IIII)V"⟩
abbrev cX11_weighs : ByteArray := prog_1_method_53_code
def yX11_weighs : MethodName := ⟨RX11, "weighs", "(IIII)Z"⟩
abbrev cX11_isPair : ByteArray := prog_1_method_54_code
def yX11_isPair : MethodName := ⟨RX11, "isPair", "(IIII)Z"⟩
abbrev cX11_sumRight : ByteArray := prog_1_method_55_code
def yX11_sumRight : MethodName := ⟨RX11, "sumRight", "(III)I"⟩
abbrev cX11_fillAtoms : ByteArray := prog_1_method_56_code
def yX11_fillAtoms : MethodName := ⟨RX11, "fillAtoms", "(I)V"⟩
abbrev cX11_isOfLand : ByteArray := prog_1_method_57_code
def yX11_isOfLand : MethodName := ⟨RX11, "isOfLand", "(II)Z"⟩
abbrev cX11_countOfLand : ByteArray := prog_1_method_58_code
def yX11_countOfLand : MethodName := ⟨RX11, "countOfLand", "(I)I"⟩
abbrev cX11_gather : ByteArray := prog_1_method_59_code
def yX11_gather : MethodName := ⟨RX11, "gather", "(LLipsVoice$Chances;II)V"⟩
abbrev cX11_gatherOdds : ByteArray := prog_1_method_60_code
def yX11_gatherOdds : MethodName := ⟨RX11, "gatherOdds", "(LLipsVoice$Chances;IIII)V"⟩
abbrev cX11_keepsTried : ByteArray := prog_1_method_61_code
def yX11_keepsTried : MethodName := ⟨RX11, "keepsTried", "()Z"⟩
abbrev cX11_findOwnOdds : ByteArray := prog_1_method_62_code
def yX11_findOwnOdds : MethodName := ⟨RX11, "findOwnOdds", "(I)I"⟩
abbrev cX11_findOwnSpans : ByteArray := prog_1_method_63_code
def yX11_findOwnSpans : MethodName := ⟨RX11, "findOwnSpans", "(I)V"⟩
abbrev cX11_trySpans : ByteArray := prog_1_method_64_code
def yX11_trySpans : MethodName := ⟨RX11, "trySpans", "(III)V"⟩
abbrev cX11_lotBelow : ByteArray := prog_1_method_65_code
def yX11_lotBelow : MethodName := ⟨RX11, "lotBelow", "(J)I"⟩
abbrev cX11_drawAnswer : ByteArray := prog_1_method_66_code
def yX11_drawAnswer : MethodName := ⟨RX11, "drawAnswer", "(II)V"⟩
def RX12 : String := "LipsVoiceModel"
def TX12 : u_T := fun k => match k with
  | 0 => ("LipsVoiceModel", "text", "[B", true)
  | 1 => ("LipsVoiceModel", "size", "I", false)
  | 2 => ("LipsVoiceModel", "at", "I", false)
  | 3 => ("LipsVoiceModel", "kind0", "I", false)
  | 4 => ("LipsVoiceModel", "tokenAt", "I", false)
  | 5 => ("LipsVoiceModel", "value", "J", false)
  | 6 => ("LipsVoiceModel", "newSounds", "I", false)
  | 7 => ("LipsVoiceModel", "newName", "[J", true)
  | 8 => ("LipsVoiceModel", "newSound", "[I", true)
  | 9 => ("LipsVoiceModel", "isHeld", "[Z", true)
  | 10 => ("LipsVoiceModel", "newSpan", "[I", true)
  | 11 => ("LipsVoiceModel", "newP", "I", false)
  | 12 => ("LipsVoiceModel", "newW", "I", false)
  | 13 => ("LipsVoiceModel", "newLearns", "I", false)
  | 14 => ("LipsVoiceModel", "newLearn", "[I", true)
  | 15 => ("LipsVoiceModel", "isScene", "Z", false)
  | 16 => ("LipsVoiceModel", "sounds", "I", false)
  | 17 => ("LipsVoiceModel", "soundRow", "[I", true)
  | 18 => ("LipsVoiceModel", "span", "[I", true)
  | 19 => ("LipsVoiceModel", "shareP", "I", false)
  | 20 => ("LipsVoiceModel", "wide", "I", false)
  | 21 => ("LipsVoiceModel", "learns", "I", false)
  | 22 => ("LipsVoiceModel", "learn", "[I", true)
  | 23 => ("LipsVoiceModel", "people", "I", false)
  | 24 => ("LipsVoiceModel", "person4", "[I", true)
  | 25 => ("LipsVoiceModel", "answers", "I", false)
  | 26 => ("LipsVoiceModel", "answer5", "[I", true)
  | 27 => ("LipsVoiceModel", "isImage", "[Z", true)
  | 28 => ("LipsVoiceModel", "imagePeople", "[I", true)
  | 29 => ("LipsVoiceModel", "imagePerson", "[I", true)
  | 30 => ("LipsVoiceModel", "imageAnswers", "[I", true)
  | 31 => ("LipsVoiceModel", "imageAnswer", "[I", true)
  | 32 => ("LipsVoiceModel", "newLines", "I", false)
  | 33 => ("LipsVoiceModel", "newCodes", "I", false)
  | 34 => ("LipsVoiceModel", "newCode", "[I", true)
  | 35 => ("LipsVoiceModel", "lines", "I", false)
  | 36 => ("LipsVoiceModel", "code", "[I", true)
  | 37 => ("LipsVoiceModel", "told", "I", false)
  | 38 => ("LipsVoiceModel", "waits", "[I", true)
  | 39 => ("LipsVoiceModel", "waiting", "I", false)
  | 40 => ("LipsVoiceModel", "byVoice", "[I", true)
  | 41 => ("LipsVoiceModel", "byFace", "[I", true)
  | 42 => ("LipsVoiceModel", "spanV", "I", false)
  | 43 => ("LipsVoiceModel", "spanF", "I", false)
  | 44 => ("LipsVoiceModel", "sumA", "J", false)
  | 45 => ("LipsVoiceModel", "sumF", "J", false)
  | 46 => ("LipsVoiceModel", "sumJ", "J", false)
  | 47 => ("LipsVoiceModel", "p0", "I", false)
  | 48 => ("LipsVoiceModel", "voiceNow", "I", false)
  | 49 => ("LipsVoiceModel", "faceNow", "I", false)
  | 50 => ("LipsVoiceModel", "weight0", "[J", true)
  | 51 => ("LipsVoiceModel", "weights", "J", false)
  | 52 => ("LipsVoiceModel", "digit", "[I", true)
  | 53 => ("LipsVoiceModel", "places", "[I", true)
  | 54 => ("LipsVoiceModel", "firstWeight", "[J", true)
  | 55 => ("LipsVoiceModel", "names", "[I", true)
  | 56 => ("LipsVoiceModel", "stack", "[I", true)
  | _ => ("LipsVoiceModel", "lot", "J", false)
def tyX12 : Nat → FieldType := fun k => match k with
  | 0 => .array .byte
  | 1 => .int
  | 2 => .int
  | 3 => .int
  | 4 => .int
  | 5 => .long
  | 6 => .int
  | 7 => .array .long
  | 8 => .array .int
  | 9 => .array .boolean
  | 10 => .array .int
  | 11 => .int
  | 12 => .int
  | 13 => .int
  | 14 => .array .int
  | 15 => .boolean
  | 16 => .int
  | 17 => .array .int
  | 18 => .array .int
  | 19 => .int
  | 20 => .int
  | 21 => .int
  | 22 => .array .int
  | 23 => .int
  | 24 => .array .int
  | 25 => .int
  | 26 => .array .int
  | 27 => .array .boolean
  | 28 => .array .int
  | 29 => .array .int
  | 30 => .array .int
  | 31 => .array .int
  | 32 => .int
  | 33 => .int
  | 34 => .array .int
  | 35 => .int
  | 36 => .array .int
  | 37 => .int
  | 38 => .array .int
  | 39 => .int
  | 40 => .array .int
  | 41 => .array .int
  | 42 => .int
  | 43 => .int
  | 44 => .long
  | 45 => .long
  | 46 => .long
  | 47 => .int
  | 48 => .int
  | 49 => .int
  | 50 => .array .long
  | 51 => .long
  | 52 => .array .int
  | 53 => .array .int
  | 54 => .array .long
  | 55 => .array .int
  | 56 => .array .int
  | _ => .long
abbrev wsX120 : List Cond := u_ws RX12 TX12 58
theorem nmX12 : ∀ a, a < 58 → ∀ b, b < 58 → a ≠ b → (TX12 a).2.1 ≠ (TX12 b).2.1 := by decide +kernel
theorem tyX12_ok : ∀ k, k < 58 → parseFieldDescriptor (TX12 k).2.2.1 = some (tyX12 k) := by decide +kernel
abbrev cX12_init : ByteArray := prog_14_method_1_code
def yX12_init : MethodName := ⟨RX12, "<init>", "()V"⟩
abbrev cX12_in : ByteArray := prog_14_method_2_code
def yX12_in : MethodName := ⟨RX12, "in", "(III)Z"⟩
abbrev cX12_far : ByteArray := prog_14_method_3_code
def yX12_far : MethodName := ⟨RX12, "far", "(I)I"⟩
abbrev cX12_feed : ByteArray := prog_14_method_4_code
def yX12_feed : MethodName := ⟨RX12, "feed", "(IIIII)I"⟩
abbrev cX12_end : ByteArray := prog_14_method_5_code
def yX12_end : MethodName := ⟨RX12, "end", "(I)Z"⟩
abbrev cX12_isLetter : ByteArray := prog_14_method_6_code
def yX12_isLetter : MethodName := ⟨RX12, "isLetter", "(I)Z"⟩
abbrev cX12_isDigit : ByteArray := prog_14_method_7_code
def yX12_isDigit : MethodName := ⟨RX12, "isDigit", "(I)Z"⟩
abbrev cX12_isSignByte : ByteArray := prog_14_method_8_code
def yX12_isSignByte : MethodName := ⟨RX12, "isSignByte", "(I)Z"⟩
abbrev cX12_leads : ByteArray := prog_14_method_9_code
def yX12_leads : MethodName := ⟨RX12, "leads", "()V"⟩
abbrev cX12_packed : ByteArray := prog_14_method_10_code
def yX12_packed : MethodName := ⟨RX12, "packed", "(Ljava/lang/String;)J"⟩
abbrev cX12_isWord : ByteArray := prog_14_method_11_code
def yX12_isWord : MethodName := ⟨RX12, "isWord", "(Ljava/lang/String;)Z"⟩
abbrev cX12_isSign : ByteArray := prog_14_method_12_code
def yX12_isSign : MethodName := ⟨RX12, "isSign", "(I)Z"⟩
abbrev cX12_closes : ByteArray := prog_14_method_13_code
def yX12_closes : MethodName := ⟨RX12, "closes", "()Z"⟩
abbrev cX12_number : ByteArray := prog_14_method_14_code
def yX12_number : MethodName := ⟨RX12, "number", "(II)Z"⟩
abbrev cX12_isName : ByteArray := prog_14_method_15_code
def yX12_isName : MethodName := ⟨RX12, "isName", "()Z"⟩
abbrev cX12_named : ByteArray := prog_14_method_16_code
def yX12_named : MethodName := ⟨RX12, "named", "()I"⟩
abbrev cX12_soundLine : ByteArray := prog_14_method_17_code
def yX12_soundLine : MethodName := ⟨RX12, "soundLine", "()Z"⟩
abbrev cX12_spanLine : ByteArray := prog_14_method_18_code
def yX12_spanLine : MethodName := ⟨RX12, "spanLine", "(I)Z"⟩
abbrev cX12_oddsLine : ByteArray := prog_14_method_19_code
def yX12_oddsLine : MethodName := ⟨RX12, "oddsLine", "()Z"⟩
abbrev cX12_holdLine : ByteArray := prog_14_method_20_code
def yX12_holdLine : MethodName := ⟨RX12, "holdLine", "()Z"⟩
abbrev cX12_learnLine : ByteArray := prog_14_method_21_code
def yX12_learnLine : MethodName := ⟨RX12, "learnLine", "()Z"⟩
abbrev cX12_sceneLine : ByteArray := prog_14_method_22_code
def yX12_sceneLine : MethodName := ⟨RX12, "sceneLine", "()Z"⟩
abbrev cX12_sceneFault : ByteArray := prog_14_method_23_code
def yX12_sceneFault : MethodName := ⟨RX12, "sceneFault", "()I"⟩
abbrev cX12_scene : ByteArray := prog_14_method_24_code
def yX12_scene : MethodName := ⟨RX12, "scene", "()I"⟩
abbrev cX12_lays : ByteArray := prog_14_method_25_code
def yX12_lays : MethodName := ⟨RX12, "lays", "(II)V"⟩
abbrev cX12_rank : ByteArray := prog_14_method_26_code
def yX12_rank : MethodName := ⟨RX12, "rank", "(I)I"⟩
abbrev cX12_empties : ByteArray := prog_14_method_27_code
def yX12_empties : MethodName := ⟨RX12, "empties", "(I)V"⟩
abbrev cX12_nameHere : ByteArray := prog_14_method_28_code
def yX12_nameHere : MethodName := ⟨RX12, "nameHere", "()I"⟩
abbrev cX12_sumHere : ByteArray := prog_14_method_29_code
def yX12_sumHere : MethodName := ⟨RX12, "sumHere", "()Z"⟩
abbrev cX12_ruleLine : ByteArray := prog_14_method_30_code
def yX12_ruleLine : MethodName := ⟨RX12, "ruleLine", "()Z"⟩
abbrev cX12_rulesFault : ByteArray := prog_14_method_31_code
def yX12_rulesFault : MethodName := ⟨RX12, "rulesFault", "()I"⟩
abbrev cX12_fault : ByteArray := prog_14_method_32_code
def yX12_fault : MethodName := ⟨RX12, "fault", "(I)I"⟩
abbrev cX12_rules : ByteArray := prog_14_method_33_code
def yX12_rules : MethodName := ⟨RX12, "rules", "()I"⟩
abbrev cX12_sound : ByteArray := prog_14_method_34_code
def yX12_sound : MethodName := ⟨RX12, "sound", "(II)I"⟩
abbrev cX12_areChanges : ByteArray := prog_14_method_35_code
def yX12_areChanges : MethodName := ⟨RX12, "areChanges", "(III)Z"⟩
abbrev cX12_person : ByteArray := prog_14_method_36_code
def yX12_person : MethodName := ⟨RX12, "person", "(III)I"⟩
abbrev cX12_isPerson : ByteArray := prog_14_method_37_code
def yX12_isPerson : MethodName := ⟨RX12, "isPerson", "(I)Z"⟩
abbrev cX12_who : ByteArray := prog_14_method_38_code
def yX12_who : MethodName := ⟨RX12, "who", "(II)I"⟩
abbrev cX12_becomes : ByteArray := prog_14_method_39_code
def yX12_becomes : MethodName := ⟨RX12, "becomes", "(IIII)Z"⟩
abbrev cX12_isTrial : ByteArray := prog_14_method_40_code
def yX12_isTrial : MethodName := ⟨RX12, "isTrial", "(III)Z"⟩
abbrev cX12_isLaw : ByteArray := prog_14_method_41_code
def yX12_isLaw : MethodName := ⟨RX12, "isLaw", "(I)Z"⟩
abbrev cX12_x : ByteArray := prog_14_method_42_code
def yX12_x : MethodName := ⟨RX12, "x", "(I)I"⟩
abbrev cX12_y : ByteArray := prog_14_method_43_code
def yX12_y : MethodName := ⟨RX12, "y", "(I)I"⟩
abbrev cX12_works : ByteArray := prog_14_method_44_code
def yX12_works : MethodName := ⟨RX12, "works", "(III)V"⟩
abbrev cX12_takesVoice : ByteArray := prog_14_method_45_code
def yX12_takesVoice : MethodName := ⟨RX12, "takesVoice", "()V"⟩
abbrev cX12_takesFace : ByteArray := prog_14_method_46_code
def yX12_takesFace : MethodName := ⟨RX12, "takesFace", "()V"⟩
abbrev cX12_takesOdds : ByteArray := prog_14_method_47_code
def yX12_takesOdds : MethodName := ⟨RX12, "takesOdds", "()V"⟩
abbrev cX12_takesSurer : ByteArray := prog_14_method_48_code
def yX12_takesSurer : MethodName := ⟨RX12, "takesSurer", "()V"⟩
abbrev cX12_takesBetween : ByteArray := prog_14_method_49_code
def yX12_takesBetween : MethodName := ⟨RX12, "takesBetween", "()V"⟩
abbrev cX12_weighs : ByteArray := prog_14_method_50_code
def yX12_weighs : MethodName := ⟨RX12, "weighs", "(I)V"⟩
abbrev cX12_chanceOf : ByteArray := prog_14_method_51_code
def yX12_chanceOf : MethodName := ⟨RX12, "chanceOf", "(I)I"⟩
abbrev cX12_kindOf : ByteArray := prog_14_method_52_code
def yX12_kindOf : MethodName := ⟨RX12, "kindOf", "(I)I"⟩
abbrev cX12_chanceOfKind : ByteArray := prog_14_method_53_code
def yX12_chanceOfKind : MethodName := ⟨RX12, "chanceOfKind", "(I)I"⟩
abbrev cX12_likeliest : ByteArray := prog_14_method_54_code
def yX12_likeliest : MethodName := ⟨RX12, "likeliest", "()I"⟩
abbrev cX12_noticedNow : ByteArray := prog_14_method_55_code
def yX12_noticedNow : MethodName := ⟨RX12, "noticedNow", "()I"⟩
abbrev cX12_weighsIf : ByteArray := prog_14_method_56_code
def yX12_weighsIf : MethodName := ⟨RX12, "weighsIf", "(IIII)Z"⟩
abbrev cX12_weight : ByteArray := prog_14_method_57_code
def yX12_weight : MethodName := ⟨RX12, "weight", "(IIIII)I"⟩
abbrev cX12_chance : ByteArray := prog_14_method_58_code
def yX12_chance : MethodName := ⟨RX12, "chance", "(IIIII)I"⟩
abbrev cX12_kind : ByteArray := prog_14_method_59_code
def yX12_kind : MethodName := ⟨RX12, "kind", "(IIIII)I"⟩
abbrev cX12_likely : ByteArray := prog_14_method_60_code
def yX12_likely : MethodName := ⟨RX12, "likely", "(IIII)I"⟩
abbrev cX12_noticed : ByteArray := prog_14_method_61_code
def yX12_noticed : MethodName := ⟨RX12, "noticed", "(III)I"⟩
abbrev cX12_answer : ByteArray := prog_14_method_62_code
def yX12_answer : MethodName := ⟨RX12, "answer", "(IIII)I"⟩
abbrev cX12_keepsAnswer : ByteArray := prog_14_method_63_code
def yX12_keepsAnswer : MethodName := ⟨RX12, "keepsAnswer", "(IIIII)V"⟩
abbrev cX12_undo : ByteArray := prog_14_method_64_code
def yX12_undo : MethodName := ⟨RX12, "undo", "()I"⟩
abbrev cX12_worksAnswer : ByteArray := prog_14_method_65_code
def yX12_worksAnswer : MethodName := ⟨RX12, "worksAnswer", "(I)V"⟩
abbrev cX12_of : ByteArray := prog_14_method_66_code
def yX12_of : MethodName := ⟨RX12, "of", "(II)I"⟩
abbrev cX12_ones : ByteArray := prog_14_method_67_code
def yX12_ones : MethodName := ⟨RX12, "ones", "(I)V"⟩
abbrev cX12_multiplies : ByteArray := prog_14_method_68_code
def yX12_multiplies : MethodName := ⟨RX12, "multiplies", "(IJ)V"⟩
abbrev cX12_copies : ByteArray := prog_14_method_69_code
def yX12_copies : MethodName := ⟨RX12, "copies", "(II)V"⟩
abbrev cX12_joins : ByteArray := prog_14_method_70_code
def yX12_joins : MethodName := ⟨RX12, "joins", "(III)V"⟩
abbrev cX12_compares : ByteArray := prog_14_method_71_code
def yX12_compares : MethodName := ⟨RX12, "compares", "(II)I"⟩
abbrev cX12_fits : ByteArray := prog_14_method_72_code
def yX12_fits : MethodName := ⟨RX12, "fits", "(III)V"⟩
abbrev cX12_against : ByteArray := prog_14_method_73_code
def yX12_against : MethodName := ⟨RX12, "against", "()I"⟩
abbrev cX12_keeps : ByteArray := prog_14_method_74_code
def yX12_keeps : MethodName := ⟨RX12, "keeps", "()V"⟩
abbrev cX12_more : ByteArray := prog_14_method_75_code
def yX12_more : MethodName := ⟨RX12, "more", "(III)I"⟩
abbrev cX12_best : ByteArray := prog_14_method_76_code
def yX12_best : MethodName := ⟨RX12, "best", "(I)I"⟩
abbrev cX12_own : ByteArray := prog_14_method_77_code
def yX12_own : MethodName := ⟨RX12, "own", "(II)I"⟩
abbrev cX12_isOf : ByteArray := prog_14_method_78_code
def yX12_isOf : MethodName := ⟨RX12, "isOf", "(II)Z"⟩
abbrev cX12_share : ByteArray := prog_14_method_79_code
def yX12_share : MethodName := ⟨RX12, "share", "(II)I"⟩
abbrev cX12_foretold : ByteArray := prog_14_method_80_code
def yX12_foretold : MethodName := ⟨RX12, "foretold", "(III)I"⟩
abbrev cX12_pairs : ByteArray := prog_14_method_81_code
def yX12_pairs : MethodName := ⟨RX12, "pairs", "(IIIII)I"⟩
abbrev cX12_third : ByteArray := prog_14_method_82_code
def yX12_third : MethodName := ⟨RX12, "third", "(III)I"⟩
abbrev cX12_hump : ByteArray := prog_14_method_83_code
def yX12_hump : MethodName := ⟨RX12, "hump", "(III)I"⟩
abbrev cX12_rightOf : ByteArray := prog_14_method_84_code
def yX12_rightOf : MethodName := ⟨RX12, "rightOf", "(III)I"⟩
abbrev cX12_canBe : ByteArray := prog_14_method_85_code
def yX12_canBe : MethodName := ⟨RX12, "canBe", "(III)Z"⟩
abbrev cX12_right : ByteArray := prog_14_method_86_code
def yX12_right : MethodName := ⟨RX12, "right", "(III)I"⟩
abbrev cX12_worth : ByteArray := prog_14_method_87_code
def yX12_worth : MethodName := ⟨RX12, "worth", "(III)I"⟩
abbrev cX12_partedNow : ByteArray := prog_14_method_88_code
def yX12_partedNow : MethodName := ⟨RX12, "partedNow", "(II)I"⟩
abbrev cX12_areLaws : ByteArray := prog_14_method_89_code
def yX12_areLaws : MethodName := ⟨RX12, "areLaws", "(I)Z"⟩
abbrev cX12_parted : ByteArray := prog_14_method_90_code
def yX12_parted : MethodName := ⟨RX12, "parted", "(IIII)I"⟩
abbrev cX12_next : ByteArray := prog_14_method_91_code
def yX12_next : MethodName := ⟨RX12, "next", "(IIII)I"⟩
abbrev cX12_knowing : ByteArray := prog_14_method_92_code
def yX12_knowing : MethodName := ⟨RX12, "knowing", "(IIII)I"⟩
abbrev cX12_brought : ByteArray := prog_14_method_93_code
def yX12_brought : MethodName := ⟨RX12, "brought", "(J)I"⟩
abbrev cX12_tellsNames : ByteArray := prog_14_method_94_code
def yX12_tellsNames : MethodName := ⟨RX12, "tellsNames", "(III)V"⟩
abbrev cX12_called : ByteArray := prog_14_method_95_code
def yX12_called : MethodName := ⟨RX12, "called", "(IIII)I"⟩
abbrev cX12_draws : ByteArray := prog_14_method_96_code
def yX12_draws : MethodName := ⟨RX12, "draws", "(J)I"⟩
abbrev cX12_draw : ByteArray := prog_14_method_97_code
def yX12_draw : MethodName := ⟨RX12, "draw", "(IIII)I"⟩
abbrev cX12_image : ByteArray := prog_14_method_98_code
def yX12_image : MethodName := ⟨RX12, "image", "(I)Z"⟩
abbrev cX12_back : ByteArray := prog_14_method_99_code
def yX12_back : MethodName := ⟨RX12, "back", "(I)Z"⟩
abbrev cX12_count : ByteArray := prog_14_method_100_code
def yX12_count : MethodName := ⟨RX12, "count", "(I)I"⟩
def RJ9 : String := "java/lang/Math"
def TJ9 : u_T := fun k => match k with
  | _ => ("", "", "", false)
def tyJ9 : Nat → FieldType := fun k => match k with
  | _ => .int
abbrev wsJ90 : List Cond := u_ws RJ9 TJ9 0
theorem nmJ9 : ∀ a, a < 0 → ∀ b, b < 0 → a ≠ b → (TJ9 a).2.1 ≠ (TJ9 b).2.1 := by decide +kernel
theorem tyJ9_ok : ∀ k, k < 0 → parseFieldDescriptor (TJ9 k).2.2.1 = some (tyJ9 k) := by decide +kernel
abbrev cJ9_abs_0f7a4 : ByteArray := prog_15_method_59_code
def yJ9_abs_0f7a4 : MethodName := ⟨RJ9, "abs", "(I)I"⟩
abbrev cJ9_abs_067f4 : ByteArray := prog_15_method_61_code
def yJ9_abs_067f4 : MethodName := ⟨RJ9, "abs", "(J)J"⟩
abbrev cJ9_max_7cf53 : ByteArray := prog_15_method_65_code
def yJ9_max_7cf53 : MethodName := ⟨RJ9, "max", "(II)I"⟩
abbrev cJ9_max_f86c9 : ByteArray := prog_15_method_66_code
def yJ9_max_f86c9 : MethodName := ⟨RJ9, "max", "(JJ)J"⟩
abbrev cJ9_min_7cf53 : ByteArray := prog_15_method_69_code
def yJ9_min_7cf53 : MethodName := ⟨RJ9, "min", "(II)I"⟩
abbrev cJ9_min_f86c9 : ByteArray := prog_15_method_70_code
def yJ9_min_f86c9 : MethodName := ⟨RJ9, "min", "(JJ)J"⟩
def RJ0 : String := "java/lang/String"
def TJ0 : u_T := fun k => match k with
  | _ => ("", "", "", false)
def tyJ0 : Nat → FieldType := fun k => match k with
  | _ => .int
abbrev wsJ00 : List Cond := u_ws RJ0 TJ0 0
theorem nmJ0 : ∀ a, a < 0 → ∀ b, b < 0 → a ≠ b → (TJ0 a).2.1 ≠ (TJ0 b).2.1 := by decide +kernel
theorem tyJ0_ok : ∀ k, k < 0 → parseFieldDescriptor (TJ0 k).2.2.1 = some (tyJ0 k) := by decide +kernel
abbrev cJ0_length_8abf5 : ByteArray := prog_16_method_54_code
def yJ0_length_8abf5 : MethodName := ⟨RJ0, "length", "()I"⟩
abbrev cJ0_charAt_5068e : ByteArray := prog_16_method_56_code
def yJ0_charAt_5068e : MethodName := ⟨RJ0, "charAt", "(I)C"⟩
abbrev cJ0_coder_7d493 : ByteArray := prog_16_method_152_code
def yJ0_coder_7d493 : MethodName := ⟨RJ0, "coder", "()B"⟩
abbrev cJ0_isLatin1_aae02 : ByteArray := prog_16_method_154_code
def yJ0_isLatin1_aae02 : MethodName := ⟨RJ0, "isLatin1", "()Z"⟩
abbrev cJ0_checkIndex_df160 : ByteArray := prog_16_method_155_code
def yJ0_checkIndex_df160 : MethodName := ⟨RJ0, "checkIndex", "(II)V"⟩
def RJ1 : String := "java/lang/StringLatin1"
def TJ1 : u_T := fun k => match k with
  | _ => ("", "", "", false)
def tyJ1 : Nat → FieldType := fun k => match k with
  | _ => .int
abbrev wsJ10 : List Cond := u_ws RJ1 TJ1 0
theorem nmJ1 : ∀ a, a < 0 → ∀ b, b < 0 → a ≠ b → (TJ1 a).2.1 ≠ (TJ1 b).2.1 := by decide +kernel
theorem tyJ1_ok : ∀ k, k < 0 → parseFieldDescriptor (TJ1 k).2.2.1 = some (tyJ1 k) := by decide +kernel
abbrev cJ1_charAt_3b067 : ByteArray := prog_17_method_2_code
def yJ1_charAt_3b067 : MethodName := ⟨RJ1, "charAt", "([BI)C"⟩
def RJ2 : String := "java/lang/StringUTF16"
def TJ2 : u_T := fun k => match k with
  | _ => ("", "", "", false)
def tyJ2 : Nat → FieldType := fun k => match k with
  | _ => .int
abbrev wsJ20 : List Cond := u_ws RJ2 TJ2 0
theorem nmJ2 : ∀ a, a < 0 → ∀ b, b < 0 → a ≠ b → (TJ2 a).2.1 ≠ (TJ2 b).2.1 := by decide +kernel
theorem tyJ2_ok : ∀ k, k < 0 → parseFieldDescriptor (TJ2 k).2.2.1 = some (tyJ2 k) := by decide +kernel
abbrev cJ2_getChar_3b067 : ByteArray := prog_18_method_5_code
def yJ2_getChar_3b067 : MethodName := ⟨RJ2, "getChar", "([BI)C"⟩
abbrev cJ2_length_9d52b : ByteArray := prog_18_method_6_code
def yJ2_length_9d52b : MethodName := ⟨RJ2, "length", "([B)I"⟩
abbrev cJ2_charAt_3b067 : ByteArray := prog_18_method_83_code
def yJ2_charAt_3b067 : MethodName := ⟨RJ2, "charAt", "([BI)C"⟩
abbrev cJ2_checkIndex_2214a : ByteArray := prog_18_method_91_code
def yJ2_checkIndex_2214a : MethodName := ⟨RJ2, "checkIndex", "(I[B)V"⟩
def RJ3 : String := "jdk/internal/util/Preconditions"
def TJ3 : u_T := fun k => match k with
  | _ => ("", "", "", false)
def tyJ3 : Nat → FieldType := fun k => match k with
  | _ => .int
abbrev wsJ30 : List Cond := u_ws RJ3 TJ3 0
theorem nmJ3 : ∀ a, a < 0 → ∀ b, b < 0 → a ≠ b → (TJ3 a).2.1 ≠ (TJ3 b).2.1 := by decide +kernel
theorem tyJ3_ok : ∀ k, k < 0 → parseFieldDescriptor (TJ3 k).2.2.1 = some (tyJ3 k) := by decide +kernel
abbrev cJ3_checkIndex_8e157 : ByteArray := prog_19_method_11_code
def yJ3_checkIndex_8e157 : MethodName := ⟨RJ3, "checkIndex", "(IILjava/util/function/BiFunction;)I"⟩
def RL : String := "LipsVoiceLaw"
abbrev cL_law : ByteArray := code
def yL_law : MethodName := ⟨RL, "law", "([I)Z"⟩
