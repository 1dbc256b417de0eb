section
-- ===== PART A: goes FIRST, ahead of the names: the tables' words, and 'selects' of the private methods out of them =====
/-- a private method of a class that the tables say can be made, by its rows of tables_1 -/
def lw_okq (q : MethodName × Nat) : Prop := (q.1.cls ≠ "java/lang/invoke/MethodHandle" ∧ q.1.cls ≠ "java/lang/invoke/VarHandle") ∧ Cond.instantiable q.1.cls q.2 ∈ tables_1 ∧ Cond.privateMethod q.1 ∈ tables_1 ∧ Cond.instanceMethod q.1 ∈ tables_1
theorem lw_p0 : lw_okq (⟨"EvenOars", "refuse", "(I)Z"⟩, 13) := sorry
theorem lw_p1 : lw_okq (⟨"EvenOars$Tape", "wordEnd", "()I"⟩, 8) := sorry
theorem lw_p2 : lw_okq (⟨"EvenOars", "keepFault", "()V"⟩, 13) := sorry
theorem lw_p3 : lw_okq (⟨"EvenOars$Crew", "noteAct", "(III)V"⟩, 14) := sorry
theorem lw_p4 : lw_okq (⟨"EvenOars$Crew", "flip", "(I)V"⟩, 14) := sorry
theorem lw_p5 : lw_okq (⟨"EvenOars$Crew", "exchange", "(II)V"⟩, 14) := sorry
theorem lw_p6 : lw_okq (⟨"EvenOars", "canGoBy", "(I)Z"⟩, 13) := sorry
theorem lw_p7 : lw_okq (⟨"EvenOars$Crew", "drawnSwing", "()J"⟩, 14) := sorry
theorem lw_p8 : lw_okq (⟨"EvenOars$Crew", "drawOfThree", "()I"⟩, 14) := sorry
theorem lw_p9 : lw_okq (⟨"EvenOars$Halves", "countWays", "()V"⟩, 7) := sorry
theorem lw_p10 : lw_okq (⟨"EvenOars$Halves", "choose", "(IIII)I"⟩, 7) := sorry
theorem lw_p11 : lw_okq (⟨"EvenOars$Nearest", "scan", "(LEvenOars$Plan;LEvenOars$Lanes;)V"⟩, 11) := sorry
theorem lw_p12 : lw_okq (⟨"EvenOars$Nearest", "setLanes", "(LEvenOars$Plan;LEvenOars$Lanes;)V"⟩, 11) := sorry
theorem lw_p13 : lw_okq (⟨"EvenOars$Nearest", "weigh", "(LEvenOars$Lanes;II)V"⟩, 11) := sorry
theorem lw_p14 : lw_okq (⟨"EvenOars$Nearest", "arrange", "(LEvenOars$Crew;LEvenOars$Lanes;II)V"⟩, 11) := sorry
theorem lw_p15 : lw_okq (⟨"EvenOars$Nearest", "keepOrder", "()V"⟩, 11) := sorry
def lw_privs_1 : List (MethodName × Nat) := [(⟨"EvenOars", "refuse", "(I)Z"⟩, 13), (⟨"EvenOars$Tape", "wordEnd", "()I"⟩, 8), (⟨"EvenOars", "keepFault", "()V"⟩, 13), (⟨"EvenOars$Crew", "noteAct", "(III)V"⟩, 14), (⟨"EvenOars$Crew", "flip", "(I)V"⟩, 14), (⟨"EvenOars$Crew", "exchange", "(II)V"⟩, 14), (⟨"EvenOars", "canGoBy", "(I)Z"⟩, 13), (⟨"EvenOars$Crew", "drawnSwing", "()J"⟩, 14), (⟨"EvenOars$Crew", "drawOfThree", "()I"⟩, 14), (⟨"EvenOars$Halves", "countWays", "()V"⟩, 7), (⟨"EvenOars$Halves", "choose", "(IIII)I"⟩, 7), (⟨"EvenOars$Nearest", "scan", "(LEvenOars$Plan;LEvenOars$Lanes;)V"⟩, 11), (⟨"EvenOars$Nearest", "setLanes", "(LEvenOars$Plan;LEvenOars$Lanes;)V"⟩, 11), (⟨"EvenOars$Nearest", "weigh", "(LEvenOars$Lanes;II)V"⟩, 11), (⟨"EvenOars$Nearest", "arrange", "(LEvenOars$Crew;LEvenOars$Lanes;II)V"⟩, 11), (⟨"EvenOars$Nearest", "keepOrder", "()V"⟩, 11)]
theorem lw_r1 : ∀ q ∈ lw_privs_1, lw_okq q := List.forall_mem_cons.mpr ⟨lw_p0, List.forall_mem_cons.mpr ⟨lw_p1, List.forall_mem_cons.mpr ⟨lw_p2, List.forall_mem_cons.mpr ⟨lw_p3, List.forall_mem_cons.mpr ⟨lw_p4, List.forall_mem_cons.mpr ⟨lw_p5, List.forall_mem_cons.mpr ⟨lw_p6, List.forall_mem_cons.mpr ⟨lw_p7, List.forall_mem_cons.mpr ⟨lw_p8, List.forall_mem_cons.mpr ⟨lw_p9, List.forall_mem_cons.mpr ⟨lw_p10, List.forall_mem_cons.mpr ⟨lw_p11, List.forall_mem_cons.mpr ⟨lw_p12, List.forall_mem_cons.mpr ⟨lw_p13, List.forall_mem_cons.mpr ⟨lw_p14, List.forall_mem_cons.mpr ⟨lw_p15, fun _ h => absurd h List.not_mem_nil⟩⟩⟩⟩⟩⟩⟩⟩⟩⟩⟩⟩⟩⟩⟩⟩
theorem lw_p16 : lw_okq (⟨"EvenOars$Changes", "load", "(LEvenOars$Crew;)V"⟩, 5) := sorry
theorem lw_p17 : lw_okq (⟨"EvenOars$Changes", "canBeLawful", "(LEvenOars$Plan;I)Z"⟩, 5) := sorry
theorem lw_p18 : lw_okq (⟨"EvenOars$Changes", "bySwaps", "(LEvenOars$Plan;III)Z"⟩, 5) := sorry
theorem lw_p19 : lw_okq (⟨"EvenOars$Changes", "byTurns", "(LEvenOars$Plan;II)Z"⟩, 5) := sorry
theorem lw_p20 : lw_okq (⟨"EvenOars$Changes", "isGood", "(I)Z"⟩, 5) := sorry
theorem lw_p21 : lw_okq (⟨"EvenOars$Changes", "flip", "(I)V"⟩, 5) := sorry
theorem lw_p22 : lw_okq (⟨"EvenOars$Changes", "exchange", "(II)V"⟩, 5) := sorry
theorem lw_p23 : lw_okq (⟨"EvenOars$Race", "setLanes", "(LEvenOars$Crew;LEvenOars$Lanes;I)V"⟩, 8) := sorry
theorem lw_p24 : lw_okq (⟨"EvenOars$Race", "sailAsTheySit", "(LEvenOars$Crew;I)V"⟩, 8) := sorry
theorem lw_p25 : lw_okq (⟨"EvenOars$Race", "tryChange", "(LEvenOars$Crew;III)V"⟩, 8) := sorry
theorem lw_p26 : lw_okq (⟨"EvenOars$Trials", "countRows", "(LEvenOars$Plan;)V"⟩, 9) := sorry
theorem lw_p27 : lw_okq (⟨"EvenOars$Trials", "setBounds", "(LEvenOars$Plan;I)V"⟩, 9) := sorry
theorem lw_p28 : lw_okq (⟨"EvenOars$Trials", "rowsFrom", "(LEvenOars$Plan;I)I"⟩, 9) := sorry
theorem lw_p29 : lw_okq (⟨"EvenOars$Trials", "verdictFrom", "(LEvenOars$Plan;I)I"⟩, 9) := sorry
theorem lw_p30 : lw_okq (⟨"EvenOars$Trials", "allRowsFrom", "(LEvenOars$Plan;I)I"⟩, 9) := sorry
theorem lw_p31 : lw_okq (⟨"EvenOars$Trials", "noteStrengths", "(III)V"⟩, 9) := sorry
def lw_privs_2 : List (MethodName × Nat) := [(⟨"EvenOars$Changes", "load", "(LEvenOars$Crew;)V"⟩, 5), (⟨"EvenOars$Changes", "canBeLawful", "(LEvenOars$Plan;I)Z"⟩, 5), (⟨"EvenOars$Changes", "bySwaps", "(LEvenOars$Plan;III)Z"⟩, 5), (⟨"EvenOars$Changes", "byTurns", "(LEvenOars$Plan;II)Z"⟩, 5), (⟨"EvenOars$Changes", "isGood", "(I)Z"⟩, 5), (⟨"EvenOars$Changes", "flip", "(I)V"⟩, 5), (⟨"EvenOars$Changes", "exchange", "(II)V"⟩, 5), (⟨"EvenOars$Race", "setLanes", "(LEvenOars$Crew;LEvenOars$Lanes;I)V"⟩, 8), (⟨"EvenOars$Race", "sailAsTheySit", "(LEvenOars$Crew;I)V"⟩, 8), (⟨"EvenOars$Race", "tryChange", "(LEvenOars$Crew;III)V"⟩, 8), (⟨"EvenOars$Trials", "countRows", "(LEvenOars$Plan;)V"⟩, 9), (⟨"EvenOars$Trials", "setBounds", "(LEvenOars$Plan;I)V"⟩, 9), (⟨"EvenOars$Trials", "rowsFrom", "(LEvenOars$Plan;I)I"⟩, 9), (⟨"EvenOars$Trials", "verdictFrom", "(LEvenOars$Plan;I)I"⟩, 9), (⟨"EvenOars$Trials", "allRowsFrom", "(LEvenOars$Plan;I)I"⟩, 9), (⟨"EvenOars$Trials", "noteStrengths", "(III)V"⟩, 9)]
theorem lw_r2 : ∀ q ∈ lw_privs_2, lw_okq q := List.forall_mem_cons.mpr ⟨lw_p16, List.forall_mem_cons.mpr ⟨lw_p17, List.forall_mem_cons.mpr ⟨lw_p18, List.forall_mem_cons.mpr ⟨lw_p19, List.forall_mem_cons.mpr ⟨lw_p20, List.forall_mem_cons.mpr ⟨lw_p21, List.forall_mem_cons.mpr ⟨lw_p22, List.forall_mem_cons.mpr ⟨lw_p23, List.forall_mem_cons.mpr ⟨lw_p24, List.forall_mem_cons.mpr ⟨lw_p25, List.forall_mem_cons.mpr ⟨lw_p26, List.forall_mem_cons.mpr ⟨lw_p27, List.forall_mem_cons.mpr ⟨lw_p28, List.forall_mem_cons.mpr ⟨lw_p29, List.forall_mem_cons.mpr ⟨lw_p30, List.forall_mem_cons.mpr ⟨lw_p31, fun _ h => absurd h List.not_mem_nil⟩⟩⟩⟩⟩⟩⟩⟩⟩⟩⟩⟩⟩⟩⟩⟩
theorem lw_p32 : lw_okq (⟨"EvenOars$Trials", "rowsOfLast", "(LEvenOars$Plan;I)I"⟩, 9) := sorry
theorem lw_p33 : lw_okq (⟨"EvenOars$Trials", "tryMore", "(LEvenOars$Plan;II)V"⟩, 9) := sorry
theorem lw_p34 : lw_okq (⟨"EvenOars$Trials", "canBeCrooked", "(LEvenOars$Plan;I)Z"⟩, 9) := sorry
theorem lw_p35 : lw_okq (⟨"EvenOars$Trials", "allFitWith", "(LEvenOars$Plan;I)Z"⟩, 9) := sorry
theorem lw_p36 : lw_okq (⟨"EvenOars$Halves", "addPayments", "(LEvenOars$Plan;LEvenOars$Lanes;Z)V"⟩, 7) := sorry
theorem lw_p37 : lw_okq (⟨"EvenOars$Question", "test", "(LEvenOars$Tape;I)Z"⟩, 9) := sorry
theorem lw_p38 : lw_okq (⟨"EvenOars$Question", "both", "(LEvenOars$Tape;I)Z"⟩, 9) := sorry
theorem lw_p39 : lw_okq (⟨"EvenOars$Question", "fact", "(LEvenOars$Tape;I)Z"⟩, 9) := sorry
theorem lw_p40 : lw_okq (⟨"EvenOars$Question", "code", "(I)V"⟩, 9) := sorry
theorem lw_p41 : lw_okq (⟨"EvenOars$Question", "keep", "(I)V"⟩, 9) := sorry
theorem lw_p42 : lw_okq (⟨"EvenOars$Question", "comparison", "(LEvenOars$Tape;I)Z"⟩, 9) := sorry
theorem lw_p43 : lw_okq (⟨"EvenOars$Question", "sum", "(LEvenOars$Tape;I)Z"⟩, 9) := sorry
theorem lw_p44 : lw_okq (⟨"EvenOars$Question", "product", "(LEvenOars$Tape;I)Z"⟩, 9) := sorry
theorem lw_p45 : lw_okq (⟨"EvenOars$Question", "part", "(LEvenOars$Tape;I)Z"⟩, 9) := sorry
theorem lw_p46 : lw_okq (⟨"EvenOars$Question", "partOf", "(LEvenOars$Tape;II)Z"⟩, 9) := sorry
theorem lw_p47 : lw_okq (⟨"EvenOars$Question", "pair", "(LEvenOars$Tape;II)Z"⟩, 9) := sorry
def lw_privs_3 : List (MethodName × Nat) := [(⟨"EvenOars$Trials", "rowsOfLast", "(LEvenOars$Plan;I)I"⟩, 9), (⟨"EvenOars$Trials", "tryMore", "(LEvenOars$Plan;II)V"⟩, 9), (⟨"EvenOars$Trials", "canBeCrooked", "(LEvenOars$Plan;I)Z"⟩, 9), (⟨"EvenOars$Trials", "allFitWith", "(LEvenOars$Plan;I)Z"⟩, 9), (⟨"EvenOars$Halves", "addPayments", "(LEvenOars$Plan;LEvenOars$Lanes;Z)V"⟩, 7), (⟨"EvenOars$Question", "test", "(LEvenOars$Tape;I)Z"⟩, 9), (⟨"EvenOars$Question", "both", "(LEvenOars$Tape;I)Z"⟩, 9), (⟨"EvenOars$Question", "fact", "(LEvenOars$Tape;I)Z"⟩, 9), (⟨"EvenOars$Question", "code", "(I)V"⟩, 9), (⟨"EvenOars$Question", "keep", "(I)V"⟩, 9), (⟨"EvenOars$Question", "comparison", "(LEvenOars$Tape;I)Z"⟩, 9), (⟨"EvenOars$Question", "sum", "(LEvenOars$Tape;I)Z"⟩, 9), (⟨"EvenOars$Question", "product", "(LEvenOars$Tape;I)Z"⟩, 9), (⟨"EvenOars$Question", "part", "(LEvenOars$Tape;I)Z"⟩, 9), (⟨"EvenOars$Question", "partOf", "(LEvenOars$Tape;II)Z"⟩, 9), (⟨"EvenOars$Question", "pair", "(LEvenOars$Tape;II)Z"⟩, 9)]
theorem lw_r3 : ∀ q ∈ lw_privs_3, lw_okq q := List.forall_mem_cons.mpr ⟨lw_p32, List.forall_mem_cons.mpr ⟨lw_p33, List.forall_mem_cons.mpr ⟨lw_p34, List.forall_mem_cons.mpr ⟨lw_p35, List.forall_mem_cons.mpr ⟨lw_p36, List.forall_mem_cons.mpr ⟨lw_p37, List.forall_mem_cons.mpr ⟨lw_p38, List.forall_mem_cons.mpr ⟨lw_p39, List.forall_mem_cons.mpr ⟨lw_p40, List.forall_mem_cons.mpr ⟨lw_p41, List.forall_mem_cons.mpr ⟨lw_p42, List.forall_mem_cons.mpr ⟨lw_p43, List.forall_mem_cons.mpr ⟨lw_p44, List.forall_mem_cons.mpr ⟨lw_p45, List.forall_mem_cons.mpr ⟨lw_p46, List.forall_mem_cons.mpr ⟨lw_p47, fun _ h => absurd h List.not_mem_nil⟩⟩⟩⟩⟩⟩⟩⟩⟩⟩⟩⟩⟩⟩⟩⟩
theorem lw_p48 : lw_okq (⟨"EvenOars$Question", "answerTest", "(LEvenOars$Crew;II)J"⟩, 9) := sorry
theorem lw_p49 : lw_okq (⟨"EvenOars$Question", "valueAt", "(LEvenOars$Crew;I)J"⟩, 9) := sorry
theorem lw_p50 : lw_okq (⟨"EvenOars$Question", "keepTen", "(LEvenOars$Crew;I)V"⟩, 9) := sorry
theorem lw_p51 : lw_okq (⟨"EvenOars$Question", "push", "(J)V"⟩, 9) := sorry
theorem lw_p52 : lw_okq (⟨"EvenOars$Question", "apply", "(LEvenOars$Crew;II)V"⟩, 9) := sorry
theorem lw_p53 : lw_okq (⟨"EvenOars$Question", "pop", "()J"⟩, 9) := sorry
theorem lw_p54 : lw_okq (⟨"EvenOars$Question", "swingOf", "(J)J"⟩, 9) := sorry
theorem lw_p55 : lw_okq (⟨"EvenOars$Question", "applyToTwo", "(I)V"⟩, 9) := sorry
theorem lw_p56 : lw_okq (⟨"EvenOars$Question", "answerSum", "(LEvenOars$Crew;II)J"⟩, 9) := sorry
theorem lw_p57 : lw_okq (⟨"EvenOars$Crew", "writeOctet", "(I)V"⟩, 14) := sorry
theorem lw_p58 : lw_okq (⟨"EvenOars$Crew", "isImage", "(LEvenOars$Tape;)Z"⟩, 14) := sorry
theorem lw_p59 : lw_okq (⟨"EvenOars$Crew", "rowersCanSitSo", "(LEvenOars$Tape;)Z"⟩, 14) := sorry
theorem lw_p60 : lw_okq (⟨"EvenOars$Crew", "sidesCanBeSo", "(LEvenOars$Tape;)Z"⟩, 14) := sorry
theorem lw_p61 : lw_okq (⟨"EvenOarsModel", "look", "()I"⟩, 99) := sorry
theorem lw_p62 : lw_okq (⟨"EvenOarsModel", "statementTold", "()V"⟩, 99) := sorry
theorem lw_p63 : lw_okq (⟨"EvenOarsModel", "fail", "(II)V"⟩, 99) := sorry
def lw_privs_4 : List (MethodName × Nat) := [(⟨"EvenOars$Question", "answerTest", "(LEvenOars$Crew;II)J"⟩, 9), (⟨"EvenOars$Question", "valueAt", "(LEvenOars$Crew;I)J"⟩, 9), (⟨"EvenOars$Question", "keepTen", "(LEvenOars$Crew;I)V"⟩, 9), (⟨"EvenOars$Question", "push", "(J)V"⟩, 9), (⟨"EvenOars$Question", "apply", "(LEvenOars$Crew;II)V"⟩, 9), (⟨"EvenOars$Question", "pop", "()J"⟩, 9), (⟨"EvenOars$Question", "swingOf", "(J)J"⟩, 9), (⟨"EvenOars$Question", "applyToTwo", "(I)V"⟩, 9), (⟨"EvenOars$Question", "answerSum", "(LEvenOars$Crew;II)J"⟩, 9), (⟨"EvenOars$Crew", "writeOctet", "(I)V"⟩, 14), (⟨"EvenOars$Crew", "isImage", "(LEvenOars$Tape;)Z"⟩, 14), (⟨"EvenOars$Crew", "rowersCanSitSo", "(LEvenOars$Tape;)Z"⟩, 14), (⟨"EvenOars$Crew", "sidesCanBeSo", "(LEvenOars$Tape;)Z"⟩, 14), (⟨"EvenOarsModel", "look", "()I"⟩, 99), (⟨"EvenOarsModel", "statementTold", "()V"⟩, 99), (⟨"EvenOarsModel", "fail", "(II)V"⟩, 99)]
theorem lw_r4 : ∀ q ∈ lw_privs_4, lw_okq q := List.forall_mem_cons.mpr ⟨lw_p48, List.forall_mem_cons.mpr ⟨lw_p49, List.forall_mem_cons.mpr ⟨lw_p50, List.forall_mem_cons.mpr ⟨lw_p51, List.forall_mem_cons.mpr ⟨lw_p52, List.forall_mem_cons.mpr ⟨lw_p53, List.forall_mem_cons.mpr ⟨lw_p54, List.forall_mem_cons.mpr ⟨lw_p55, List.forall_mem_cons.mpr ⟨lw_p56, List.forall_mem_cons.mpr ⟨lw_p57, List.forall_mem_cons.mpr ⟨lw_p58, List.forall_mem_cons.mpr ⟨lw_p59, List.forall_mem_cons.mpr ⟨lw_p60, List.forall_mem_cons.mpr ⟨lw_p61, List.forall_mem_cons.mpr ⟨lw_p62, List.forall_mem_cons.mpr ⟨lw_p63, fun _ h => absurd h List.not_mem_nil⟩⟩⟩⟩⟩⟩⟩⟩⟩⟩⟩⟩⟩⟩⟩⟩
theorem lw_p64 : lw_okq (⟨"EvenOarsModel", "takes", "([C)Z"⟩, 99) := sorry
theorem lw_p65 : lw_okq (⟨"EvenOarsModel", "isHere", "([C)Z"⟩, 99) := sorry
theorem lw_p66 : lw_okq (⟨"EvenOarsModel", "seatTold", "(I)V"⟩, 99) := sorry
theorem lw_p67 : lw_okq (⟨"EvenOarsModel", "isFull", "(III)Z"⟩, 99) := sorry
theorem lw_p68 : lw_okq (⟨"EvenOarsModel", "number", "(II)I"⟩, 99) := sorry
theorem lw_p69 : lw_okq (⟨"EvenOarsModel", "seatAt", "(I)I"⟩, 99) := sorry
theorem lw_p70 : lw_okq (⟨"EvenOarsModel", "asks", "([C)V"⟩, 99) := sorry
theorem lw_p71 : lw_okq (⟨"EvenOarsModel", "rowerTold", "(I)V"⟩, 99) := sorry
theorem lw_p72 : lw_okq (⟨"EvenOarsModel", "name", "()J"⟩, 99) := sorry
theorem lw_p73 : lw_okq (⟨"EvenOarsModel", "isOwnHere", "()Z"⟩, 99) := sorry
theorem lw_p74 : lw_okq (⟨"EvenOarsModel", "fixTold", "()V"⟩, 99) := sorry
theorem lw_p75 : lw_okq (⟨"EvenOarsModel", "wantTold", "()V"⟩, 99) := sorry
theorem lw_p76 : lw_okq (⟨"EvenOarsModel", "signed", "(I)I"⟩, 99) := sorry
theorem lw_p77 : lw_okq (⟨"EvenOarsModel", "runTold", "(I)V"⟩, 99) := sorry
theorem lw_p78 : lw_okq (⟨"EvenOarsModel", "sidesTold", "(I)V"⟩, 99) := sorry
theorem lw_p79 : lw_okq (⟨"EvenOarsModel", "payTold", "(I)V"⟩, 99) := sorry
def lw_privs_5 : List (MethodName × Nat) := [(⟨"EvenOarsModel", "takes", "([C)Z"⟩, 99), (⟨"EvenOarsModel", "isHere", "([C)Z"⟩, 99), (⟨"EvenOarsModel", "seatTold", "(I)V"⟩, 99), (⟨"EvenOarsModel", "isFull", "(III)Z"⟩, 99), (⟨"EvenOarsModel", "number", "(II)I"⟩, 99), (⟨"EvenOarsModel", "seatAt", "(I)I"⟩, 99), (⟨"EvenOarsModel", "asks", "([C)V"⟩, 99), (⟨"EvenOarsModel", "rowerTold", "(I)V"⟩, 99), (⟨"EvenOarsModel", "name", "()J"⟩, 99), (⟨"EvenOarsModel", "isOwnHere", "()Z"⟩, 99), (⟨"EvenOarsModel", "fixTold", "()V"⟩, 99), (⟨"EvenOarsModel", "wantTold", "()V"⟩, 99), (⟨"EvenOarsModel", "signed", "(I)I"⟩, 99), (⟨"EvenOarsModel", "runTold", "(I)V"⟩, 99), (⟨"EvenOarsModel", "sidesTold", "(I)V"⟩, 99), (⟨"EvenOarsModel", "payTold", "(I)V"⟩, 99)]
theorem lw_r5 : ∀ q ∈ lw_privs_5, lw_okq q := List.forall_mem_cons.mpr ⟨lw_p64, List.forall_mem_cons.mpr ⟨lw_p65, List.forall_mem_cons.mpr ⟨lw_p66, List.forall_mem_cons.mpr ⟨lw_p67, List.forall_mem_cons.mpr ⟨lw_p68, List.forall_mem_cons.mpr ⟨lw_p69, List.forall_mem_cons.mpr ⟨lw_p70, List.forall_mem_cons.mpr ⟨lw_p71, List.forall_mem_cons.mpr ⟨lw_p72, List.forall_mem_cons.mpr ⟨lw_p73, List.forall_mem_cons.mpr ⟨lw_p74, List.forall_mem_cons.mpr ⟨lw_p75, List.forall_mem_cons.mpr ⟨lw_p76, List.forall_mem_cons.mpr ⟨lw_p77, List.forall_mem_cons.mpr ⟨lw_p78, List.forall_mem_cons.mpr ⟨lw_p79, fun _ h => absurd h List.not_mem_nil⟩⟩⟩⟩⟩⟩⟩⟩⟩⟩⟩⟩⟩⟩⟩⟩
theorem lw_p80 : lw_okq (⟨"EvenOarsModel", "asksSign", "(I)V"⟩, 99) := sorry
theorem lw_p81 : lw_okq (⟨"EvenOarsModel", "takesSign", "(I)Z"⟩, 99) := sorry
theorem lw_p82 : lw_okq (⟨"EvenOarsModel", "stands", "()V"⟩, 99) := sorry
theorem lw_p83 : lw_okq (⟨"EvenOarsModel", "seats", "()I"⟩, 99) := sorry
theorem lw_p84 : lw_okq (⟨"EvenOarsModel", "rowers", "()I"⟩, 99) := sorry
theorem lw_p85 : lw_okq (⟨"EvenOarsModel", "each", "()I"⟩, 99) := sorry
theorem lw_p86 : lw_okq (⟨"EvenOarsModel", "fixedMany", "()I"⟩, 99) := sorry
theorem lw_p87 : lw_okq (⟨"EvenOarsModel", "isFixed", "(I)Z"⟩, 99) := sorry
theorem lw_p88 : lw_okq (⟨"EvenOarsModel", "wants", "()I"⟩, 99) := sorry
theorem lw_p89 : lw_okq (⟨"EvenOarsModel", "isWantedOf", "(I)Z"⟩, 99) := sorry
theorem lw_p90 : lw_okq (⟨"EvenOarsModel", "near", "()I"⟩, 99) := sorry
theorem lw_p91 : lw_okq (⟨"EvenOarsModel", "runs", "()I"⟩, 99) := sorry
theorem lw_p92 : lw_okq (⟨"EvenOarsModel", "isRower", "(I)Z"⟩, 99) := sorry
theorem lw_p93 : lw_okq (⟨"EvenOarsModel", "isSeat", "(I)Z"⟩, 99) := sorry
theorem lw_p94 : lw_okq (⟨"EvenOarsModel", "pullOf", "(II)I"⟩, 99) := sorry
theorem lw_p95 : lw_okq (⟨"EvenOarsModel", "strengthAt", "(II)I"⟩, 99) := sorry
def lw_privs_6 : List (MethodName × Nat) := [(⟨"EvenOarsModel", "asksSign", "(I)V"⟩, 99), (⟨"EvenOarsModel", "takesSign", "(I)Z"⟩, 99), (⟨"EvenOarsModel", "stands", "()V"⟩, 99), (⟨"EvenOarsModel", "seats", "()I"⟩, 99), (⟨"EvenOarsModel", "rowers", "()I"⟩, 99), (⟨"EvenOarsModel", "each", "()I"⟩, 99), (⟨"EvenOarsModel", "fixedMany", "()I"⟩, 99), (⟨"EvenOarsModel", "isFixed", "(I)Z"⟩, 99), (⟨"EvenOarsModel", "wants", "()I"⟩, 99), (⟨"EvenOarsModel", "isWantedOf", "(I)Z"⟩, 99), (⟨"EvenOarsModel", "near", "()I"⟩, 99), (⟨"EvenOarsModel", "runs", "()I"⟩, 99), (⟨"EvenOarsModel", "isRower", "(I)Z"⟩, 99), (⟨"EvenOarsModel", "isSeat", "(I)Z"⟩, 99), (⟨"EvenOarsModel", "pullOf", "(II)I"⟩, 99), (⟨"EvenOarsModel", "strengthAt", "(II)I"⟩, 99)]
theorem lw_r6 : ∀ q ∈ lw_privs_6, lw_okq q := List.forall_mem_cons.mpr ⟨lw_p80, List.forall_mem_cons.mpr ⟨lw_p81, List.forall_mem_cons.mpr ⟨lw_p82, List.forall_mem_cons.mpr ⟨lw_p83, List.forall_mem_cons.mpr ⟨lw_p84, List.forall_mem_cons.mpr ⟨lw_p85, List.forall_mem_cons.mpr ⟨lw_p86, List.forall_mem_cons.mpr ⟨lw_p87, List.forall_mem_cons.mpr ⟨lw_p88, List.forall_mem_cons.mpr ⟨lw_p89, List.forall_mem_cons.mpr ⟨lw_p90, List.forall_mem_cons.mpr ⟨lw_p91, List.forall_mem_cons.mpr ⟨lw_p92, List.forall_mem_cons.mpr ⟨lw_p93, List.forall_mem_cons.mpr ⟨lw_p94, List.forall_mem_cons.mpr ⟨lw_p95, fun _ h => absurd h List.not_mem_nil⟩⟩⟩⟩⟩⟩⟩⟩⟩⟩⟩⟩⟩⟩⟩⟩
theorem lw_p96 : lw_okq (⟨"EvenOarsModel", "seatOf", "(I)I"⟩, 99) := sorry
theorem lw_p97 : lw_okq (⟨"EvenOarsModel", "swingBy", "(III)J"⟩, 99) := sorry
theorem lw_p98 : lw_okq (⟨"EvenOarsModel", "offBy", "(I)J"⟩, 99) := sorry
theorem lw_p99 : lw_okq (⟨"EvenOarsModel", "isGood", "(I)Z"⟩, 99) := sorry
theorem lw_p100 : lw_okq (⟨"EvenOarsModel", "isLawful", "(I)Z"⟩, 99) := sorry
theorem lw_p101 : lw_okq (⟨"EvenOarsModel", "keeps", "()V"⟩, 99) := sorry
theorem lw_p102 : lw_okq (⟨"EvenOarsModel", "canSwap", "(II)Z"⟩, 99) := sorry
theorem lw_p103 : lw_okq (⟨"EvenOarsModel", "changesSeats", "(II)V"⟩, 99) := sorry
theorem lw_p104 : lw_okq (⟨"EvenOarsModel", "canGo", "(I)Z"⟩, 99) := sorry
theorem lw_p105 : lw_okq (⟨"EvenOarsModel", "rows", "()V"⟩, 99) := sorry
theorem lw_p106 : lw_okq (⟨"EvenOarsModel", "drawOf", "(I)I"⟩, 99) := sorry
theorem lw_p107 : lw_okq (⟨"EvenOarsModel", "isNearest", "()Z"⟩, 99) := sorry
theorem lw_p108 : lw_okq (⟨"EvenOarsModel", "putsAside", "()V"⟩, 99) := sorry
theorem lw_p109 : lw_okq (⟨"EvenOarsModel", "sitBy", "(I)Z"⟩, 99) := sorry
theorem lw_p110 : lw_okq (⟨"EvenOarsModel", "takesBack", "()V"⟩, 99) := sorry
theorem lw_p111 : lw_okq (⟨"EvenOarsModel", "isRight", "()Z"⟩, 99) := sorry
def lw_privs_7 : List (MethodName × Nat) := [(⟨"EvenOarsModel", "seatOf", "(I)I"⟩, 99), (⟨"EvenOarsModel", "swingBy", "(III)J"⟩, 99), (⟨"EvenOarsModel", "offBy", "(I)J"⟩, 99), (⟨"EvenOarsModel", "isGood", "(I)Z"⟩, 99), (⟨"EvenOarsModel", "isLawful", "(I)Z"⟩, 99), (⟨"EvenOarsModel", "keeps", "()V"⟩, 99), (⟨"EvenOarsModel", "canSwap", "(II)Z"⟩, 99), (⟨"EvenOarsModel", "changesSeats", "(II)V"⟩, 99), (⟨"EvenOarsModel", "canGo", "(I)Z"⟩, 99), (⟨"EvenOarsModel", "rows", "()V"⟩, 99), (⟨"EvenOarsModel", "drawOf", "(I)I"⟩, 99), (⟨"EvenOarsModel", "isNearest", "()Z"⟩, 99), (⟨"EvenOarsModel", "putsAside", "()V"⟩, 99), (⟨"EvenOarsModel", "sitBy", "(I)Z"⟩, 99), (⟨"EvenOarsModel", "takesBack", "()V"⟩, 99), (⟨"EvenOarsModel", "isRight", "()Z"⟩, 99)]
theorem lw_r7 : ∀ q ∈ lw_privs_7, lw_okq q := List.forall_mem_cons.mpr ⟨lw_p96, List.forall_mem_cons.mpr ⟨lw_p97, List.forall_mem_cons.mpr ⟨lw_p98, List.forall_mem_cons.mpr ⟨lw_p99, List.forall_mem_cons.mpr ⟨lw_p100, List.forall_mem_cons.mpr ⟨lw_p101, List.forall_mem_cons.mpr ⟨lw_p102, List.forall_mem_cons.mpr ⟨lw_p103, List.forall_mem_cons.mpr ⟨lw_p104, List.forall_mem_cons.mpr ⟨lw_p105, List.forall_mem_cons.mpr ⟨lw_p106, List.forall_mem_cons.mpr ⟨lw_p107, List.forall_mem_cons.mpr ⟨lw_p108, List.forall_mem_cons.mpr ⟨lw_p109, List.forall_mem_cons.mpr ⟨lw_p110, List.forall_mem_cons.mpr ⟨lw_p111, fun _ h => absurd h List.not_mem_nil⟩⟩⟩⟩⟩⟩⟩⟩⟩⟩⟩⟩⟩⟩⟩⟩
theorem lw_p112 : lw_okq (⟨"EvenOarsModel", "isOneOff", "()Z"⟩, 99) := sorry
theorem lw_p113 : lw_okq (⟨"EvenOarsModel", "actMany", "()I"⟩, 99) := sorry
theorem lw_p114 : lw_okq (⟨"EvenOarsModel", "acts", "(I)Z"⟩, 99) := sorry
theorem lw_p115 : lw_okq (⟨"EvenOarsModel", "isTwoOff", "()Z"⟩, 99) := sorry
theorem lw_p116 : lw_okq (⟨"EvenOarsModel", "isThreeOff", "()Z"⟩, 99) := sorry
theorem lw_p117 : lw_okq (⟨"EvenOarsModel", "greatest", "(III)J"⟩, 99) := sorry
theorem lw_p118 : lw_okq (⟨"EvenOarsModel", "underBy", "(III)V"⟩, 99) := sorry
theorem lw_p119 : lw_okq (⟨"EvenOarsModel", "triesTold", "()V"⟩, 99) := sorry
theorem lw_p120 : lw_okq (⟨"EvenOarsModel", "firstUnfit", "()I"⟩, 99) := sorry
theorem lw_p121 : lw_okq (⟨"EvenOarsModel", "isFit", "(I)Z"⟩, 99) := sorry
theorem lw_p122 : lw_okq (⟨"EvenOarsModel", "fittingRows", "()I"⟩, 99) := sorry
theorem lw_p123 : lw_okq (⟨"EvenOarsModel", "payments", "()I"⟩, 99) := sorry
theorem lw_p124 : lw_okq (⟨"EvenOarsModel", "apartBy", "(IZ)J"⟩, 99) := sorry
theorem lw_p125 : lw_okq (⟨"EvenOarsModel", "qKind", "()I"⟩, 99) := sorry
theorem lw_p126 : lw_okq (⟨"EvenOarsModel", "qTest", "()V"⟩, 99) := sorry
theorem lw_p127 : lw_okq (⟨"EvenOarsModel", "qOpens", "(II)V"⟩, 99) := sorry
def lw_privs_8 : List (MethodName × Nat) := [(⟨"EvenOarsModel", "isOneOff", "()Z"⟩, 99), (⟨"EvenOarsModel", "actMany", "()I"⟩, 99), (⟨"EvenOarsModel", "acts", "(I)Z"⟩, 99), (⟨"EvenOarsModel", "isTwoOff", "()Z"⟩, 99), (⟨"EvenOarsModel", "isThreeOff", "()Z"⟩, 99), (⟨"EvenOarsModel", "greatest", "(III)J"⟩, 99), (⟨"EvenOarsModel", "underBy", "(III)V"⟩, 99), (⟨"EvenOarsModel", "triesTold", "()V"⟩, 99), (⟨"EvenOarsModel", "firstUnfit", "()I"⟩, 99), (⟨"EvenOarsModel", "isFit", "(I)Z"⟩, 99), (⟨"EvenOarsModel", "fittingRows", "()I"⟩, 99), (⟨"EvenOarsModel", "payments", "()I"⟩, 99), (⟨"EvenOarsModel", "apartBy", "(IZ)J"⟩, 99), (⟨"EvenOarsModel", "qKind", "()I"⟩, 99), (⟨"EvenOarsModel", "qTest", "()V"⟩, 99), (⟨"EvenOarsModel", "qOpens", "(II)V"⟩, 99)]
theorem lw_r8 : ∀ q ∈ lw_privs_8, lw_okq q := List.forall_mem_cons.mpr ⟨lw_p112, List.forall_mem_cons.mpr ⟨lw_p113, List.forall_mem_cons.mpr ⟨lw_p114, List.forall_mem_cons.mpr ⟨lw_p115, List.forall_mem_cons.mpr ⟨lw_p116, List.forall_mem_cons.mpr ⟨lw_p117, List.forall_mem_cons.mpr ⟨lw_p118, List.forall_mem_cons.mpr ⟨lw_p119, List.forall_mem_cons.mpr ⟨lw_p120, List.forall_mem_cons.mpr ⟨lw_p121, List.forall_mem_cons.mpr ⟨lw_p122, List.forall_mem_cons.mpr ⟨lw_p123, List.forall_mem_cons.mpr ⟨lw_p124, List.forall_mem_cons.mpr ⟨lw_p125, List.forall_mem_cons.mpr ⟨lw_p126, List.forall_mem_cons.mpr ⟨lw_p127, fun _ h => absurd h List.not_mem_nil⟩⟩⟩⟩⟩⟩⟩⟩⟩⟩⟩⟩⟩⟩⟩⟩
theorem lw_p128 : lw_okq (⟨"EvenOarsModel", "qFact", "()V"⟩, 99) := sorry
theorem lw_p129 : lw_okq (⟨"EvenOarsModel", "qCode", "(I)V"⟩, 99) := sorry
theorem lw_p130 : lw_okq (⟨"EvenOarsModel", "qSums", "()V"⟩, 99) := sorry
theorem lw_p131 : lw_okq (⟨"EvenOarsModel", "qPartTold", "()V"⟩, 99) := sorry
theorem lw_p132 : lw_okq (⟨"EvenOarsModel", "qWordOf", "(II)I"⟩, 99) := sorry
theorem lw_p133 : lw_okq (⟨"EvenOarsModel", "qWordHere", "()I"⟩, 99) := sorry
theorem lw_p134 : lw_okq (⟨"EvenOarsModel", "qAsksWord", "(I)V"⟩, 99) := sorry
theorem lw_p135 : lw_okq (⟨"EvenOarsModel", "qEndsPart", "()V"⟩, 99) := sorry
theorem lw_p136 : lw_okq (⟨"EvenOarsModel", "qDrops", "()V"⟩, 99) := sorry
theorem lw_p137 : lw_okq (⟨"EvenOarsModel", "qGoesOn", "()Z"⟩, 99) := sorry
theorem lw_p138 : lw_okq (⟨"EvenOarsModel", "qBracket", "()I"⟩, 99) := sorry
theorem lw_p139 : lw_okq (⟨"EvenOarsModel", "qDropsToBracket", "()V"⟩, 99) := sorry
theorem lw_p140 : lw_okq (⟨"EvenOarsModel", "qIsOn", "(I)Z"⟩, 99) := sorry
theorem lw_p141 : lw_okq (⟨"EvenOarsModel", "qDropsNots", "()V"⟩, 99) := sorry
theorem lw_p142 : lw_okq (⟨"EvenOarsModel", "qGoesOnTest", "()Z"⟩, 99) := sorry
theorem lw_p143 : lw_okq (⟨"EvenOarsModel", "qHasSquare", "()Z"⟩, 99) := sorry
def lw_privs_9 : List (MethodName × Nat) := [(⟨"EvenOarsModel", "qFact", "()V"⟩, 99), (⟨"EvenOarsModel", "qCode", "(I)V"⟩, 99), (⟨"EvenOarsModel", "qSums", "()V"⟩, 99), (⟨"EvenOarsModel", "qPartTold", "()V"⟩, 99), (⟨"EvenOarsModel", "qWordOf", "(II)I"⟩, 99), (⟨"EvenOarsModel", "qWordHere", "()I"⟩, 99), (⟨"EvenOarsModel", "qAsksWord", "(I)V"⟩, 99), (⟨"EvenOarsModel", "qEndsPart", "()V"⟩, 99), (⟨"EvenOarsModel", "qDrops", "()V"⟩, 99), (⟨"EvenOarsModel", "qGoesOn", "()Z"⟩, 99), (⟨"EvenOarsModel", "qBracket", "()I"⟩, 99), (⟨"EvenOarsModel", "qDropsToBracket", "()V"⟩, 99), (⟨"EvenOarsModel", "qIsOn", "(I)Z"⟩, 99), (⟨"EvenOarsModel", "qDropsNots", "()V"⟩, 99), (⟨"EvenOarsModel", "qGoesOnTest", "()Z"⟩, 99), (⟨"EvenOarsModel", "qHasSquare", "()Z"⟩, 99)]
theorem lw_r9 : ∀ q ∈ lw_privs_9, lw_okq q := List.forall_mem_cons.mpr ⟨lw_p128, List.forall_mem_cons.mpr ⟨lw_p129, List.forall_mem_cons.mpr ⟨lw_p130, List.forall_mem_cons.mpr ⟨lw_p131, List.forall_mem_cons.mpr ⟨lw_p132, List.forall_mem_cons.mpr ⟨lw_p133, List.forall_mem_cons.mpr ⟨lw_p134, List.forall_mem_cons.mpr ⟨lw_p135, List.forall_mem_cons.mpr ⟨lw_p136, List.forall_mem_cons.mpr ⟨lw_p137, List.forall_mem_cons.mpr ⟨lw_p138, List.forall_mem_cons.mpr ⟨lw_p139, List.forall_mem_cons.mpr ⟨lw_p140, List.forall_mem_cons.mpr ⟨lw_p141, List.forall_mem_cons.mpr ⟨lw_p142, List.forall_mem_cons.mpr ⟨lw_p143, fun _ h => absurd h List.not_mem_nil⟩⟩⟩⟩⟩⟩⟩⟩⟩⟩⟩⟩⟩⟩⟩⟩
theorem lw_p144 : lw_okq (⟨"EvenOarsModel", "qTold", "(I)J"⟩, 99) := sorry
theorem lw_p145 : lw_okq (⟨"EvenOarsModel", "qPuts", "(J)V"⟩, 99) := sorry
theorem lw_p146 : lw_okq (⟨"EvenOarsModel", "qOf", "(IJI)J"⟩, 99) := sorry
theorem lw_p147 : lw_okq (⟨"EvenOarsModel", "qPartOf", "(II)J"⟩, 99) := sorry
theorem lw_p148 : lw_okq (⟨"EvenOarsModel", "qOffAt", "(I)J"⟩, 99) := sorry
theorem lw_p149 : lw_okq (⟨"EvenOarsModel", "qIsGoodAt", "(I)J"⟩, 99) := sorry
theorem lw_p150 : lw_okq (⟨"EvenOarsModel", "qJoins", "(I)V"⟩, 99) := sorry
theorem lw_p151 : lw_okq (⟨"EvenOarsModel", "qTakes", "(IJI)V"⟩, 99) := sorry
theorem lw_p152 : lw_okq (⟨"EvenOarsModel", "isImage", "(I)Z"⟩, 99) := sorry
def lw_privs_10 : List (MethodName × Nat) := [(⟨"EvenOarsModel", "qTold", "(I)J"⟩, 99), (⟨"EvenOarsModel", "qPuts", "(J)V"⟩, 99), (⟨"EvenOarsModel", "qOf", "(IJI)J"⟩, 99), (⟨"EvenOarsModel", "qPartOf", "(II)J"⟩, 99), (⟨"EvenOarsModel", "qOffAt", "(I)J"⟩, 99), (⟨"EvenOarsModel", "qIsGoodAt", "(I)J"⟩, 99), (⟨"EvenOarsModel", "qJoins", "(I)V"⟩, 99), (⟨"EvenOarsModel", "qTakes", "(IJI)V"⟩, 99), (⟨"EvenOarsModel", "isImage", "(I)Z"⟩, 99)]
theorem lw_r10 : ∀ q ∈ lw_privs_10, lw_okq q := List.forall_mem_cons.mpr ⟨lw_p144, List.forall_mem_cons.mpr ⟨lw_p145, List.forall_mem_cons.mpr ⟨lw_p146, List.forall_mem_cons.mpr ⟨lw_p147, List.forall_mem_cons.mpr ⟨lw_p148, List.forall_mem_cons.mpr ⟨lw_p149, List.forall_mem_cons.mpr ⟨lw_p150, List.forall_mem_cons.mpr ⟨lw_p151, List.forall_mem_cons.mpr ⟨lw_p152, fun _ h => absurd h List.not_mem_nil⟩⟩⟩⟩⟩⟩⟩⟩⟩
def lw_privs : List (MethodName × Nat) := lw_privs_1 ++ (lw_privs_2 ++ (lw_privs_3 ++ (lw_privs_4 ++ (lw_privs_5 ++ (lw_privs_6 ++ (lw_privs_7 ++ (lw_privs_8 ++ (lw_privs_9 ++ (lw_privs_10)))))))))
def lw_tbl : List Cond := k2_sels lw_privs ++ tables_1
theorem lw_privs_ok : ∀ q ∈ lw_privs, lw_okq q := by
  show ∀ q ∈ lw_privs_1 ++ (lw_privs_2 ++ (lw_privs_3 ++ (lw_privs_4 ++ (lw_privs_5 ++ (lw_privs_6 ++ (lw_privs_7 ++ (lw_privs_8 ++ (lw_privs_9 ++ (lw_privs_10))))))))), lw_okq q
  exact List.forall_mem_append.mpr ⟨lw_r1, List.forall_mem_append.mpr ⟨lw_r2, List.forall_mem_append.mpr ⟨lw_r3, List.forall_mem_append.mpr ⟨lw_r4, List.forall_mem_append.mpr ⟨lw_r5, List.forall_mem_append.mpr ⟨lw_r6, List.forall_mem_append.mpr ⟨lw_r7, List.forall_mem_append.mpr ⟨lw_r8, List.forall_mem_append.mpr ⟨lw_r9, lw_r10⟩⟩⟩⟩⟩⟩⟩⟩⟩
-- ===== end of PART A; then your names; then what follows =====
end
section
/-! AN ABSTRACT MACHINE: the class, the reference and the law as lists of resolved instructions over Int; what a run of it answers is claimed of the JVM by one simulation theorem (a later part) -/
abbrev AV : Type := Nat × Int
abbrev Hp : Type := Int → Int → Int
abbrev AI : Type := Nat × Nat × Int × List (Int × Nat)
def vi (x : Int) : AV := (0, x)
def vl (x : Int) : AV := (1, x)
def va (x : Int) : AV := (2, x)
def vu : AV := (3, 0)
def hs (H : Hp) (c j v : Int) : Hp := fun a b => if a = c ∧ b = j then v else H a b
def w32 (x : Int) : Int := (x + 2147483648) % 4294967296 - 2147483648
def w64 (x : Int) : Int := (x + 9223372036854775808) % 18446744073709551616 - 9223372036854775808
def b_and (x y : Int) : Int := (Int32.ofInt x &&& Int32.ofInt y).toInt
def b_or (x y : Int) : Int := (Int32.ofInt x ||| Int32.ofInt y).toInt
def b_xor (x y : Int) : Int := (Int32.ofInt x ^^^ Int32.ofInt y).toInt
def b_shl (x y : Int) : Int := (Int32.ofInt x <<< (Int32.ofInt y &&& 31)).toInt
def b_shr (x y : Int) : Int := (Int32.ofInt x >>> (Int32.ofInt y &&& 31)).toInt
def b_ushr (x y : Int) : Int := ((Int32.ofInt x).toUInt32 >>> ((Int32.ofInt y).toUInt32 &&& Int32.toUInt32 31)).toInt32.toInt
def l_and (x y : Int) : Int := (Int64.ofInt x &&& Int64.ofInt y).toInt
def l_or (x y : Int) : Int := (Int64.ofInt x ||| Int64.ofInt y).toInt
def l_xor (x y : Int) : Int := (Int64.ofInt x ^^^ Int64.ofInt y).toInt
def l_shl (x y : Int) : Int := (Int64.ofInt x <<< ((Int32.ofInt y).toInt64 &&& 63)).toInt
def l_shr (x y : Int) : Int := (Int64.ofInt x >>> ((Int32.ofInt y).toInt64 &&& 63)).toInt
def w8 (x : Int) : Int := (x + 128) % 256 - 128
def w16u (x : Int) : Int := x % 65536
def cmp3 (x y : Int) : Int := if x > y then 1 else if x = y then 0 else -1
def am_bi (k : Nat) (x y : Int) : Int := match k with
  | 0 => w32 (x + y)
  | 1 => w32 (x - y)
  | 2 => w32 (x * y)
  | 3 => b_and x y
  | 4 => b_or x y
  | 5 => b_xor x y
  | 6 => b_shl x y
  | 7 => b_shr x y
  | 8 => b_ushr x y
  | 9 => w32 (Int.tdiv x y)
  | _ => w32 (Int.tmod x y)
def am_bl (k : Nat) (x y : Int) : Int := match k with
  | 0 => w64 (x + y)
  | 1 => w64 (x - y)
  | 2 => w64 (x * y)
  | 3 => l_and x y
  | 4 => l_or x y
  | 5 => l_xor x y
  | 6 => w64 (Int.tdiv x y)
  | _ => w64 (Int.tmod x y)
def am_cn (z : Int) (x y : Int) : Bool := if z = 0 then decide (x = y) else if z = 1 then decide (x ≠ y) else if z = 2 then decide (x < y) else if z = 3 then decide (y ≤ x) else if z = 4 then decide (y < x) else decide (x ≤ y)
def lget : List AV → Nat → AV
  | [], _ => vu
  | a :: _, 0 => a
  | _ :: l, n + 1 => lget l n
/-- a store of one word: what stood there goes, and a long whose second half it was -/
def lst1 : List AV → Nat → AV → List AV
  | [], _, _ => []
  | _ :: l, 0, v => v :: l
  | a :: l, 1, v => (if a.1 = 1 then vu else a) :: lst1 l 0 v
  | a :: l, n + 2, v => a :: lst1 l (n + 1) v
def lst2 : List AV → Nat → AV → List AV
  | [], _, _ => []
  | [_], _, _ => []
  | _ :: _ :: l, 0, v => v :: vu :: l
  | a :: b :: l, 1, v => (if a.1 = 1 then vu else a) :: lst2 (b :: l) 0 v
  | a :: b :: l, n + 2, v => a :: lst2 (b :: l) (n + 1) v
/-- locals at the entry -/
def lcs : Nat → List AV → List AV
  | 0, _ => []
  | n + 1, [] => vu :: lcs n []
  | 1, a :: _ => [a]
  | n + 2, a :: l => if a.1 = 1 then a :: vu :: lcs n l else a :: lcs (n + 1) l
def wds : List AV → Nat
  | [] => 0
  | a :: l => wds l + (if a.1 = 1 then 2 else 1)
def tkr : Nat → List AV → List AV → List AV
  | 0, _, acc => acc
  | _ + 1, [], acc => acc
  | n + 1, a :: st, acc => tkr n st (a :: acc)
def dpr : Nat → List AV → List AV
  | 0, st => st
  | _ + 1, [] => []
  | n + 1, _ :: st => dpr n st
def swl (x : Int) (d : Nat) : List (Int × Nat) → Nat
  | [] => d
  | q :: l => if x = q.1 then q.2 else swl x d l
end
section
/-! CODE (printed by a program of ours out of the claim's NAMES and Statement): the shapes of the cells, the blocks of the methods -/
def x_ic (z : Int) : AI := (1, 0, z, [])
def x_lc (z : Int) : AI := (2, 0, z, [])
def x_ldi (n : Nat) : AI := (3, n, 0, [])
def x_ldl (n : Nat) : AI := (53, n, 0, [])
def x_lda (n : Nat) : AI := (54, n, 0, [])
def x_s1i (n : Nat) : AI := (4, n, 0, [])
def x_s1a (n : Nat) : AI := (55, n, 0, [])
def x_s2 (n : Nat) : AI := (5, n, 0, [])
def x_inc (n : Nat) (z : Int) : AI := (6, n, z, [])
def x_go (n : Nat) : AI := (16, n, 0, [])
def x_fall (n : Nat) : AI := (17, n, 0, [])
def x_gi (k c : Int) : AI := (18, 0, c, [(k, 0)])
def x_gl (k c : Int) : AI := (19, 0, c, [(k, 0)])
def x_ga (k c : Int) : AI := (20, 0, c, [(k, 0)])
def x_pi (k c : Int) : AI := (21, 0, c, [(k, 0)])
def x_pl (k c : Int) : AI := (22, 0, c, [(k, 0)])
def x_pa (k c : Int) : AI := (23, 0, c, [(k, 0)])
def x_pz (k c : Int) : AI := (24, 0, c, [(k, 0)])
def x_ali : AI := (25, 0, 0, [])
def x_all : AI := (26, 0, 0, [])
def x_alb : AI := (27, 0, 0, [])
def x_alc : AI := (28, 0, 0, [])
def x_asi : AI := (29, 0, 0, [])
def x_asl : AI := (30, 0, 0, [])
def x_asb : AI := (31, 0, 0, [])
def x_asc : AI := (32, 0, 0, [])
def x_len : AI := (33, 0, 0, [])
def x_dup : AI := (34, 0, 0, [])
def x_dup2 : AI := (66, 0, 0, [])
def x_pop : AI := (67, 0, 0, [])
def x_call (m z : Nat) : AI := (35, m, z, [])
def x_call0 (m z : Nat) : AI := (37, m, z, [])
def x_calv (m z : Nat) (c : Int) : AI := (36, m, z, [(c, 0)])
def x_calv0 (m z : Nat) (c : Int) : AI := (38, m, z, [(c, 0)])
def x_cals (m z : Nat) (c : Int) : AI := (36, m, z, [(c, 1)])
def x_cals0 (m z : Nat) (c : Int) : AI := (38, m, z, [(c, 1)])
def x_ret : AI := (39, 0, 0, [])
def x_ri : AI := (40, 0, 0, [])
def x_rl : AI := (41, 0, 0, [])
def x_rz : AI := (42, 0, 0, [])
def x_new (c : Int) : AI := (43, 0, c, [])
def x_nw (t : Nat) : AI := (44, t, 0, [])
def x_sw (n : Nat) (q : List (Int × Nat)) : AI := (45, n, 0, q)
def x_lsw (n : Nat) (q : List (Int × Nat)) : AI := (45, n, 1, q)
def x_str (z : Int) : AI := (46, 0, z, [])
def x_acp : AI := (47, 0, 0, [])
def x_scl : AI := (48, 0, 0, [])
def x_scn : AI := (49, 0, 0, [])
def x_sln : AI := (50, 0, 0, [])
def x_sch : AI := (51, 0, 0, [])
def x_obj : AI := (52, 0, 0, [])
def x_iadd : AI := (7, 0, 0, [])
def x_isub : AI := (7, 1, 0, [])
def x_imul : AI := (7, 2, 0, [])
def x_iand : AI := (7, 3, 0, [])
def x_ior : AI := (7, 4, 0, [])
def x_ixor : AI := (7, 5, 0, [])
def x_ishl : AI := (7, 6, 0, [])
def x_ishr : AI := (7, 7, 0, [])
def x_iushr : AI := (7, 8, 0, [])
def x_idiv : AI := (10, 9, 0, [])
def x_irem : AI := (10, 10, 0, [])
def x_ladd : AI := (8, 0, 0, [])
def x_lsub : AI := (8, 1, 0, [])
def x_lmul : AI := (8, 2, 0, [])
def x_land : AI := (8, 3, 0, [])
def x_lor : AI := (8, 4, 0, [])
def x_lxor : AI := (8, 5, 0, [])
def x_ldiv : AI := (11, 6, 0, [])
def x_lrem : AI := (11, 7, 0, [])
def x_lshl : AI := (9, 0, 0, [])
def x_lshr : AI := (9, 1, 0, [])
def x_ineg : AI := (60, 0, 0, [])
def x_lneg : AI := (61, 0, 0, [])
def x_i2l : AI := (62, 0, 0, [])
def x_l2i : AI := (63, 0, 0, [])
def x_i2b : AI := (64, 0, 0, [])
def x_i2c : AI := (65, 0, 0, [])
def x_lcmp : AI := (13, 0, 0, [])
def x_ifeq (n : Nat) : AI := (14, n, 0, [])
def x_iceq (n : Nat) : AI := (15, n, 0, [])
def x_ifne (n : Nat) : AI := (14, n, 1, [])
def x_icne (n : Nat) : AI := (15, n, 1, [])
def x_iflt (n : Nat) : AI := (14, n, 2, [])
def x_iclt (n : Nat) : AI := (15, n, 2, [])
def x_ifge (n : Nat) : AI := (14, n, 3, [])
def x_icge (n : Nat) : AI := (15, n, 3, [])
def x_ifgt (n : Nat) : AI := (14, n, 4, [])
def x_icgt (n : Nat) : AI := (15, n, 4, [])
def x_ifle (n : Nat) : AI := (14, n, 5, [])
def x_icle (n : Nat) : AI := (15, n, 5, [])
def tb_c : List Int := [-1, 10, 8, -1, 1, 5, -1, -1, -1, -1, -1, -1, -1, -1, -1, -1, -1, -1, -1, -1, -1, -1, -1, -1, -1, 5, -1, -1, -1, -1, -1, -1, -1, -1, -1, -1, -1, -1, 6, -1, -1, -1, 3, -1, -1, 4, -1, -1, -1, -1, 0, -1, -1, -1, 7, -1, -1, -1, 9, -1, -1, -1, -1, -1, -1, -1, 2, -1, -1, -1, -1, 11, -1, -1, -1, -1, -1, -1, -1, -1, -1, -1, -1, -1, -1, -1, -1, -1, -1, -1, -1, -1, -1, -1, -1, -1, -1, -1, -1, -1, -1, -1, -1, -1, -1, -1, -1, -1, -1, -1, -1, -1, -1, -1, -1, -1, -1, -1, -1, -1, -1, -1, -1, -1, -1, -1, -1, -1, -1, -1, -1, -1, -1, -1, -1, -1, -1, -1, -1, -1]
def tb_t : List Int := [0, 0, 0, 3, 0, 0, 1, 1, 2, 1, 1, 1, 2, 1, 1, 1, 1, 1, 1, 1, 1, 1, 1, 2, 3, 0, 1, 1, 2, 1, 1, 1, 2, 1, 1, 1, 1, 1, 0, 1, 2, 2, 0, 2, 2, 0, 2, 1, 1, 1, 0, 1, 2, 2, 0, 2, 2, 2, 0, 2, 2, 2, 2, 2, 1, 1, 0, 2, 2, 2, 1, 0, 1, 1, 4, 4, 4, 4, 4, 4, 4, 4, 4, 4, 4, 4, 4, 4, 4, 4, 4, 1, 1, 1, 1, 2, 1, 1, 1, 1, 1, 1, 1, 1, 1, 1, 1, 1, 1, 2, 1, 1, 2, 1, 1, 1, 1, 1, 1, 4, 4, 4, 4, 4, 4, 4, 4, 4, 4, 4, 4, 4, 4, 4, 4, 4, 1, 1, 2, 1]
def tb_l : List Int := [0, 0, 0, 1600, 0, 0, 12, 12, 48, 72, 12, 12, 4, 96, 8, 8, 12, 12, 12, 12, 30, 30, 30, 30, 35, 0, 12, 12, 48, 72, 12, 12, 4, 96, 8, 8, 12, 12, 0, 1600, 64, 4, 0, 32, 384, 0, 12, 12, 5, 5, 0, 12, 48, 4, 0, 12, 32, 32, 0, 8, 8, 48, 56, 56, 6, 6, 0, 8631, 41, 12, 6, 0, 1600, 6, 4, 3, 5, 8, 5, 4, 3, 4, 5, 4, 2, 4, 3, 5, 5, 3, 2, 8, 24, 24, 24, 24, 24, 24, 2, 2, 8, 8, 192, 16, 16, 24, 24, 12, 30, 30, 30, 360, 8631, 12, 5, 12, 12, 6, 6, 5, 4, 5, 5, 4, 5, 3, 3, 2, 3, 3, 3, 6, 3, 4, 5, 5, 1700, 1700, 1700, 36]
/-- the class of a cell, the kind of an array's elements, its length -/
def shc (c : Int) : Int := match c with | .ofNat n => tb_c.getD n (-1) | _ => -1
def sht (c : Int) : Int := match c with | .ofNat n => tb_t.getD n 0 | _ => 0
def shl (c : Int) : Int := match c with | .ofNat n => tb_l.getD n 0 | _ => 0
theorem shc_1 : shc 1 = 10 := sorry
theorem shc_2 : shc 2 = 8 := sorry
theorem sht_3 : sht 3 = 3 := sorry
theorem shl_3 : shl 3 = 1600 := sorry
theorem shc_4 : shc 4 = 1 := sorry
theorem shc_5 : shc 5 = 5 := sorry
theorem sht_6 : sht 6 = 1 := sorry
theorem shl_6 : shl 6 = 12 := sorry
theorem sht_7 : sht 7 = 1 := sorry
theorem shl_7 : shl 7 = 12 := sorry
theorem sht_8 : sht 8 = 2 := sorry
theorem shl_8 : shl 8 = 48 := sorry
theorem sht_9 : sht 9 = 1 := sorry
theorem shl_9 : shl 9 = 72 := sorry
theorem sht_10 : sht 10 = 1 := sorry
theorem shl_10 : shl 10 = 12 := sorry
theorem sht_11 : sht 11 = 1 := sorry
theorem shl_11 : shl 11 = 12 := sorry
theorem sht_12 : sht 12 = 2 := sorry
theorem shl_12 : shl 12 = 4 := sorry
theorem sht_13 : sht 13 = 1 := sorry
theorem shl_13 : shl 13 = 96 := sorry
theorem sht_14 : sht 14 = 1 := sorry
theorem shl_14 : shl 14 = 8 := sorry
theorem sht_15 : sht 15 = 1 := sorry
theorem shl_15 : shl 15 = 8 := sorry
theorem sht_16 : sht 16 = 1 := sorry
theorem shl_16 : shl 16 = 12 := sorry
theorem sht_17 : sht 17 = 1 := sorry
theorem shl_17 : shl 17 = 12 := sorry
theorem sht_18 : sht 18 = 1 := sorry
theorem shl_18 : shl 18 = 12 := sorry
theorem sht_19 : sht 19 = 1 := sorry
theorem shl_19 : shl 19 = 12 := sorry
theorem sht_20 : sht 20 = 1 := sorry
theorem shl_20 : shl 20 = 30 := sorry
theorem sht_21 : sht 21 = 1 := sorry
theorem shl_21 : shl 21 = 30 := sorry
theorem sht_22 : sht 22 = 1 := sorry
theorem shl_22 : shl 22 = 30 := sorry
theorem sht_23 : sht 23 = 2 := sorry
theorem shl_23 : shl 23 = 30 := sorry
theorem sht_24 : sht 24 = 3 := sorry
theorem shl_24 : shl 24 = 35 := sorry
theorem shc_25 : shc 25 = 5 := sorry
theorem sht_26 : sht 26 = 1 := sorry
theorem shl_26 : shl 26 = 12 := sorry
theorem sht_27 : sht 27 = 1 := sorry
theorem shl_27 : shl 27 = 12 := sorry
theorem sht_28 : sht 28 = 2 := sorry
theorem shl_28 : shl 28 = 48 := sorry
theorem sht_29 : sht 29 = 1 := sorry
theorem shl_29 : shl 29 = 72 := sorry
theorem sht_30 : sht 30 = 1 := sorry
theorem shl_30 : shl 30 = 12 := sorry
theorem sht_31 : sht 31 = 1 := sorry
theorem shl_31 : shl 31 = 12 := sorry
theorem sht_32 : sht 32 = 2 := sorry
theorem shl_32 : shl 32 = 4 := sorry
theorem sht_33 : sht 33 = 1 := sorry
theorem shl_33 : shl 33 = 96 := sorry
theorem sht_34 : sht 34 = 1 := sorry
theorem shl_34 : shl 34 = 8 := sorry
theorem sht_35 : sht 35 = 1 := sorry
theorem shl_35 : shl 35 = 8 := sorry
theorem sht_36 : sht 36 = 1 := sorry
theorem shl_36 : shl 36 = 12 := sorry
theorem sht_37 : sht 37 = 1 := sorry
theorem shl_37 : shl 37 = 12 := sorry
theorem shc_38 : shc 38 = 6 := sorry
theorem sht_39 : sht 39 = 1 := sorry
theorem shl_39 : shl 39 = 1600 := sorry
theorem sht_40 : sht 40 = 2 := sorry
theorem shl_40 : shl 40 = 64 := sorry
theorem sht_41 : sht 41 = 2 := sorry
theorem shl_41 : shl 41 = 4 := sorry
theorem shc_42 : shc 42 = 3 := sorry
theorem sht_43 : sht 43 = 2 := sorry
theorem shl_43 : shl 43 = 32 := sorry
theorem sht_44 : sht 44 = 2 := sorry
theorem shl_44 : shl 44 = 384 := sorry
theorem shc_45 : shc 45 = 4 := sorry
theorem sht_46 : sht 46 = 2 := sorry
theorem shl_46 : shl 46 = 12 := sorry
theorem sht_47 : sht 47 = 1 := sorry
theorem shl_47 : shl 47 = 12 := sorry
theorem sht_48 : sht 48 = 1 := sorry
theorem shl_48 : shl 48 = 5 := sorry
theorem sht_49 : sht 49 = 1 := sorry
theorem shl_49 : shl 49 = 5 := sorry
theorem shc_50 : shc 50 = 0 := sorry
theorem sht_51 : sht 51 = 1 := sorry
theorem shl_51 : shl 51 = 12 := sorry
theorem sht_52 : sht 52 = 2 := sorry
theorem shl_52 : shl 52 = 48 := sorry
theorem sht_53 : sht 53 = 2 := sorry
theorem shl_53 : shl 53 = 4 := sorry
theorem shc_54 : shc 54 = 7 := sorry
theorem sht_55 : sht 55 = 2 := sorry
theorem shl_55 : shl 55 = 12 := sorry
theorem sht_56 : sht 56 = 2 := sorry
theorem shl_56 : shl 56 = 32 := sorry
theorem sht_57 : sht 57 = 2 := sorry
theorem shl_57 : shl 57 = 32 := sorry
theorem shc_58 : shc 58 = 9 := sorry
theorem sht_59 : sht 59 = 2 := sorry
theorem shl_59 : shl 59 = 8 := sorry
theorem sht_60 : sht 60 = 2 := sorry
theorem shl_60 : shl 60 = 8 := sorry
theorem sht_61 : sht 61 = 2 := sorry
theorem shl_61 : shl 61 = 48 := sorry
theorem sht_62 : sht 62 = 2 := sorry
theorem shl_62 : shl 62 = 56 := sorry
theorem sht_63 : sht 63 = 2 := sorry
theorem shl_63 : shl 63 = 56 := sorry
theorem sht_64 : sht 64 = 1 := sorry
theorem shl_64 : shl 64 = 6 := sorry
theorem sht_65 : sht 65 = 1 := sorry
theorem shl_65 : shl 65 = 6 := sorry
theorem shc_66 : shc 66 = 2 := sorry
theorem sht_67 : sht 67 = 2 := sorry
theorem shl_67 : shl 67 = 8631 := sorry
theorem sht_68 : sht 68 = 2 := sorry
theorem shl_68 : shl 68 = 41 := sorry
theorem sht_69 : sht 69 = 2 := sorry
theorem shl_69 : shl 69 = 12 := sorry
theorem sht_70 : sht 70 = 1 := sorry
theorem shl_70 : shl 70 = 6 := sorry
theorem shc_71 : shc 71 = 11 := sorry
theorem sht_72 : sht 72 = 1 := sorry
theorem shl_72 : shl 72 = 1600 := sorry
theorem sht_73 : sht 73 = 1 := sorry
theorem shl_73 : shl 73 = 6 := sorry
theorem sht_74 : sht 74 = 4 := sorry
theorem shl_74 : shl 74 = 4 := sorry
theorem sht_75 : sht 75 = 4 := sorry
theorem shl_75 : shl 75 = 3 := sorry
theorem sht_76 : sht 76 = 4 := sorry
theorem shl_76 : shl 76 = 5 := sorry
theorem sht_77 : sht 77 = 4 := sorry
theorem shl_77 : shl 77 = 8 := sorry
theorem sht_78 : sht 78 = 4 := sorry
theorem shl_78 : shl 78 = 5 := sorry
theorem sht_79 : sht 79 = 4 := sorry
theorem shl_79 : shl 79 = 4 := sorry
theorem sht_80 : sht 80 = 4 := sorry
theorem shl_80 : shl 80 = 3 := sorry
theorem sht_81 : sht 81 = 4 := sorry
theorem shl_81 : shl 81 = 4 := sorry
theorem sht_82 : sht 82 = 4 := sorry
theorem shl_82 : shl 82 = 5 := sorry
theorem sht_83 : sht 83 = 4 := sorry
theorem shl_83 : shl 83 = 4 := sorry
theorem sht_84 : sht 84 = 4 := sorry
theorem shl_84 : shl 84 = 2 := sorry
theorem sht_85 : sht 85 = 4 := sorry
theorem shl_85 : shl 85 = 4 := sorry
theorem sht_86 : sht 86 = 4 := sorry
theorem shl_86 : shl 86 = 3 := sorry
theorem sht_87 : sht 87 = 4 := sorry
theorem shl_87 : shl 87 = 5 := sorry
theorem sht_88 : sht 88 = 4 := sorry
theorem shl_88 : shl 88 = 5 := sorry
theorem sht_89 : sht 89 = 4 := sorry
theorem shl_89 : shl 89 = 3 := sorry
theorem sht_90 : sht 90 = 4 := sorry
theorem shl_90 : shl 90 = 2 := sorry
theorem sht_91 : sht 91 = 1 := sorry
theorem shl_91 : shl 91 = 8 := sorry
theorem sht_92 : sht 92 = 1 := sorry
theorem shl_92 : shl 92 = 24 := sorry
theorem sht_93 : sht 93 = 1 := sorry
theorem shl_93 : shl 93 = 24 := sorry
theorem sht_94 : sht 94 = 1 := sorry
theorem shl_94 : shl 94 = 24 := sorry
theorem sht_95 : sht 95 = 2 := sorry
theorem shl_95 : shl 95 = 24 := sorry
theorem sht_96 : sht 96 = 1 := sorry
theorem shl_96 : shl 96 = 24 := sorry
theorem sht_97 : sht 97 = 1 := sorry
theorem shl_97 : shl 97 = 24 := sorry
theorem sht_98 : sht 98 = 1 := sorry
theorem shl_98 : shl 98 = 2 := sorry
theorem sht_99 : sht 99 = 1 := sorry
theorem shl_99 : shl 99 = 2 := sorry
theorem sht_100 : sht 100 = 1 := sorry
theorem shl_100 : shl 100 = 8 := sorry
theorem sht_101 : sht 101 = 1 := sorry
theorem shl_101 : shl 101 = 8 := sorry
theorem sht_102 : sht 102 = 1 := sorry
theorem shl_102 : shl 102 = 192 := sorry
theorem sht_103 : sht 103 = 1 := sorry
theorem shl_103 : shl 103 = 16 := sorry
theorem sht_104 : sht 104 = 1 := sorry
theorem shl_104 : shl 104 = 16 := sorry
theorem sht_105 : sht 105 = 1 := sorry
theorem shl_105 : shl 105 = 24 := sorry
theorem sht_106 : sht 106 = 1 := sorry
theorem shl_106 : shl 106 = 24 := sorry
theorem sht_107 : sht 107 = 1 := sorry
theorem shl_107 : shl 107 = 12 := sorry
theorem sht_108 : sht 108 = 1 := sorry
theorem shl_108 : shl 108 = 30 := sorry
theorem sht_109 : sht 109 = 2 := sorry
theorem shl_109 : shl 109 = 30 := sorry
theorem sht_110 : sht 110 = 1 := sorry
theorem shl_110 : shl 110 = 30 := sorry
theorem sht_111 : sht 111 = 1 := sorry
theorem shl_111 : shl 111 = 360 := sorry
theorem sht_112 : sht 112 = 2 := sorry
theorem shl_112 : shl 112 = 8631 := sorry
theorem sht_113 : sht 113 = 1 := sorry
theorem shl_113 : shl 113 = 12 := sorry
theorem sht_114 : sht 114 = 1 := sorry
theorem shl_114 : shl 114 = 5 := sorry
theorem sht_115 : sht 115 = 1 := sorry
theorem shl_115 : shl 115 = 12 := sorry
theorem sht_116 : sht 116 = 1 := sorry
theorem shl_116 : shl 116 = 12 := sorry
theorem sht_117 : sht 117 = 1 := sorry
theorem shl_117 : shl 117 = 6 := sorry
theorem sht_118 : sht 118 = 1 := sorry
theorem shl_118 : shl 118 = 6 := sorry
theorem sht_119 : sht 119 = 4 := sorry
theorem shl_119 : shl 119 = 5 := sorry
theorem sht_120 : sht 120 = 4 := sorry
theorem shl_120 : shl 120 = 4 := sorry
theorem sht_121 : sht 121 = 4 := sorry
theorem shl_121 : shl 121 = 5 := sorry
theorem sht_122 : sht 122 = 4 := sorry
theorem shl_122 : shl 122 = 5 := sorry
theorem sht_123 : sht 123 = 4 := sorry
theorem shl_123 : shl 123 = 4 := sorry
theorem sht_124 : sht 124 = 4 := sorry
theorem shl_124 : shl 124 = 5 := sorry
theorem sht_125 : sht 125 = 4 := sorry
theorem shl_125 : shl 125 = 3 := sorry
theorem sht_126 : sht 126 = 4 := sorry
theorem shl_126 : shl 126 = 3 := sorry
theorem sht_127 : sht 127 = 4 := sorry
theorem shl_127 : shl 127 = 2 := sorry
theorem sht_128 : sht 128 = 4 := sorry
theorem shl_128 : shl 128 = 3 := sorry
theorem sht_129 : sht 129 = 4 := sorry
theorem shl_129 : shl 129 = 3 := sorry
theorem sht_130 : sht 130 = 4 := sorry
theorem shl_130 : shl 130 = 3 := sorry
theorem sht_131 : sht 131 = 4 := sorry
theorem shl_131 : shl 131 = 6 := sorry
theorem sht_132 : sht 132 = 4 := sorry
theorem shl_132 : shl 132 = 3 := sorry
theorem sht_133 : sht 133 = 4 := sorry
theorem shl_133 : shl 133 = 4 := sorry
theorem sht_134 : sht 134 = 4 := sorry
theorem shl_134 : shl 134 = 5 := sorry
theorem sht_135 : sht 135 = 4 := sorry
theorem shl_135 : shl 135 = 5 := sorry
theorem sht_136 : sht 136 = 1 := sorry
theorem shl_136 : shl 136 = 1700 := sorry
theorem sht_137 : sht 137 = 1 := sorry
theorem shl_137 : shl 137 = 1700 := sorry
theorem sht_138 : sht 138 = 2 := sorry
theorem shl_138 : shl 138 = 1700 := sorry
theorem sht_139 : sht 139 = 1 := sorry
theorem shl_139 : shl 139 = 36 := sorry
def stx_901 : List Int := [115, 101, 97, 116, 32, 97, 114, 109, 32, 114, 111, 119, 101, 114, 32, 115, 116, 114, 101, 110, 103, 116, 104, 32, 116, 105, 114, 101, 115, 32, 101, 97, 99, 104, 32, 102, 105, 120, 32, 108, 101, 102, 116, 32, 114, 105, 103, 104, 116, 32, 119, 97, 110, 116, 32, 105, 115, 32, 110, 101, 97, 114, 32, 114, 117, 110, 32, 112, 111, 119, 101, 114, 32, 115, 119, 117, 110, 103, 32, 112, 97, 121, 32, 111, 110, 32]
def stx_902 : List Int := [102, 105, 114, 115, 116, 32, 108, 97, 115, 116, 32, 111, 102, 116, 101, 110, 32, 116, 111, 116, 97, 108, 32, 109, 111, 115, 116, 32, 108, 101, 97, 115, 116, 32, 111, 114, 32, 97, 110, 100, 32, 110, 111, 116, 32, 97, 108, 108, 32, 115, 116, 114, 111, 107, 101, 32, 111, 102, 102, 32, 103, 111, 111, 100, 32, 115, 119, 105, 110, 103, 32, 102, 111, 114, 99, 101, 32, 109, 105, 110, 32, 109, 97, 120, 32]
def stx (z : Int) : List Int := if z = 901 then stx_901 else if z = 902 then stx_902 else []
def JK_bitCount : Nat := 0
def JK_floorDiv : Nat := 1
def JK_absI : Nat := 2
def JK_absL : Nat := 3
def JK_maxI : Nat := 4
def JK_maxL : Nat := 5
def JK_minI : Nat := 6
def JK_minL : Nat := 7
def JK_fillL : Nat := 8
def JK_fillI : Nat := 9
def BT_read : Nat := 10
def BT_statement : Nat := 11
def BT_isOneTooMany : Nat := 12
def BT_seatTold : Nat := 13
def BT_rowerTold : Nat := 14
def BT_nameTold : Nat := 15
def BT_isName : Nat := 16
def BT_eachTold : Nat := 17
def BT_fixTold : Nat := 18
def BT_wantTold : Nat := 19
def BT_nearTold : Nat := 20
def BT_runTold : Nat := 21
def BT_sidesTold : Nat := 22
def BT_payTold : Nat := 23
def CH_init : Nat := 24
def CH_fewest : Nat := 25
def CH_load : Nat := 26
def CH_canBeLawful : Nat := 27
def CH_bySwaps : Nat := 28
def CH_byTurns : Nat := 29
def CH_isGood : Nat := 30
def CH_exchange : Nat := 31
def CH_flip : Nat := 32
def CW_init : Nat := 33
def CW_board : Nat := 34
def CW_seatOf : Nat := 35
def CW_sides : Nat := 36
def CW_strengthAt : Nat := 37
def CW_forceIn : Nat := 38
def CW_leverToSide : Nat := 39
def CW_swingAt : Nat := 40
def CW_offAt : Nat := 41
def CW_isGoodAt : Nat := 42
def CW_turnSeat : Nat := 43
def CW_swapRowers : Nat := 44
def CW_passBy : Nat := 45
def CW_rowOn : Nat := 46
def CW_undoAct : Nat := 47
def CW_writeImage : Nat := 48
def CW_takeImage : Nat := 49
def CW_isImage : Nat := 50
def CW_rowersCanSitSo : Nat := 51
def CW_sidesCanBeSo : Nat := 52
def CW_strokeIn : Nat := 53
def CW_checkOn : Nat := 54
def CW_writeOctet : Nat := 55
def CW_noteAct : Nat := 56
def CW_flip : Nat := 57
def CW_exchange : Nat := 58
def CW_drawnSwing : Nat := 59
def CW_drawOfThree : Nat := 60
def HV_init : Nat := 61
def HV_waysFor : Nat := 62
def HV_countWays : Nat := 63
def HV_wayAt : Nat := 64
def HV_choose : Nat := 65
def HV_canBe : Nat := 66
def HV_sumDoubled : Nat := 67
def HV_stillUpTo : Nat := 68
def HV_power : Nat := 69
def HV_partPayments : Nat := 70
def HV_addPayments : Nat := 71
def HV_heirsApart : Nat := 72
def LN_init : Nat := 73
def LN_clear : Nat := 74
def LN_add : Nat := 75
def LN_advanceTo : Nat := 76
def NE_init : Nat := 77
def NE_findAsTheySit : Nat := 78
def NE_findOrder : Nat := 79
def NE_bestRower : Nat := 80
def NE_arrange : Nat := 81
def NE_keepOrder : Nat := 82
def NE_scan : Nat := 83
def NE_setLanes : Nat := 84
def NE_weigh : Nat := 85
def PL_init : Nat := 86
def PL_clear : Nat := 87
def PL_isSeat : Nat := 88
def PL_isRower : Nat := 89
def PL_isPower : Nat := 90
def PL_isFixed : Nat := 91
def PL_seatAtPlace : Nat := 92
def PL_addSeat : Nat := 93
def PL_fixSeat : Nat := 94
def PL_addRower : Nat := 95
def PL_wantSwing : Nat := 96
def PL_addRun : Nat := 97
def PL_setRunSide : Nat := 98
def PL_addPayment : Nat := 99
def PL_wants : Nat := 100
def PL_leverOf : Nat := 101
def PL_allows : Nat := 102
def PL_sideAtFirst : Nat := 103
def PL_seatedAtFirst : Nat := 104
def PL_runLever : Nat := 105
def PL_swungOf : Nat := 106
def PL_payment : Nat := 107
def QU_init : Nat := 108
def QU_read : Nat := 109
def QU_test : Nat := 110
def QU_both : Nat := 111
def QU_fact : Nat := 112
def QU_comparison : Nat := 113
def QU_sum : Nat := 114
def QU_product : Nat := 115
def QU_part : Nat := 116
def QU_partOf : Nat := 117
def QU_pair : Nat := 118
def QU_mayOpen : Nat := 119
def QU_code : Nat := 120
def QU_keep : Nat := 121
def QU_answer : Nat := 122
def QU_answerTest : Nat := 123
def QU_answerSum : Nat := 124
def QU_valueAt : Nat := 125
def QU_keepTen : Nat := 126
def QU_apply : Nat := 127
def QU_applyToTwo : Nat := 128
def QU_swingOf : Nat := 129
def QU_forceOf : Nat := 130
def QU_joined : Nat := 131
def QU_held : Nat := 132
def QU_push : Nat := 133
def QU_pop : Nat := 134
def RA_init : Nat := 135
def RA_greatest : Nat := 136
def RA_findStillest : Nat := 137
def RA_findUnderWay : Nat := 138
def RA_sailAsTheySit : Nat := 139
def RA_tryChange : Nat := 140
def RA_setLanes : Nat := 141
def RA_greatestOf : Nat := 142
def RA_firstTen : Nat := 143
def RA_lastTen : Nat := 144
def TP_init : Nat := 145
def TP_hasRoomForFive : Nat := 146
def TP_put : Nat := 147
def TP_cut : Nat := 148
def TP_clear : Nat := 149
def TP_byteAt : Nat := 150
def TP_begin : Nat := 151
def TP_fail : Nat := 152
def TP_failHere : Nat := 153
def TP_next : Nat := 154
def TP_takeSign : Nat := 155
def TP_wordHere : Nat := 156
def TP_passWord : Nat := 157
def TP_takeWord : Nat := 158
def TP_anyWordEnd : Nat := 159
def TP_placeIn : Nat := 160
def TP_takeNumber : Nat := 161
def TP_takeSignedNumber : Nat := 162
def TP_wordEnd : Nat := 163
def TP_isLetter : Nat := 164
def TP_isDigit : Nat := 165
def TP_isBlank : Nat := 166
def TR_init : Nat := 167
def TR_forget : Nat := 168
def TR_firstUnfit : Nat := 169
def TR_told : Nat := 170
def TR_crookedSeats : Nat := 171
def TR_gapAsTold : Nat := 172
def TR_canBeCrooked : Nat := 173
def TR_allFitWith : Nat := 174
def TR_countRows : Nat := 175
def TR_setBounds : Nat := 176
def TR_rowsFrom : Nat := 177
def TR_verdictFrom : Nat := 178
def TR_allRowsFrom : Nat := 179
def TR_rowsOfLast : Nat := 180
def TR_tryMore : Nat := 181
def TR_noteStrengths : Nat := 182
def EO_init : Nat := 183
def EO_feed : Nat := 184
def EO_end : Nat := 185
def EO_text : Nat := 186
def EO_fault : Nat := 187
def EO_boat : Nat := 188
def EO_letter : Nat := 189
def EO_seat : Nat := 190
def EO_rower : Nat := 191
def EO_want : Nat := 192
def EO_swing : Nat := 193
def EO_off : Nat := 194
def EO_good : Nat := 195
def EO_lawful : Nat := 196
def EO_heading : Nat := 197
def EO_turn : Nat := 198
def EO_swap : Nat := 199
def EO_stroke : Nat := 200
def EO_row : Nat := 201
def EO_undo : Nat := 202
def EO_seed : Nat := 203
def EO_ways : Nat := 204
def EO_made : Nat := 205
def EO_doubled : Nat := 206
def EO_still : Nat := 207
def EO_nearest : Nat := 208
def EO_seated : Nat := 209
def EO_changes : Nat := 210
def EO_race : Nat := 211
def EO_stillest : Nat := 212
def EO_under : Nat := 213
def EO_fits : Nat := 214
def EO_strengths : Nat := 215
def EO_crooked : Nat := 216
def EO_heirs : Nat := 217
def EO_apart : Nat := 218
def EO_ask : Nat := 219
def EO_image : Nat := 220
def EO_octet : Nat := 221
def EO_on : Nat := 222
def EO_status : Nat := 223
def EO_refuse : Nat := 224
def EO_canGoBy : Nat := 225
def EO_keepFault : Nat := 226
def MO_init : Nat := 227
def MO_isIn : Nat := 228
def MO_feed : Nat := 229
def MO_end : Nat := 230
def MO_fail : Nat := 231
def MO_isLetter : Nat := 232
def MO_isDigit : Nat := 233
def MO_look : Nat := 234
def MO_isHere : Nat := 235
def MO_takes : Nat := 236
def MO_asks : Nat := 237
def MO_takesSign : Nat := 238
def MO_asksSign : Nat := 239
def MO_number : Nat := 240
def MO_signed : Nat := 241
def MO_isOwnHere : Nat := 242
def MO_name : Nat := 243
def MO_isFull : Nat := 244
def MO_seatAt : Nat := 245
def MO_seatTold : Nat := 246
def MO_rowerTold : Nat := 247
def MO_fixTold : Nat := 248
def MO_wantTold : Nat := 249
def MO_sidesTold : Nat := 250
def MO_runTold : Nat := 251
def MO_payTold : Nat := 252
def MO_statementTold : Nat := 253
def MO_text : Nat := 254
def MO_stands : Nat := 255
def MO_fault : Nat := 256
def MO_seats : Nat := 257
def MO_rowers : Nat := 258
def MO_runs : Nat := 259
def MO_each : Nat := 260
def MO_near : Nat := 261
def MO_isSeat : Nat := 262
def MO_isRower : Nat := 263
def MO_isFixed : Nat := 264
def MO_strengthAt : Nat := 265
def MO_pullOf : Nat := 266
def MO_raised : Nat := 267
def MO_swingBy : Nat := 268
def MO_size : Nat := 269
def MO_isWantedOf : Nat := 270
def MO_offBy : Nat := 271
def MO_isGood : Nat := 272
def MO_bits : Nat := 273
def MO_isLawful : Nat := 274
def MO_fixedMany : Nat := 275
def MO_wants : Nat := 276
def MO_boat : Nat := 277
def MO_letter : Nat := 278
def MO_seat : Nat := 279
def MO_seatOf : Nat := 280
def MO_rower : Nat := 281
def MO_isPower : Nat := 282
def MO_want : Nat := 283
def MO_swing : Nat := 284
def MO_off : Nat := 285
def MO_good : Nat := 286
def MO_lawful : Nat := 287
def MO_heading : Nat := 288
def MO_keeps : Nat := 289
def MO_undo : Nat := 290
def MO_turn : Nat := 291
def MO_changesSeats : Nat := 292
def MO_canSwap : Nat := 293
def MO_swap : Nat := 294
def MO_canGo : Nat := 295
def MO_stroke : Nat := 296
def MO_seed : Nat := 297
def MO_drawOf : Nat := 298
def MO_rows : Nat := 299
def MO_row : Nat := 300
def MO_ways : Nat := 301
def MO_sumBy : Nat := 302
def MO_made : Nat := 303
def MO_doubled : Nat := 304
def MO_still : Nat := 305
def MO_isNearest : Nat := 306
def MO_nearest : Nat := 307
def MO_putsAside : Nat := 308
def MO_takesBack : Nat := 309
def MO_sitBy : Nat := 310
def MO_seated : Nat := 311
def MO_actMany : Nat := 312
def MO_acts : Nat := 313
def MO_isRight : Nat := 314
def MO_isOneOff : Nat := 315
def MO_isTwoOff : Nat := 316
def MO_isThreeOff : Nat := 317
def MO_changes : Nat := 318
def MO_greater : Nat := 319
def MO_greatest : Nat := 320
def MO_race : Nat := 321
def MO_stillest : Nat := 322
def MO_underBy : Nat := 323
def MO_under : Nat := 324
def MO_triesTold : Nat := 325
def MO_isFit : Nat := 326
def MO_firstUnfit : Nat := 327
def MO_fits : Nat := 328
def MO_fittingRows : Nat := 329
def MO_strengths : Nat := 330
def MO_crooked : Nat := 331
def MO_payments : Nat := 332
def MO_apartBy : Nat := 333
def MO_heirs : Nat := 334
def MO_apart : Nat := 335
def MO_qCode : Nat := 336
def MO_qOpens : Nat := 337
def MO_qIsOn : Nat := 338
def MO_qDrops : Nat := 339
def MO_qIsBracket : Nat := 340
def MO_qBracket : Nat := 341
def MO_qDropsToBracket : Nat := 342
def MO_qWordHere : Nat := 343
def MO_qWordOf : Nat := 344
def MO_qAsksWord : Nat := 345
def MO_qEndsPart : Nat := 346
def MO_qPartTold : Nat := 347
def MO_qGoesOn : Nat := 348
def MO_qSums : Nat := 349
def MO_qFact : Nat := 350
def MO_qHasSquare : Nat := 351
def MO_qDropsNots : Nat := 352
def MO_qTest : Nat := 353
def MO_qGoesOnTest : Nat := 354
def MO_qClip : Nat := 355
def MO_qFloor : Nat := 356
def MO_qPuts : Nat := 357
def MO_qJoins : Nat := 358
def MO_qPartOf : Nat := 359
def MO_qOf : Nat := 360
def MO_qTold : Nat := 361
def MO_qKind : Nat := 362
def MO_qTakes : Nat := 363
def MO_ask : Nat := 364
def MO_qOffAt : Nat := 365
def MO_qIsGoodAt : Nat := 366
def MO_checked : Nat := 367
def MO_image : Nat := 368
def MO_octet : Nat := 369
def MO_isImage : Nat := 370
def MO_on : Nat := 371
def MO_status : Nat := 372
def LW_law : Nat := 373
def k_JK_bitCount_0 : List AI := [x_ldi 0, x_ldi 0, x_ic 1, x_iushr, x_ic 1431655765, x_iand, x_isub, x_s1i 0, x_ldi 0, x_ic 858993459, x_iand, x_ldi 0, x_ic 2, x_iushr, x_ic 858993459, x_iand, x_iadd, x_s1i 0, x_ldi 0, x_ldi 0, x_ic 4, x_iushr, x_iadd, x_ic 252645135, x_iand, x_s1i 0, x_ldi 0, x_ldi 0, x_ic 8, x_iushr, x_iadd, x_s1i 0, x_ldi 0, x_ldi 0, x_ic 16, x_iushr, x_iadd, x_s1i 0, x_ldi 0, x_ic 63, x_iand, x_ri]
def kb_JK_bitCount : List (List AI) := [k_JK_bitCount_0]
def k_JK_floorDiv_0 : List AI := [x_ldl 0, x_ldl 2, x_ldiv, x_s2 4, x_ldl 0, x_ldl 2, x_lxor, x_lc 0, x_lcmp, x_ifge 1, x_ldl 4, x_ldl 2, x_lmul, x_ldl 0, x_lcmp, x_ifeq 1, x_ldl 4, x_lc 1, x_lsub, x_rl]
def k_JK_floorDiv_1 : List AI := [x_ldl 4, x_rl]
def kb_JK_floorDiv : List (List AI) := [k_JK_floorDiv_0, k_JK_floorDiv_1]
def k_JK_absI_0 : List AI := [x_ldi 0, x_ifge 1, x_ldi 0, x_ineg, x_go 2]
def k_JK_absI_1 : List AI := [x_ldi 0, x_fall 2]
def k_JK_absI_2 : List AI := [x_ri]
def kb_JK_absI : List (List AI) := [k_JK_absI_0, k_JK_absI_1, k_JK_absI_2]
def k_JK_absL_0 : List AI := [x_ldl 0, x_lc 0, x_lcmp, x_ifge 1, x_ldl 0, x_lneg, x_go 2]
def k_JK_absL_1 : List AI := [x_ldl 0, x_fall 2]
def k_JK_absL_2 : List AI := [x_rl]
def kb_JK_absL : List (List AI) := [k_JK_absL_0, k_JK_absL_1, k_JK_absL_2]
def k_JK_maxI_0 : List AI := [x_ldi 0, x_ldi 1, x_iclt 1, x_ldi 0, x_go 2]
def k_JK_maxI_1 : List AI := [x_ldi 1, x_fall 2]
def k_JK_maxI_2 : List AI := [x_ri]
def kb_JK_maxI : List (List AI) := [k_JK_maxI_0, k_JK_maxI_1, k_JK_maxI_2]
def k_JK_maxL_0 : List AI := [x_ldl 0, x_ldl 2, x_lcmp, x_iflt 1, x_ldl 0, x_go 2]
def k_JK_maxL_1 : List AI := [x_ldl 2, x_fall 2]
def k_JK_maxL_2 : List AI := [x_rl]
def kb_JK_maxL : List (List AI) := [k_JK_maxL_0, k_JK_maxL_1, k_JK_maxL_2]
def k_JK_minI_0 : List AI := [x_ldi 0, x_ldi 1, x_icgt 1, x_ldi 0, x_go 2]
def k_JK_minI_1 : List AI := [x_ldi 1, x_fall 2]
def k_JK_minI_2 : List AI := [x_ri]
def kb_JK_minI : List (List AI) := [k_JK_minI_0, k_JK_minI_1, k_JK_minI_2]
def k_JK_minL_0 : List AI := [x_ldl 0, x_ldl 2, x_lcmp, x_ifgt 1, x_ldl 0, x_go 2]
def k_JK_minL_1 : List AI := [x_ldl 2, x_fall 2]
def k_JK_minL_2 : List AI := [x_rl]
def kb_JK_minL : List (List AI) := [k_JK_minL_0, k_JK_minL_1, k_JK_minL_2]
def k_JK_fillL_0 : List AI := [x_ic 0, x_s1i 3, x_lda 0, x_len, x_s1i 4, x_fall 1]
def k_JK_fillL_1 : List AI := [x_ldi 3, x_ldi 4, x_icge 2, x_lda 0, x_ldi 3, x_ldl 1, x_asl, x_inc 3 1, x_go 1]
def k_JK_fillL_2 : List AI := [x_ret]
def kb_JK_fillL : List (List AI) := [k_JK_fillL_0, k_JK_fillL_1, k_JK_fillL_2]
def k_JK_fillI_0 : List AI := [x_ic 0, x_s1i 2, x_lda 0, x_len, x_s1i 3, x_fall 1]
def k_JK_fillI_1 : List AI := [x_ldi 2, x_ldi 3, x_icge 2, x_lda 0, x_ldi 2, x_ldi 1, x_asi, x_inc 2 1, x_go 1]
def k_JK_fillI_2 : List AI := [x_ret]
def kb_JK_fillI : List (List AI) := [k_JK_fillI_0, k_JK_fillI_1, k_JK_fillI_2]
def k_BT_read_0 : List AI := [x_lda 0, x_calv0 TP_begin 1 8, x_lda 1, x_calv0 PL_clear 1 5, x_ic 0, x_s1i 2, x_fall 1]
def k_BT_read_1 : List AI := [x_ldi 2, x_ic 70, x_icgt 6, x_lda 0, x_calv TP_next 1 8, x_ic (-1), x_icne 2, x_ldi 2, x_ri]
def k_BT_read_2 : List AI := [x_ldi 2, x_ic 70, x_icne 3, x_lda 0, x_ic 5, x_lda 0, x_gi 2 8, x_calv TP_fail 3 8, x_pop, x_go 4]
def k_BT_read_3 : List AI := [x_lda 0, x_lda 1, x_call BT_statement 2, x_ifeq 4, x_lda 0, x_ic 59, x_calv TP_takeSign 2 8, x_pop, x_fall 4]
def k_BT_read_4 : List AI := [x_lda 0, x_gi 6 8, x_ifeq 5, x_ic (-1), x_ri]
def k_BT_read_5 : List AI := [x_inc 2 1, x_go 1]
def k_BT_read_6 : List AI := [x_ic (-1), x_ri]
def kb_BT_read : List (List AI) := [k_BT_read_0, k_BT_read_1, k_BT_read_2, k_BT_read_3, k_BT_read_4, k_BT_read_5, k_BT_read_6]
def k_BT_statement_0 : List AI := [x_lda 0, x_str 901, x_calv TP_wordHere 2 8, x_s1i 2, x_lda 1, x_ldi 2, x_call BT_isOneTooMany 2, x_ifeq 1, x_lda 0, x_ic 5, x_lda 0, x_gi 2 8, x_calv TP_fail 3 8, x_rz]
def k_BT_statement_1 : List AI := [x_ldi 2, x_ic (-1), x_icne 2, x_lda 0, x_calv TP_failHere 1 8, x_rz]
def k_BT_statement_2 : List AI := [x_lda 0, x_gi 2 8, x_s1i 3, x_lda 0, x_calv0 TP_passWord 1 8, x_ldi 2, x_sw 11 [(0, 3), (1, 11), (2, 4), (3, 11), (4, 11), (5, 5), (6, 6), (7, 11), (8, 11), (9, 7), (10, 11), (11, 8), (12, 9), (13, 11), (14, 11), (15, 10)]]
def k_BT_statement_3 : List AI := [x_lda 0, x_lda 1, x_call BT_seatTold 2, x_rz]
def k_BT_statement_4 : List AI := [x_lda 0, x_lda 1, x_call BT_rowerTold 2, x_rz]
def k_BT_statement_5 : List AI := [x_lda 0, x_lda 1, x_call BT_eachTold 2, x_rz]
def k_BT_statement_6 : List AI := [x_lda 0, x_lda 1, x_call BT_fixTold 2, x_rz]
def k_BT_statement_7 : List AI := [x_lda 0, x_lda 1, x_call BT_wantTold 2, x_rz]
def k_BT_statement_8 : List AI := [x_lda 0, x_lda 1, x_call BT_nearTold 2, x_rz]
def k_BT_statement_9 : List AI := [x_lda 0, x_lda 1, x_call BT_runTold 2, x_rz]
def k_BT_statement_10 : List AI := [x_lda 0, x_lda 1, x_call BT_payTold 2, x_rz]
def k_BT_statement_11 : List AI := [x_lda 0, x_ic 1, x_ldi 3, x_calv TP_fail 3 8, x_rz]
def kb_BT_statement : List (List AI) := [k_BT_statement_0, k_BT_statement_1, k_BT_statement_2, k_BT_statement_3, k_BT_statement_4, k_BT_statement_5, k_BT_statement_6, k_BT_statement_7, k_BT_statement_8, k_BT_statement_9, k_BT_statement_10, k_BT_statement_11]
def k_BT_isOneTooMany_0 : List AI := [x_ldi 1, x_lsw 13 [(0, 1), (2, 4), (12, 7), (15, 10)]]
def k_BT_isOneTooMany_1 : List AI := [x_lda 0, x_gi 0 5, x_ic 12, x_iclt 2, x_ic 1, x_go 3]
def k_BT_isOneTooMany_2 : List AI := [x_ic 0, x_fall 3]
def k_BT_isOneTooMany_3 : List AI := [x_rz]
def k_BT_isOneTooMany_4 : List AI := [x_lda 0, x_gi 6 5, x_ic 12, x_iclt 5, x_ic 1, x_go 6]
def k_BT_isOneTooMany_5 : List AI := [x_ic 0, x_fall 6]
def k_BT_isOneTooMany_6 : List AI := [x_rz]
def k_BT_isOneTooMany_7 : List AI := [x_lda 0, x_gi 13 5, x_ic 8, x_iclt 8, x_ic 1, x_go 9]
def k_BT_isOneTooMany_8 : List AI := [x_ic 0, x_fall 9]
def k_BT_isOneTooMany_9 : List AI := [x_rz]
def k_BT_isOneTooMany_10 : List AI := [x_lda 0, x_gi 17 5, x_ic 12, x_iclt 11, x_ic 1, x_go 12]
def k_BT_isOneTooMany_11 : List AI := [x_ic 0, x_fall 12]
def k_BT_isOneTooMany_12 : List AI := [x_rz]
def k_BT_isOneTooMany_13 : List AI := [x_ic 0, x_rz]
def kb_BT_isOneTooMany : List (List AI) := [k_BT_isOneTooMany_0, k_BT_isOneTooMany_1, k_BT_isOneTooMany_2, k_BT_isOneTooMany_3, k_BT_isOneTooMany_4, k_BT_isOneTooMany_5, k_BT_isOneTooMany_6, k_BT_isOneTooMany_7, k_BT_isOneTooMany_8, k_BT_isOneTooMany_9, k_BT_isOneTooMany_10, k_BT_isOneTooMany_11, k_BT_isOneTooMany_12, k_BT_isOneTooMany_13]
def k_BT_seatTold_0 : List AI := [x_lda 0, x_ic 1, x_ic 99, x_calv TP_takeNumber 3 8, x_ifne 1, x_ic 0, x_rz]
def k_BT_seatTold_1 : List AI := [x_lda 0, x_gi 4 8, x_s1i 2, x_lda 1, x_ldi 2, x_calv PL_seatAtPlace 2 5, x_ic (-1), x_iceq 2, x_lda 0, x_ic 2, x_lda 0, x_gi 5 8, x_calv TP_fail 3 8, x_rz]
def k_BT_seatTold_2 : List AI := [x_lda 0, x_str 901, x_ic 1, x_calv TP_takeWord 3 8, x_ifeq 3, x_lda 0, x_ic 1, x_ic 99, x_calv TP_takeNumber 3 8, x_ifne 4, x_fall 3]
def k_BT_seatTold_3 : List AI := [x_ic 0, x_rz]
def k_BT_seatTold_4 : List AI := [x_lda 1, x_ldi 2, x_lda 0, x_gi 4 8, x_calv0 PL_addSeat 3 5, x_ic 1, x_rz]
def kb_BT_seatTold : List (List AI) := [k_BT_seatTold_0, k_BT_seatTold_1, k_BT_seatTold_2, k_BT_seatTold_3, k_BT_seatTold_4]
def k_BT_rowerTold_0 : List AI := [x_lda 0, x_lda 1, x_call BT_nameTold 2, x_ifeq 1, x_lda 0, x_str 901, x_ic 3, x_calv TP_takeWord 3 8, x_ifeq 1, x_lda 0, x_ic 1, x_ic 99, x_calv TP_takeNumber 3 8, x_ifne 2, x_fall 1]
def k_BT_rowerTold_1 : List AI := [x_ic 0, x_rz]
def k_BT_rowerTold_2 : List AI := [x_lda 0, x_gi 4 8, x_s1i 2, x_lda 0, x_str 901, x_ic 4, x_calv TP_takeWord 3 8, x_ifeq 3, x_lda 0, x_ic 0, x_ic 9, x_calv TP_takeNumber 3 8, x_ifne 4, x_fall 3]
def k_BT_rowerTold_3 : List AI := [x_ic 0, x_rz]
def k_BT_rowerTold_4 : List AI := [x_lda 1, x_ldi 2, x_lda 0, x_gi 4 8, x_calv0 PL_addRower 3 5, x_ic 1, x_rz]
def kb_BT_rowerTold : List (List AI) := [k_BT_rowerTold_0, k_BT_rowerTold_1, k_BT_rowerTold_2, k_BT_rowerTold_3, k_BT_rowerTold_4]
def k_BT_nameTold_0 : List AI := [x_lda 0, x_calv TP_anyWordEnd 1 8, x_s1i 2, x_lda 0, x_gi 2 8, x_s1i 3, x_ldi 2, x_ic (-1), x_iceq 1, x_lda 0, x_str 901, x_ldi 2, x_calv TP_placeIn 3 8, x_ic (-1), x_iceq 2, x_fall 1]
def k_BT_nameTold_1 : List AI := [x_lda 0, x_calv TP_failHere 1 8, x_rz]
def k_BT_nameTold_2 : List AI := [x_ldi 2, x_ldi 3, x_isub, x_ic 6, x_icle 3, x_lda 0, x_ic 1, x_ldi 3, x_ic 6, x_iadd, x_calv TP_fail 3 8, x_rz]
def k_BT_nameTold_3 : List AI := [x_ic 0, x_s1i 4, x_fall 4]
def k_BT_nameTold_4 : List AI := [x_ldi 4, x_lda 1, x_gi 6 5, x_icge 6, x_lda 0, x_lda 1, x_ldi 4, x_ldi 2, x_call BT_isName 4, x_ifeq 5, x_lda 0, x_ic 3, x_ldi 3, x_calv TP_fail 3 8, x_rz]
def k_BT_nameTold_5 : List AI := [x_inc 4 1, x_go 4]
def k_BT_nameTold_6 : List AI := [x_lda 1, x_gi 6 5, x_ic 6, x_imul, x_s1i 4, x_ic 0, x_s1i 5, x_fall 7]
def k_BT_nameTold_7 : List AI := [x_ldi 5, x_ldi 2, x_ldi 3, x_isub, x_icge 8, x_ldi 4, x_ldi 5, x_iadd, x_lda 1, x_ga 7 5, x_len, x_icge 8, x_lda 1, x_ga 7 5, x_ldi 4, x_ldi 5, x_iadd, x_lda 0, x_ldi 3, x_ldi 5, x_iadd, x_calv TP_byteAt 2 8, x_ic 97, x_isub, x_ic 1, x_iadd, x_asi, x_inc 5 1, x_go 7]
def k_BT_nameTold_8 : List AI := [x_lda 0, x_calv0 TP_passWord 1 8, x_ic 1, x_rz]
def kb_BT_nameTold : List (List AI) := [k_BT_nameTold_0, k_BT_nameTold_1, k_BT_nameTold_2, k_BT_nameTold_3, k_BT_nameTold_4, k_BT_nameTold_5, k_BT_nameTold_6, k_BT_nameTold_7, k_BT_nameTold_8]
def k_BT_isName_0 : List AI := [x_ic 0, x_s1i 4, x_fall 1]
def k_BT_isName_1 : List AI := [x_ldi 4, x_ic 6, x_icge 5, x_lda 0, x_gi 2 8, x_ldi 4, x_iadd, x_ldi 3, x_icge 2, x_lda 0, x_lda 0, x_gi 2 8, x_ldi 4, x_iadd, x_calv TP_byteAt 2 8, x_ic 97, x_isub, x_ic 1, x_iadd, x_go 3]
def k_BT_isName_2 : List AI := [x_ic 0, x_fall 3]
def k_BT_isName_3 : List AI := [x_s1i 5, x_lda 1, x_ga 7 5, x_ldi 2, x_ic 6, x_imul, x_ldi 4, x_iadd, x_ali, x_ldi 5, x_iceq 4, x_ic 0, x_rz]
def k_BT_isName_4 : List AI := [x_inc 4 1, x_go 1]
def k_BT_isName_5 : List AI := [x_ic 1, x_rz]
def kb_BT_isName : List (List AI) := [k_BT_isName_0, k_BT_isName_1, k_BT_isName_2, k_BT_isName_3, k_BT_isName_4, k_BT_isName_5]
def k_BT_eachTold_0 : List AI := [x_lda 0, x_ic 0, x_ic 12, x_calv TP_takeNumber 3 8, x_ifne 1, x_ic 0, x_rz]
def k_BT_eachTold_1 : List AI := [x_lda 1, x_lda 0, x_gi 4 8, x_pi 10 5, x_ic 1, x_rz]
def kb_BT_eachTold : List (List AI) := [k_BT_eachTold_0, k_BT_eachTold_1]
def k_BT_fixTold_0 : List AI := [x_lda 0, x_ic 0, x_ic 99999, x_calv TP_takeNumber 3 8, x_ifne 1, x_ic 0, x_rz]
def k_BT_fixTold_1 : List AI := [x_lda 1, x_lda 0, x_gi 4 8, x_calv PL_seatAtPlace 2 5, x_s1i 2, x_ldi 2, x_ic (-1), x_icne 2, x_lda 0, x_ic 2, x_lda 0, x_gi 5 8, x_calv TP_fail 3 8, x_rz]
def k_BT_fixTold_2 : List AI := [x_lda 0, x_str 901, x_calv TP_wordHere 2 8, x_ic 8, x_icne 3, x_ic 1, x_go 4]
def k_BT_fixTold_3 : List AI := [x_ic 0, x_fall 4]
def k_BT_fixTold_4 : List AI := [x_s1i 3, x_lda 0, x_str 901, x_ldi 3, x_ifeq 5, x_ic 8, x_go 6]
def k_BT_fixTold_5 : List AI := [x_ic 7, x_fall 6]
def k_BT_fixTold_6 : List AI := [x_calv TP_takeWord 3 8, x_ifne 7, x_ic 0, x_rz]
def k_BT_fixTold_7 : List AI := [x_lda 1, x_ldi 2, x_ldi 3, x_calv0 PL_fixSeat 3 5, x_ic 1, x_rz]
def kb_BT_fixTold : List (List AI) := [k_BT_fixTold_0, k_BT_fixTold_1, k_BT_fixTold_2, k_BT_fixTold_3, k_BT_fixTold_4, k_BT_fixTold_5, k_BT_fixTold_6, k_BT_fixTold_7]
def k_BT_wantTold_0 : List AI := [x_lda 0, x_ic 0, x_ic 3, x_calv TP_takeNumber 3 8, x_ifne 1, x_ic 0, x_rz]
def k_BT_wantTold_1 : List AI := [x_lda 0, x_gi 4 8, x_s1i 2, x_lda 0, x_str 901, x_ic 10, x_calv TP_takeWord 3 8, x_ifeq 2, x_lda 0, x_ic 9999, x_calv TP_takeSignedNumber 2 8, x_ifne 3, x_fall 2]
def k_BT_wantTold_2 : List AI := [x_ic 0, x_rz]
def k_BT_wantTold_3 : List AI := [x_lda 1, x_ldi 2, x_lda 0, x_gi 4 8, x_calv0 PL_wantSwing 3 5, x_ic 1, x_rz]
def kb_BT_wantTold : List (List AI) := [k_BT_wantTold_0, k_BT_wantTold_1, k_BT_wantTold_2, k_BT_wantTold_3]
def k_BT_nearTold_0 : List AI := [x_lda 0, x_ic 0, x_ic 9999, x_calv TP_takeNumber 3 8, x_ifne 1, x_ic 0, x_rz]
def k_BT_nearTold_1 : List AI := [x_lda 1, x_lda 0, x_gi 4 8, x_pi 12 5, x_ic 1, x_rz]
def kb_BT_nearTold : List (List AI) := [k_BT_nearTold_0, k_BT_nearTold_1]
def k_BT_runTold_0 : List AI := [x_lda 0, x_lda 1, x_call BT_sidesTold 2, x_ifeq 1, x_lda 0, x_str 901, x_ic 13, x_calv TP_takeWord 3 8, x_ifeq 1, x_lda 0, x_ic 0, x_ic 3, x_calv TP_takeNumber 3 8, x_ifne 2, x_fall 1]
def k_BT_runTold_1 : List AI := [x_ic 0, x_rz]
def k_BT_runTold_2 : List AI := [x_lda 0, x_gi 4 8, x_s1i 2, x_lda 0, x_str 901, x_ic 14, x_calv TP_takeWord 3 8, x_ifeq 3, x_lda 0, x_ic 99999, x_calv TP_takeSignedNumber 2 8, x_ifne 4, x_fall 3]
def k_BT_runTold_3 : List AI := [x_ic 0, x_rz]
def k_BT_runTold_4 : List AI := [x_lda 1, x_ldi 2, x_lda 0, x_gi 4 8, x_calv0 PL_addRun 3 5, x_ic 1, x_rz]
def kb_BT_runTold : List (List AI) := [k_BT_runTold_0, k_BT_runTold_1, k_BT_runTold_2, k_BT_runTold_3, k_BT_runTold_4]
def k_BT_sidesTold_0 : List AI := [x_lda 0, x_calv TP_anyWordEnd 1 8, x_s1i 2, x_ldi 2, x_ic (-1), x_iceq 1, x_ldi 2, x_lda 0, x_gi 2 8, x_isub, x_lda 1, x_gi 0 5, x_iceq 2, x_fall 1]
def k_BT_sidesTold_1 : List AI := [x_lda 0, x_calv TP_failHere 1 8, x_rz]
def k_BT_sidesTold_2 : List AI := [x_ic 0, x_s1i 3, x_fall 3]
def k_BT_sidesTold_3 : List AI := [x_ldi 3, x_lda 1, x_gi 0 5, x_icge 9, x_lda 0, x_lda 0, x_gi 2 8, x_ldi 3, x_iadd, x_calv TP_byteAt 2 8, x_s1i 4, x_ldi 4, x_ic 108, x_iceq 4, x_ldi 4, x_ic 114, x_iceq 4, x_ldi 4, x_ic 120, x_iceq 4, x_lda 0, x_calv TP_failHere 1 8, x_rz]
def k_BT_sidesTold_4 : List AI := [x_ldi 4, x_ic 114, x_icne 5, x_ic 1, x_go 6]
def k_BT_sidesTold_5 : List AI := [x_ic (-1), x_fall 6]
def k_BT_sidesTold_6 : List AI := [x_s1i 5, x_lda 1, x_ldi 3, x_ldi 4, x_ic 120, x_icne 7, x_ic 0, x_go 8]
def k_BT_sidesTold_7 : List AI := [x_ldi 5, x_fall 8]
def k_BT_sidesTold_8 : List AI := [x_calv0 PL_setRunSide 3 5, x_inc 3 1, x_go 3]
def k_BT_sidesTold_9 : List AI := [x_lda 0, x_calv0 TP_passWord 1 8, x_ic 1, x_rz]
def kb_BT_sidesTold : List (List AI) := [k_BT_sidesTold_0, k_BT_sidesTold_1, k_BT_sidesTold_2, k_BT_sidesTold_3, k_BT_sidesTold_4, k_BT_sidesTold_5, k_BT_sidesTold_6, k_BT_sidesTold_7, k_BT_sidesTold_8, k_BT_sidesTold_9]
def k_BT_payTold_0 : List AI := [x_lda 0, x_ic 1, x_ic 999, x_calv TP_takeNumber 3 8, x_ifne 1, x_ic 0, x_rz]
def k_BT_payTold_1 : List AI := [x_lda 0, x_gi 4 8, x_s1i 2, x_lda 0, x_str 901, x_ic 16, x_calv TP_takeWord 3 8, x_ifeq 2, x_lda 0, x_ic 0, x_ic 999, x_calv TP_takeNumber 3 8, x_ifne 3, x_fall 2]
def k_BT_payTold_2 : List AI := [x_ic 0, x_rz]
def k_BT_payTold_3 : List AI := [x_lda 1, x_ldi 2, x_lda 0, x_gi 4 8, x_calv0 PL_addPayment 3 5, x_ic 1, x_rz]
def kb_BT_payTold : List (List AI) := [k_BT_payTold_0, k_BT_payTold_1, k_BT_payTold_2, k_BT_payTold_3]
def k_CH_init_0 : List AI := [x_lda 0, x_obj, x_lda 0, x_ic 12, x_nw 1, x_pa 0 0, x_lda 0, x_ic 48, x_nw 2, x_pa 1 0, x_lda 0, x_ic 4, x_nw 2, x_pa 2 0, x_lda 0, x_ic 0, x_pi 3 0, x_lda 0, x_ic 0, x_pi 4 0, x_ret]
def kb_CH_init : List (List AI) := [k_CH_init_0]
def k_CH_fewest_0 : List AI := [x_lda 0, x_lda 1, x_calv0 CH_load 2 0, x_ic 0, x_s1i 2, x_fall 1]
def k_CH_fewest_1 : List AI := [x_ldi 2, x_ic 3, x_icgt 5, x_ldi 2, x_s1i 3, x_fall 2]
def k_CH_fewest_2 : List AI := [x_ldi 3, x_iflt 4, x_lda 0, x_lda 1, x_ga 0 1, x_ldi 3, x_calv CH_canBeLawful 3 0, x_ifeq 3, x_lda 0, x_lda 1, x_ga 0 1, x_ldi 2, x_ldi 3, x_isub, x_ldi 3, x_ic 1, x_calv CH_bySwaps 5 0, x_ifeq 3, x_ldi 2, x_ri]
def k_CH_fewest_3 : List AI := [x_inc 3 (-1), x_go 2]
def k_CH_fewest_4 : List AI := [x_inc 2 1, x_go 1]
def k_CH_fewest_5 : List AI := [x_ic (-1), x_ri]
def kb_CH_fewest : List (List AI) := [k_CH_fewest_0, k_CH_fewest_1, k_CH_fewest_2, k_CH_fewest_3, k_CH_fewest_4, k_CH_fewest_5]
def k_CH_load_0 : List AI := [x_lda 0, x_lda 1, x_calv CW_sides 1 1, x_pi 4 0, x_ic 0, x_s1i 2, x_fall 1]
def k_CH_load_1 : List AI := [x_ldi 2, x_ic 12, x_icge 2, x_lda 0, x_ga 0 0, x_ldi 2, x_lda 1, x_ldi 2, x_lda 1, x_gi 3 1, x_calv CW_forceIn 3 1, x_asi, x_inc 2 1, x_go 1]
def k_CH_load_2 : List AI := [x_lda 0, x_ic 0, x_pi 3 0, x_ic 0, x_s1i 2, x_fall 3]
def k_CH_load_3 : List AI := [x_ldi 2, x_ic 4, x_icge 7, x_lda 1, x_ga 0 1, x_ga 11 5, x_ldi 2, x_all, x_s2 3, x_ldl 3, x_lc (-1000000000000000), x_lcmp, x_ifeq 6, x_ic 0, x_s1i 5, x_fall 4]
def k_CH_load_4 : List AI := [x_ldi 5, x_ic 12, x_icge 5, x_lda 0, x_ga 1 0, x_lda 0, x_gi 3 0, x_ic 12, x_imul, x_ldi 5, x_iadd, x_lda 1, x_ldi 2, x_ldi 5, x_calv CW_leverToSide 3 1, x_asl, x_inc 5 1, x_go 4]
def k_CH_load_5 : List AI := [x_lda 0, x_ga 2 0, x_lda 0, x_gi 3 0, x_lda 1, x_ldi 2, x_lda 1, x_gi 3 1, x_calv CW_swingAt 3 1, x_ldl 3, x_lsub, x_asl, x_lda 0, x_dup, x_gi 3 0, x_ic 1, x_iadd, x_pi 3 0, x_fall 6]
def k_CH_load_6 : List AI := [x_inc 2 1, x_go 3]
def k_CH_load_7 : List AI := [x_ret]
def kb_CH_load : List (List AI) := [k_CH_load_0, k_CH_load_1, k_CH_load_2, k_CH_load_3, k_CH_load_4, k_CH_load_5, k_CH_load_6, k_CH_load_7]
def k_CH_canBeLawful_0 : List AI := [x_lda 1, x_gi 10 5, x_ic (-1), x_icne 1, x_ic 1, x_rz]
def k_CH_canBeLawful_1 : List AI := [x_lda 1, x_gi 0 5, x_lda 0, x_gi 4 0, x_call JK_bitCount 1, x_isub, x_lda 1, x_gi 10 5, x_isub, x_call JK_absI 1, x_s1i 3, x_ldi 3, x_ldi 2, x_icgt 2, x_ldi 2, x_ldi 3, x_isub, x_ic 2, x_irem, x_ifne 2, x_ic 1, x_go 3]
def k_CH_canBeLawful_2 : List AI := [x_ic 0, x_fall 3]
def k_CH_canBeLawful_3 : List AI := [x_rz]
def kb_CH_canBeLawful : List (List AI) := [k_CH_canBeLawful_0, k_CH_canBeLawful_1, k_CH_canBeLawful_2, k_CH_canBeLawful_3]
def k_CH_bySwaps_0 : List AI := [x_ldi 2, x_ifgt 1, x_lda 0, x_lda 1, x_ldi 3, x_ic 0, x_calv CH_byTurns 4 0, x_rz]
def k_CH_bySwaps_1 : List AI := [x_ldi 4, x_s1i 5, x_fall 2]
def k_CH_bySwaps_2 : List AI := [x_ldi 5, x_lda 1, x_gi 0 5, x_icge 6, x_ic 0, x_s1i 6, x_fall 3]
def k_CH_bySwaps_3 : List AI := [x_ldi 6, x_ldi 5, x_icge 5, x_lda 0, x_ga 0 0, x_ldi 6, x_ali, x_lda 0, x_ga 0 0, x_ldi 5, x_ali, x_iceq 4, x_lda 0, x_ldi 6, x_ldi 5, x_calv0 CH_exchange 3 0, x_lda 0, x_lda 1, x_ldi 2, x_ic 1, x_isub, x_ldi 3, x_ldi 5, x_ic 1, x_iadd, x_calv CH_bySwaps 5 0, x_s1i 7, x_lda 0, x_ldi 6, x_ldi 5, x_calv0 CH_exchange 3 0, x_ldi 7, x_ifeq 4, x_ic 1, x_rz]
def k_CH_bySwaps_4 : List AI := [x_inc 6 1, x_go 3]
def k_CH_bySwaps_5 : List AI := [x_inc 5 1, x_go 2]
def k_CH_bySwaps_6 : List AI := [x_ic 0, x_rz]
def kb_CH_bySwaps : List (List AI) := [k_CH_bySwaps_0, k_CH_bySwaps_1, k_CH_bySwaps_2, k_CH_bySwaps_3, k_CH_bySwaps_4, k_CH_bySwaps_5, k_CH_bySwaps_6]
def k_CH_byTurns_0 : List AI := [x_ldi 2, x_ifgt 3, x_lda 1, x_lda 0, x_gi 4 0, x_calv PL_allows 2 5, x_ifeq 1, x_lda 0, x_lda 1, x_gi 12 5, x_calv CH_isGood 2 0, x_ifeq 1, x_ic 1, x_go 2]
def k_CH_byTurns_1 : List AI := [x_ic 0, x_fall 2]
def k_CH_byTurns_2 : List AI := [x_rz]
def k_CH_byTurns_3 : List AI := [x_ldi 3, x_s1i 4, x_fall 4]
def k_CH_byTurns_4 : List AI := [x_ldi 4, x_lda 1, x_gi 0 5, x_icge 6, x_lda 1, x_ldi 4, x_calv PL_isFixed 2 5, x_ifne 5, x_lda 0, x_ldi 4, x_calv0 CH_flip 2 0, x_lda 0, x_lda 1, x_ldi 2, x_ic 1, x_isub, x_ldi 4, x_ic 1, x_iadd, x_calv CH_byTurns 4 0, x_s1i 5, x_lda 0, x_ldi 4, x_calv0 CH_flip 2 0, x_ldi 5, x_ifeq 5, x_ic 1, x_rz]
def k_CH_byTurns_5 : List AI := [x_inc 4 1, x_go 4]
def k_CH_byTurns_6 : List AI := [x_ic 0, x_rz]
def kb_CH_byTurns : List (List AI) := [k_CH_byTurns_0, k_CH_byTurns_1, k_CH_byTurns_2, k_CH_byTurns_3, k_CH_byTurns_4, k_CH_byTurns_5, k_CH_byTurns_6]
def k_CH_isGood_0 : List AI := [x_ic 0, x_s1i 2, x_fall 1]
def k_CH_isGood_1 : List AI := [x_ldi 2, x_lda 0, x_gi 3 0, x_icge 3, x_lda 0, x_ga 2 0, x_ldi 2, x_all, x_call JK_absL 1, x_ldi 1, x_i2l, x_lcmp, x_ifle 2, x_ic 0, x_rz]
def k_CH_isGood_2 : List AI := [x_inc 2 1, x_go 1]
def k_CH_isGood_3 : List AI := [x_ic 1, x_rz]
def kb_CH_isGood : List (List AI) := [k_CH_isGood_0, k_CH_isGood_1, k_CH_isGood_2, k_CH_isGood_3]
def k_CH_exchange_0 : List AI := [x_lda 0, x_ga 0 0, x_ldi 2, x_ali, x_lda 0, x_ga 0 0, x_ldi 1, x_ali, x_isub, x_i2l, x_s2 3, x_ic 0, x_s1i 5, x_fall 1]
def k_CH_exchange_1 : List AI := [x_ldi 5, x_lda 0, x_gi 3 0, x_icge 2, x_ldi 5, x_ic 12, x_imul, x_s1i 6, x_lda 0, x_ga 2 0, x_ldi 5, x_dup2, x_all, x_ldl 3, x_lda 0, x_ga 1 0, x_ldi 6, x_ldi 1, x_iadd, x_all, x_lda 0, x_ga 1 0, x_ldi 6, x_ldi 2, x_iadd, x_all, x_lsub, x_lmul, x_ladd, x_asl, x_inc 5 1, x_go 1]
def k_CH_exchange_2 : List AI := [x_lda 0, x_ga 0 0, x_ldi 1, x_ali, x_s1i 5, x_lda 0, x_ga 0 0, x_ldi 1, x_lda 0, x_ga 0 0, x_ldi 2, x_ali, x_asi, x_lda 0, x_ga 0 0, x_ldi 2, x_ldi 5, x_asi, x_ret]
def kb_CH_exchange : List (List AI) := [k_CH_exchange_0, k_CH_exchange_1, k_CH_exchange_2]
def k_CH_flip_0 : List AI := [x_lda 0, x_dup, x_gi 4 0, x_ic 1, x_ldi 1, x_ishl, x_ixor, x_pi 4 0, x_ic 0, x_s1i 2, x_fall 1]
def k_CH_flip_1 : List AI := [x_ldi 2, x_lda 0, x_gi 3 0, x_icge 2, x_ldi 2, x_ic 12, x_imul, x_ldi 1, x_iadd, x_s1i 3, x_lda 0, x_ga 2 0, x_ldi 2, x_dup2, x_all, x_ic 2, x_lda 0, x_ga 0 0, x_ldi 1, x_ali, x_imul, x_i2l, x_lda 0, x_ga 1 0, x_ldi 3, x_all, x_lmul, x_lsub, x_asl, x_lda 0, x_ga 1 0, x_ldi 3, x_lda 0, x_ga 1 0, x_ldi 3, x_all, x_lneg, x_asl, x_inc 2 1, x_go 1]
def k_CH_flip_2 : List AI := [x_ret]
def kb_CH_flip : List (List AI) := [k_CH_flip_0, k_CH_flip_1, k_CH_flip_2]
def k_CW_init_0 : List AI := [x_lda 0, x_obj, x_lda 0, x_new 5, x_dup, x_cals0 PL_init 1 5, x_pa 0 1, x_lda 0, x_ic 12, x_nw 1, x_pa 1 1, x_lda 0, x_ic 12, x_nw 1, x_pa 2 1, x_lda 0, x_ic 0, x_pi 3 1, x_lda 0, x_lc 0, x_pl 4 1, x_lda 0, x_lc 1, x_pl 5 1, x_lda 0, x_ic 30, x_nw 1, x_pa 6 1, x_lda 0, x_ic 30, x_nw 1, x_pa 7 1, x_lda 0, x_ic 30, x_nw 1, x_pa 8 1, x_lda 0, x_ic 30, x_nw 2, x_pa 9 1, x_lda 0, x_ic 0, x_pi 10 1, x_lda 0, x_ic 0, x_pi 11 1, x_lda 0, x_ic 35, x_nw 3, x_pa 12 1, x_lda 0, x_ic 0, x_pi 13 1, x_lda 0, x_ga 1 1, x_ic (-1), x_call0 JK_fillI 2, x_ret]
def kb_CW_init : List (List AI) := [k_CW_init_0]
def k_CW_board_0 : List AI := [x_lda 0, x_lda 1, x_pa 0 1, x_ic 0, x_s1i 2, x_fall 1]
def k_CW_board_1 : List AI := [x_ldi 2, x_ic 12, x_icge 4, x_lda 0, x_ga 1 1, x_ldi 2, x_ldi 2, x_lda 1, x_calv PL_seatedAtFirst 1 5, x_icge 2, x_ldi 2, x_go 3]
def k_CW_board_2 : List AI := [x_ic (-1), x_fall 3]
def k_CW_board_3 : List AI := [x_asi, x_lda 0, x_ga 2 1, x_ldi 2, x_lda 1, x_ldi 2, x_calv PL_sideAtFirst 2 5, x_asi, x_inc 2 1, x_go 1]
def k_CW_board_4 : List AI := [x_lda 0, x_ic 0, x_pi 3 1, x_lda 0, x_lc 0, x_pl 4 1, x_lda 0, x_ic 0, x_pi 11 1, x_ret]
def kb_CW_board : List (List AI) := [k_CW_board_0, k_CW_board_1, k_CW_board_2, k_CW_board_3, k_CW_board_4]
def k_CW_seatOf_0 : List AI := [x_ic 0, x_s1i 2, x_fall 1]
def k_CW_seatOf_1 : List AI := [x_ldi 2, x_lda 0, x_ga 0 1, x_gi 0 5, x_icge 3, x_lda 0, x_ga 1 1, x_ldi 2, x_ali, x_ldi 1, x_icne 2, x_ldi 2, x_ri]
def k_CW_seatOf_2 : List AI := [x_inc 2 1, x_go 1]
def k_CW_seatOf_3 : List AI := [x_ic (-1), x_ri]
def kb_CW_seatOf : List (List AI) := [k_CW_seatOf_0, k_CW_seatOf_1, k_CW_seatOf_2, k_CW_seatOf_3]
def k_CW_sides_0 : List AI := [x_ic 0, x_s1i 1, x_ic 0, x_s1i 2, x_fall 1]
def k_CW_sides_1 : List AI := [x_ldi 2, x_lda 0, x_ga 0 1, x_gi 0 5, x_icge 2, x_ldi 1, x_lda 0, x_ga 2 1, x_ldi 2, x_ali, x_ldi 2, x_ishl, x_ior, x_s1i 1, x_inc 2 1, x_go 1]
def k_CW_sides_2 : List AI := [x_ldi 1, x_ri]
def kb_CW_sides : List (List AI) := [k_CW_sides_0, k_CW_sides_1, k_CW_sides_2]
def k_CW_strengthAt_0 : List AI := [x_lda 0, x_ga 0 1, x_ldi 1, x_calv PL_isRower 2 5, x_ifne 1, x_ic 0, x_ri]
def k_CW_strengthAt_1 : List AI := [x_ic 0, x_lda 0, x_ga 0 1, x_ga 8 5, x_ldi 1, x_ali, x_lda 0, x_ga 0 1, x_ga 9 5, x_ldi 1, x_ali, x_ldi 2, x_ic 10, x_idiv, x_imul, x_isub, x_call JK_maxI 2, x_ri]
def kb_CW_strengthAt : List (List AI) := [k_CW_strengthAt_0, k_CW_strengthAt_1]
def k_CW_forceIn_0 : List AI := [x_lda 0, x_ga 0 1, x_ldi 1, x_calv PL_isSeat 2 5, x_ifeq 1, x_lda 0, x_lda 0, x_ga 1 1, x_ldi 1, x_ali, x_ldi 2, x_calv CW_strengthAt 3 1, x_go 2]
def k_CW_forceIn_1 : List AI := [x_ic 0, x_fall 2]
def k_CW_forceIn_2 : List AI := [x_ri]
def kb_CW_forceIn : List (List AI) := [k_CW_forceIn_0, k_CW_forceIn_1, k_CW_forceIn_2]
def k_CW_leverToSide_0 : List AI := [x_lda 0, x_ga 0 1, x_ldi 2, x_calv PL_isSeat 2 5, x_ifne 1, x_lc 0, x_rl]
def k_CW_leverToSide_1 : List AI := [x_lda 0, x_ga 0 1, x_ldi 1, x_ldi 2, x_calv PL_leverOf 3 5, x_s2 3, x_lda 0, x_ga 2 1, x_ldi 2, x_ali, x_ic 1, x_icne 2, x_ldl 3, x_go 3]
def k_CW_leverToSide_2 : List AI := [x_ldl 3, x_lneg, x_fall 3]
def k_CW_leverToSide_3 : List AI := [x_rl]
def kb_CW_leverToSide : List (List AI) := [k_CW_leverToSide_0, k_CW_leverToSide_1, k_CW_leverToSide_2, k_CW_leverToSide_3]
def k_CW_swingAt_0 : List AI := [x_lc 0, x_s2 3, x_ic 0, x_s1i 5, x_fall 1]
def k_CW_swingAt_1 : List AI := [x_ldi 5, x_lda 0, x_ga 0 1, x_gi 0 5, x_icge 2, x_ldl 3, x_lda 0, x_ldi 5, x_ldi 2, x_calv CW_forceIn 3 1, x_i2l, x_lda 0, x_ldi 1, x_ldi 5, x_calv CW_leverToSide 3 1, x_lmul, x_ladd, x_s2 3, x_inc 5 1, x_go 1]
def k_CW_swingAt_2 : List AI := [x_ldl 3, x_rl]
def kb_CW_swingAt : List (List AI) := [k_CW_swingAt_0, k_CW_swingAt_1, k_CW_swingAt_2]
def k_CW_offAt_0 : List AI := [x_lc 0, x_s2 2, x_ic 0, x_s1i 4, x_fall 1]
def k_CW_offAt_1 : List AI := [x_ldi 4, x_ic 4, x_icge 3, x_lda 0, x_ga 0 1, x_ga 11 5, x_ldi 4, x_all, x_lc (-1000000000000000), x_lcmp, x_ifeq 2, x_ldl 2, x_lda 0, x_ldi 4, x_ldi 1, x_calv CW_swingAt 3 1, x_lda 0, x_ga 0 1, x_ga 11 5, x_ldi 4, x_all, x_lsub, x_call JK_absL 1, x_ladd, x_s2 2, x_fall 2]
def k_CW_offAt_2 : List AI := [x_inc 4 1, x_go 1]
def k_CW_offAt_3 : List AI := [x_ldl 2, x_rl]
def kb_CW_offAt : List (List AI) := [k_CW_offAt_0, k_CW_offAt_1, k_CW_offAt_2, k_CW_offAt_3]
def k_CW_isGoodAt_0 : List AI := [x_ic 0, x_s1i 2, x_fall 1]
def k_CW_isGoodAt_1 : List AI := [x_ldi 2, x_ic 4, x_icge 3, x_lda 0, x_ga 0 1, x_ga 11 5, x_ldi 2, x_all, x_lc (-1000000000000000), x_lcmp, x_ifeq 2, x_lda 0, x_ldi 2, x_ldi 1, x_calv CW_swingAt 3 1, x_lda 0, x_ga 0 1, x_ga 11 5, x_ldi 2, x_all, x_lsub, x_call JK_absL 1, x_lda 0, x_ga 0 1, x_gi 12 5, x_i2l, x_lcmp, x_ifle 2, x_ic 0, x_rz]
def k_CW_isGoodAt_2 : List AI := [x_inc 2 1, x_go 1]
def k_CW_isGoodAt_3 : List AI := [x_ic 1, x_rz]
def kb_CW_isGoodAt : List (List AI) := [k_CW_isGoodAt_0, k_CW_isGoodAt_1, k_CW_isGoodAt_2, k_CW_isGoodAt_3]
def k_CW_turnSeat_0 : List AI := [x_lda 0, x_ga 0 1, x_ldi 1, x_calv PL_isSeat 2 5, x_ifeq 1, x_lda 0, x_ga 0 1, x_ldi 1, x_calv PL_isFixed 2 5, x_ifeq 2, x_fall 1]
def k_CW_turnSeat_1 : List AI := [x_ic 0, x_rz]
def k_CW_turnSeat_2 : List AI := [x_lda 0, x_ic 0, x_ldi 1, x_ic (-1), x_calv0 CW_noteAct 4 1, x_lda 0, x_ldi 1, x_calv0 CW_flip 2 1, x_ic 1, x_rz]
def kb_CW_turnSeat : List (List AI) := [k_CW_turnSeat_0, k_CW_turnSeat_1, k_CW_turnSeat_2]
def k_CW_swapRowers_0 : List AI := [x_lda 0, x_ga 0 1, x_ldi 1, x_calv PL_isSeat 2 5, x_ifeq 1, x_lda 0, x_ga 0 1, x_ldi 2, x_calv PL_isSeat 2 5, x_ifeq 1, x_ldi 1, x_ldi 2, x_icne 2, x_fall 1]
def k_CW_swapRowers_1 : List AI := [x_ic 0, x_rz]
def k_CW_swapRowers_2 : List AI := [x_lda 0, x_ga 1 1, x_ldi 1, x_ali, x_ic (-1), x_icne 3, x_lda 0, x_ga 1 1, x_ldi 2, x_ali, x_ic (-1), x_icne 3, x_ic 0, x_rz]
def k_CW_swapRowers_3 : List AI := [x_lda 0, x_ic 1, x_ldi 1, x_ldi 2, x_calv0 CW_noteAct 4 1, x_lda 0, x_ldi 1, x_ldi 2, x_calv0 CW_exchange 3 1, x_ic 1, x_rz]
def kb_CW_swapRowers : List (List AI) := [k_CW_swapRowers_0, k_CW_swapRowers_1, k_CW_swapRowers_2, k_CW_swapRowers_3]
def k_CW_passBy_0 : List AI := [x_lda 0, x_ic 2, x_ldi 1, x_ic (-1), x_calv0 CW_noteAct 4 1, x_lda 0, x_dup, x_gi 3 1, x_ldi 1, x_iadd, x_pi 3 1, x_ret]
def kb_CW_passBy : List (List AI) := [k_CW_passBy_0]
def k_CW_rowOn_0 : List AI := [x_lda 0, x_ic 2, x_ldi 1, x_ic (-1), x_calv0 CW_noteAct 4 1, x_ic 0, x_s1i 2, x_fall 1]
def k_CW_rowOn_1 : List AI := [x_ldi 2, x_ldi 1, x_icge 2, x_lda 0, x_dup, x_gi 3 1, x_ic 1, x_iadd, x_pi 3 1, x_lda 0, x_dup, x_gl 4 1, x_lda 0, x_calv CW_drawnSwing 1 1, x_ladd, x_pl 4 1, x_inc 2 1, x_go 1]
def k_CW_rowOn_2 : List AI := [x_ret]
def kb_CW_rowOn : List (List AI) := [k_CW_rowOn_0, k_CW_rowOn_1, k_CW_rowOn_2]
def k_CW_undoAct_0 : List AI := [x_lda 0, x_gi 11 1, x_ifne 1, x_ic 0, x_rz]
def k_CW_undoAct_1 : List AI := [x_lda 0, x_dup, x_gi 11 1, x_ic 1, x_isub, x_pi 11 1, x_lda 0, x_lda 0, x_gi 10 1, x_ic 30, x_iadd, x_ic 1, x_isub, x_ic 30, x_irem, x_pi 10 1, x_lda 0, x_ga 7 1, x_lda 0, x_gi 10 1, x_ali, x_s1i 1, x_lda 0, x_ga 6 1, x_lda 0, x_gi 10 1, x_ali, x_lsw 4 [(0, 2), (1, 3)]]
def k_CW_undoAct_2 : List AI := [x_lda 0, x_ldi 1, x_calv0 CW_flip 2 1, x_go 5]
def k_CW_undoAct_3 : List AI := [x_lda 0, x_ldi 1, x_lda 0, x_ga 8 1, x_lda 0, x_gi 10 1, x_ali, x_calv0 CW_exchange 3 1, x_go 5]
def k_CW_undoAct_4 : List AI := [x_lda 0, x_dup, x_gi 3 1, x_ldi 1, x_isub, x_pi 3 1, x_lda 0, x_lda 0, x_ga 9 1, x_lda 0, x_gi 10 1, x_all, x_pl 4 1, x_fall 5]
def k_CW_undoAct_5 : List AI := [x_ic 1, x_rz]
def kb_CW_undoAct : List (List AI) := [k_CW_undoAct_0, k_CW_undoAct_1, k_CW_undoAct_2, k_CW_undoAct_3, k_CW_undoAct_4, k_CW_undoAct_5]
def k_CW_writeImage_0 : List AI := [x_lda 0, x_ic 0, x_pi 13 1, x_lda 0, x_lda 0, x_gi 3 1, x_ic 8, x_ishr, x_calv0 CW_writeOctet 2 1, x_lda 0, x_lda 0, x_gi 3 1, x_calv0 CW_writeOctet 2 1, x_ic 56, x_s1i 1, x_fall 1]
def k_CW_writeImage_1 : List AI := [x_ldi 1, x_iflt 2, x_lda 0, x_lda 0, x_gl 4 1, x_ldi 1, x_lshr, x_l2i, x_calv0 CW_writeOctet 2 1, x_inc 1 (-8), x_go 1]
def k_CW_writeImage_2 : List AI := [x_ic 0, x_s1i 1, x_fall 3]
def k_CW_writeImage_3 : List AI := [x_ldi 1, x_lda 0, x_ga 0 1, x_gi 0 5, x_icge 4, x_lda 0, x_lda 0, x_ga 1 1, x_ldi 1, x_ali, x_ic 1, x_iadd, x_calv0 CW_writeOctet 2 1, x_lda 0, x_lda 0, x_ga 2 1, x_ldi 1, x_ali, x_calv0 CW_writeOctet 2 1, x_inc 1 1, x_go 3]
def k_CW_writeImage_4 : List AI := [x_ic 107, x_s1i 1, x_ic 0, x_s1i 2, x_fall 5]
def k_CW_writeImage_5 : List AI := [x_ldi 2, x_lda 0, x_gi 13 1, x_icge 6, x_ldi 1, x_lda 0, x_ga 12 1, x_ldi 2, x_alb, x_ic 255, x_iand, x_call CW_checkOn 2, x_s1i 1, x_inc 2 1, x_go 5]
def k_CW_writeImage_6 : List AI := [x_lda 0, x_ldi 1, x_calv0 CW_writeOctet 2 1, x_lda 0, x_gi 13 1, x_ri]
def kb_CW_writeImage : List (List AI) := [k_CW_writeImage_0, k_CW_writeImage_1, k_CW_writeImage_2, k_CW_writeImage_3, k_CW_writeImage_4, k_CW_writeImage_5, k_CW_writeImage_6]
def k_CW_takeImage_0 : List AI := [x_lda 0, x_lda 1, x_calv CW_isImage 2 1, x_ifne 1, x_ic 0, x_rz]
def k_CW_takeImage_1 : List AI := [x_lda 0, x_lda 1, x_call CW_strokeIn 1, x_pi 3 1, x_lda 0, x_lc 0, x_pl 4 1, x_ic 2, x_s1i 2, x_fall 2]
def k_CW_takeImage_2 : List AI := [x_ldi 2, x_ic 10, x_icge 3, x_lda 0, x_lda 0, x_gl 4 1, x_ic 8, x_lshl, x_lda 1, x_ldi 2, x_calv TP_byteAt 2 8, x_i2l, x_lor, x_pl 4 1, x_inc 2 1, x_go 2]
def k_CW_takeImage_3 : List AI := [x_ic 0, x_s1i 2, x_fall 4]
def k_CW_takeImage_4 : List AI := [x_ldi 2, x_lda 0, x_ga 0 1, x_gi 0 5, x_icge 5, x_lda 0, x_ga 1 1, x_ldi 2, x_lda 1, x_ic 10, x_ic 2, x_ldi 2, x_imul, x_iadd, x_calv TP_byteAt 2 8, x_ic 1, x_isub, x_asi, x_lda 0, x_ga 2 1, x_ldi 2, x_lda 1, x_ic 11, x_ic 2, x_ldi 2, x_imul, x_iadd, x_calv TP_byteAt 2 8, x_asi, x_inc 2 1, x_go 4]
def k_CW_takeImage_5 : List AI := [x_lda 0, x_ic 0, x_pi 11 1, x_ic 1, x_rz]
def kb_CW_takeImage : List (List AI) := [k_CW_takeImage_0, k_CW_takeImage_1, k_CW_takeImage_2, k_CW_takeImage_3, k_CW_takeImage_4, k_CW_takeImage_5]
def k_CW_isImage_0 : List AI := [x_ic 11, x_ic 2, x_lda 0, x_ga 0 1, x_gi 0 5, x_imul, x_iadd, x_s1i 2, x_lda 1, x_gi 1 8, x_ldi 2, x_iceq 1, x_ic 0, x_rz]
def k_CW_isImage_1 : List AI := [x_ic 107, x_s1i 3, x_ic 0, x_s1i 4, x_fall 2]
def k_CW_isImage_2 : List AI := [x_ldi 4, x_ldi 2, x_ic 1, x_isub, x_icge 3, x_ldi 3, x_lda 1, x_ldi 4, x_calv TP_byteAt 2 8, x_call CW_checkOn 2, x_s1i 3, x_inc 4 1, x_go 2]
def k_CW_isImage_3 : List AI := [x_ldi 3, x_lda 1, x_ldi 2, x_ic 1, x_isub, x_calv TP_byteAt 2 8, x_icne 4, x_lda 1, x_call CW_strokeIn 1, x_ic 9999, x_icgt 4, x_lda 0, x_lda 1, x_calv CW_rowersCanSitSo 2 1, x_ifeq 4, x_lda 0, x_lda 1, x_calv CW_sidesCanBeSo 2 1, x_ifeq 4, x_ic 1, x_go 5]
def k_CW_isImage_4 : List AI := [x_ic 0, x_fall 5]
def k_CW_isImage_5 : List AI := [x_rz]
def kb_CW_isImage : List (List AI) := [k_CW_isImage_0, k_CW_isImage_1, k_CW_isImage_2, k_CW_isImage_3, k_CW_isImage_4, k_CW_isImage_5]
def k_CW_rowersCanSitSo_0 : List AI := [x_ic 0, x_s1i 2, x_ic 0, x_s1i 3, x_fall 1]
def k_CW_rowersCanSitSo_1 : List AI := [x_ldi 3, x_lda 0, x_ga 0 1, x_gi 0 5, x_icge 5, x_lda 1, x_ic 10, x_ic 2, x_ldi 3, x_imul, x_iadd, x_calv TP_byteAt 2 8, x_ic 1, x_isub, x_s1i 4, x_ldi 4, x_ic (-1), x_iceq 4, x_lda 0, x_ga 0 1, x_ldi 4, x_calv PL_isRower 2 5, x_ifeq 2, x_ldi 2, x_ldi 4, x_ishr, x_ic 1, x_iand, x_ic 1, x_icne 3, x_fall 2]
def k_CW_rowersCanSitSo_2 : List AI := [x_ic 0, x_rz]
def k_CW_rowersCanSitSo_3 : List AI := [x_ldi 2, x_ic 1, x_ldi 4, x_ishl, x_ior, x_s1i 2, x_fall 4]
def k_CW_rowersCanSitSo_4 : List AI := [x_inc 3 1, x_go 1]
def k_CW_rowersCanSitSo_5 : List AI := [x_ldi 2, x_call JK_bitCount 1, x_lda 0, x_ga 0 1, x_calv PL_seatedAtFirst 1 5, x_icne 6, x_ic 1, x_go 7]
def k_CW_rowersCanSitSo_6 : List AI := [x_ic 0, x_fall 7]
def k_CW_rowersCanSitSo_7 : List AI := [x_rz]
def kb_CW_rowersCanSitSo : List (List AI) := [k_CW_rowersCanSitSo_0, k_CW_rowersCanSitSo_1, k_CW_rowersCanSitSo_2, k_CW_rowersCanSitSo_3, k_CW_rowersCanSitSo_4, k_CW_rowersCanSitSo_5, k_CW_rowersCanSitSo_6, k_CW_rowersCanSitSo_7]
def k_CW_sidesCanBeSo_0 : List AI := [x_ic 0, x_s1i 2, x_fall 1]
def k_CW_sidesCanBeSo_1 : List AI := [x_ldi 2, x_lda 0, x_ga 0 1, x_gi 0 5, x_icge 4, x_lda 1, x_ic 11, x_ic 2, x_ldi 2, x_imul, x_iadd, x_calv TP_byteAt 2 8, x_s1i 3, x_ldi 3, x_ic 1, x_icgt 2, x_lda 0, x_ga 0 1, x_ldi 2, x_calv PL_isFixed 2 5, x_ifeq 3, x_ldi 3, x_lda 0, x_ga 0 1, x_ldi 2, x_calv PL_sideAtFirst 2 5, x_iceq 3, x_fall 2]
def k_CW_sidesCanBeSo_2 : List AI := [x_ic 0, x_rz]
def k_CW_sidesCanBeSo_3 : List AI := [x_inc 2 1, x_go 1]
def k_CW_sidesCanBeSo_4 : List AI := [x_ic 1, x_rz]
def kb_CW_sidesCanBeSo : List (List AI) := [k_CW_sidesCanBeSo_0, k_CW_sidesCanBeSo_1, k_CW_sidesCanBeSo_2, k_CW_sidesCanBeSo_3, k_CW_sidesCanBeSo_4]
def k_CW_strokeIn_0 : List AI := [x_lda 0, x_ic 0, x_calv TP_byteAt 2 8, x_ic 8, x_ishl, x_lda 0, x_ic 1, x_calv TP_byteAt 2 8, x_ior, x_ri]
def kb_CW_strokeIn : List (List AI) := [k_CW_strokeIn_0]
def k_CW_checkOn_0 : List AI := [x_ic 5, x_ldi 0, x_imul, x_ldi 1, x_iadd, x_ic 251, x_irem, x_ri]
def kb_CW_checkOn : List (List AI) := [k_CW_checkOn_0]
def k_CW_writeOctet_0 : List AI := [x_lda 0, x_gi 13 1, x_lda 0, x_ga 12 1, x_len, x_icge 1, x_lda 0, x_ga 12 1, x_lda 0, x_gi 13 1, x_ldi 1, x_i2b, x_asb, x_lda 0, x_dup, x_gi 13 1, x_ic 1, x_iadd, x_pi 13 1, x_fall 1]
def k_CW_writeOctet_1 : List AI := [x_ret]
def kb_CW_writeOctet : List (List AI) := [k_CW_writeOctet_0, k_CW_writeOctet_1]
def k_CW_noteAct_0 : List AI := [x_lda 0, x_ga 6 1, x_lda 0, x_gi 10 1, x_ldi 1, x_asi, x_lda 0, x_ga 7 1, x_lda 0, x_gi 10 1, x_ldi 2, x_asi, x_lda 0, x_ga 8 1, x_lda 0, x_gi 10 1, x_ldi 3, x_asi, x_lda 0, x_ga 9 1, x_lda 0, x_gi 10 1, x_lda 0, x_gl 4 1, x_asl, x_lda 0, x_lda 0, x_gi 10 1, x_ic 1, x_iadd, x_ic 30, x_irem, x_pi 10 1, x_lda 0, x_ic 30, x_lda 0, x_gi 11 1, x_ic 1, x_iadd, x_call JK_minI 2, x_pi 11 1, x_ret]
def kb_CW_noteAct : List (List AI) := [k_CW_noteAct_0]
def k_CW_flip_0 : List AI := [x_lda 0, x_ga 0 1, x_ldi 1, x_calv PL_isSeat 2 5, x_ifeq 1, x_lda 0, x_ga 2 1, x_ldi 1, x_ic 1, x_lda 0, x_ga 2 1, x_ldi 1, x_ali, x_isub, x_asi, x_fall 1]
def k_CW_flip_1 : List AI := [x_ret]
def kb_CW_flip : List (List AI) := [k_CW_flip_0, k_CW_flip_1]
def k_CW_exchange_0 : List AI := [x_lda 0, x_ga 0 1, x_ldi 1, x_calv PL_isSeat 2 5, x_ifeq 1, x_lda 0, x_ga 0 1, x_ldi 2, x_calv PL_isSeat 2 5, x_ifeq 1, x_lda 0, x_ga 1 1, x_ldi 1, x_ali, x_s1i 3, x_lda 0, x_ga 1 1, x_ldi 1, x_lda 0, x_ga 1 1, x_ldi 2, x_ali, x_asi, x_lda 0, x_ga 1 1, x_ldi 2, x_ldi 3, x_asi, x_fall 1]
def k_CW_exchange_1 : List AI := [x_ret]
def kb_CW_exchange : List (List AI) := [k_CW_exchange_0, k_CW_exchange_1]
def k_CW_drawnSwing_0 : List AI := [x_lc 0, x_s2 1, x_ic 0, x_s1i 3, x_fall 1]
def k_CW_drawnSwing_1 : List AI := [x_ldi 3, x_lda 0, x_ga 0 1, x_gi 0 5, x_icge 3, x_lda 0, x_ga 1 1, x_ldi 3, x_ali, x_ic (-1), x_iceq 2, x_ic 0, x_lda 0, x_ldi 3, x_lda 0, x_gi 3 1, x_calv CW_forceIn 3 1, x_lda 0, x_calv CW_drawOfThree 1 1, x_iadd, x_ic 1, x_isub, x_call JK_maxI 2, x_s1i 4, x_ldl 1, x_ldi 4, x_i2l, x_lda 0, x_ic 1, x_ldi 3, x_calv CW_leverToSide 3 1, x_lmul, x_ladd, x_s2 1, x_fall 2]
def k_CW_drawnSwing_2 : List AI := [x_inc 3 1, x_go 1]
def k_CW_drawnSwing_3 : List AI := [x_ldl 1, x_rl]
def kb_CW_drawnSwing : List (List AI) := [k_CW_drawnSwing_0, k_CW_drawnSwing_1, k_CW_drawnSwing_2, k_CW_drawnSwing_3]
def k_CW_drawOfThree_0 : List AI := [x_lda 0, x_lc 1103515245, x_lda 0, x_gl 5 1, x_lmul, x_lc 12345, x_ladd, x_lc 2147483647, x_land, x_pl 5 1, x_lda 0, x_gl 5 1, x_lc 64, x_ldiv, x_lc 3, x_lrem, x_l2i, x_ri]
def kb_CW_drawOfThree : List (List AI) := [k_CW_drawOfThree_0]
def k_HV_init_0 : List AI := [x_lda 0, x_obj, x_lda 0, x_ic 8631, x_nw 2, x_pa 0 2, x_lda 0, x_ic 41, x_nw 2, x_pa 1 2, x_lda 0, x_ic 0, x_pz 2 2, x_lda 0, x_ic 0, x_pi 3 2, x_lda 0, x_ic 12, x_nw 2, x_pa 4 2, x_lda 0, x_ic 0, x_pi 5 2, x_lda 0, x_ic (-1), x_pi 6 2, x_ret]
def kb_HV_init : List (List AI) := [k_HV_init_0]
def k_HV_waysFor_0 : List AI := [x_ldi 1, x_ic 1, x_iclt 1, x_ldi 1, x_ic 40, x_icle 2, x_fall 1]
def k_HV_waysFor_1 : List AI := [x_lc (-1), x_rl]
def k_HV_waysFor_2 : List AI := [x_lda 0, x_gi 2 2, x_ifne 3, x_lda 0, x_calv0 HV_countWays 1 2, x_lda 0, x_ic 1, x_pz 2 2, x_fall 3]
def k_HV_waysFor_3 : List AI := [x_lda 0, x_ga 1 2, x_ldi 1, x_all, x_rl]
def kb_HV_waysFor : List (List AI) := [k_HV_waysFor_0, k_HV_waysFor_1, k_HV_waysFor_2, k_HV_waysFor_3]
def k_HV_countWays_0 : List AI := [x_lda 0, x_ga 0 2, x_ic 0, x_lc 1, x_asl, x_ic 1, x_s1i 1, x_fall 1]
def k_HV_countWays_1 : List AI := [x_ldi 1, x_ic 40, x_icgt 7, x_ldi 1, x_ic 20, x_call JK_minI 2, x_s1i 2, x_fall 2]
def k_HV_countWays_2 : List AI := [x_ldi 2, x_ic 1, x_iclt 5, x_ldi 2, x_ic 411, x_imul, x_s1i 3, x_ic 410, x_s1i 4, x_fall 3]
def k_HV_countWays_3 : List AI := [x_ldi 4, x_ldi 1, x_iclt 4, x_lda 0, x_ga 0 2, x_ldi 3, x_ldi 4, x_iadd, x_dup2, x_all, x_lda 0, x_ga 0 2, x_ldi 3, x_ic 411, x_isub, x_ldi 4, x_iadd, x_ldi 1, x_isub, x_all, x_ladd, x_asl, x_inc 4 (-1), x_go 3]
def k_HV_countWays_4 : List AI := [x_inc 2 (-1), x_go 2]
def k_HV_countWays_5 : List AI := [x_ldi 1, x_ic 4, x_irem, x_ifne 6, x_lda 0, x_ga 1 2, x_ldi 1, x_lda 0, x_ga 0 2, x_ldi 1, x_ic 2, x_idiv, x_ic 411, x_imul, x_ldi 1, x_ldi 1, x_ic 1, x_iadd, x_imul, x_ic 4, x_idiv, x_iadd, x_all, x_asl, x_fall 6]
def k_HV_countWays_6 : List AI := [x_inc 1 1, x_go 1]
def k_HV_countWays_7 : List AI := [x_ret]
def kb_HV_countWays : List (List AI) := [k_HV_countWays_0, k_HV_countWays_1, k_HV_countWays_2, k_HV_countWays_3, k_HV_countWays_4, k_HV_countWays_5, k_HV_countWays_6, k_HV_countWays_7]
def k_HV_wayAt_0 : List AI := [x_ldi 1, x_ic 1, x_iclt 1, x_ldi 1, x_ic 16, x_icgt 1, x_ldi 1, x_ic 4, x_irem, x_ifne 1, x_ldi 2, x_ifge 2, x_fall 1]
def k_HV_wayAt_1 : List AI := [x_ic (-1), x_ri]
def k_HV_wayAt_2 : List AI := [x_lda 0, x_ldi 2, x_pi 3 2, x_lda 0, x_ldi 1, x_ldi 1, x_ic 2, x_idiv, x_ldi 1, x_ldi 1, x_ic 1, x_iadd, x_imul, x_ic 4, x_idiv, x_ic 0, x_calv HV_choose 5 2, x_ri]
def kb_HV_wayAt : List (List AI) := [k_HV_wayAt_0, k_HV_wayAt_1, k_HV_wayAt_2]
def k_HV_choose_0 : List AI := [x_ldi 1, x_ifgt 3, x_lda 0, x_dup, x_gi 3 2, x_ic 1, x_isub, x_pi 3 2, x_lda 0, x_gi 3 2, x_ifge 1, x_ldi 4, x_go 2]
def k_HV_choose_1 : List AI := [x_ic (-1), x_fall 2]
def k_HV_choose_2 : List AI := [x_ri]
def k_HV_choose_3 : List AI := [x_ldi 1, x_ic 1, x_isub, x_ldi 2, x_ldi 3, x_call HV_canBe 3, x_ifeq 4, x_lda 0, x_ldi 1, x_ic 1, x_isub, x_ldi 2, x_ldi 3, x_ldi 4, x_calv HV_choose 5 2, x_s1i 5, x_ldi 5, x_ic (-1), x_iceq 4, x_ldi 5, x_ri]
def k_HV_choose_4 : List AI := [x_ldi 1, x_ic 1, x_isub, x_ldi 2, x_ic 1, x_isub, x_ldi 3, x_ldi 1, x_isub, x_call HV_canBe 3, x_ifeq 5, x_lda 0, x_ldi 1, x_ic 1, x_isub, x_ldi 2, x_ic 1, x_isub, x_ldi 3, x_ldi 1, x_isub, x_ldi 4, x_ic 1, x_ldi 1, x_ic 1, x_isub, x_ishl, x_ior, x_calv HV_choose 5 2, x_ri]
def k_HV_choose_5 : List AI := [x_ic (-1), x_ri]
def kb_HV_choose : List (List AI) := [k_HV_choose_0, k_HV_choose_1, k_HV_choose_2, k_HV_choose_3, k_HV_choose_4, k_HV_choose_5]
def k_HV_canBe_0 : List AI := [x_ldi 1, x_iflt 1, x_ldi 1, x_ldi 0, x_icgt 1, x_ldi 2, x_ldi 1, x_ldi 1, x_ic 1, x_iadd, x_imul, x_ic 2, x_idiv, x_iclt 1, x_ldi 2, x_ldi 1, x_ic 2, x_ldi 0, x_imul, x_ldi 1, x_isub, x_ic 1, x_iadd, x_imul, x_ic 2, x_idiv, x_icgt 1, x_ic 1, x_go 2]
def k_HV_canBe_1 : List AI := [x_ic 0, x_fall 2]
def k_HV_canBe_2 : List AI := [x_rz]
def kb_HV_canBe : List (List AI) := [k_HV_canBe_0, k_HV_canBe_1, k_HV_canBe_2]
def k_HV_sumDoubled_0 : List AI := [x_ldi 0, x_ic 1, x_iclt 1, x_ldi 0, x_ic 10, x_icgt 1, x_ldi 1, x_iflt 1, x_ldi 1, x_ic 5, x_icle 2, x_fall 1]
def k_HV_sumDoubled_1 : List AI := [x_lc (-1000000000000000), x_rl]
def k_HV_sumDoubled_2 : List AI := [x_lc 0, x_s2 2, x_ic 0, x_s1i 4, x_fall 3]
def k_HV_sumDoubled_3 : List AI := [x_ldi 4, x_ic 1, x_ldi 0, x_ishl, x_icge 6, x_ldi 4, x_ic 1, x_iadd, x_i2l, x_ldi 1, x_call HV_power 2, x_s2 5, x_ldl 2, x_ldi 4, x_call JK_bitCount 1, x_ic 2, x_irem, x_ic 1, x_icne 4, x_ldl 5, x_go 5]
def k_HV_sumDoubled_4 : List AI := [x_ldl 5, x_lneg, x_fall 5]
def k_HV_sumDoubled_5 : List AI := [x_ladd, x_s2 2, x_inc 4 1, x_go 3]
def k_HV_sumDoubled_6 : List AI := [x_ldl 2, x_rl]
def kb_HV_sumDoubled : List (List AI) := [k_HV_sumDoubled_0, k_HV_sumDoubled_1, k_HV_sumDoubled_2, k_HV_sumDoubled_3, k_HV_sumDoubled_4, k_HV_sumDoubled_5, k_HV_sumDoubled_6]
def k_HV_stillUpTo_0 : List AI := [x_ldi 0, x_ic 1, x_iclt 1, x_ldi 0, x_ic 16, x_icgt 1, x_ldi 1, x_iflt 1, x_ldi 1, x_ic 1, x_ldi 0, x_ishl, x_iclt 2, x_fall 1]
def k_HV_stillUpTo_1 : List AI := [x_ic (-1), x_ri]
def k_HV_stillUpTo_2 : List AI := [x_ic 0, x_s1i 2, x_fall 3]
def k_HV_stillUpTo_3 : List AI := [x_ldi 2, x_ic 5, x_icgt 9, x_lc 0, x_s2 3, x_ic 0, x_s1i 5, x_fall 4]
def k_HV_stillUpTo_4 : List AI := [x_ldi 5, x_ldi 0, x_icge 7, x_ldi 5, x_ic 1, x_iadd, x_i2l, x_ldi 2, x_call HV_power 2, x_s2 6, x_ldl 3, x_ldi 1, x_ldi 5, x_ishr, x_ic 1, x_iand, x_ic 1, x_icne 5, x_ldl 6, x_go 6]
def k_HV_stillUpTo_5 : List AI := [x_ldl 6, x_lneg, x_fall 6]
def k_HV_stillUpTo_6 : List AI := [x_ladd, x_s2 3, x_inc 5 1, x_go 4]
def k_HV_stillUpTo_7 : List AI := [x_ldl 3, x_lc 0, x_lcmp, x_ifeq 8, x_ldi 2, x_ic 1, x_isub, x_ri]
def k_HV_stillUpTo_8 : List AI := [x_inc 2 1, x_go 3]
def k_HV_stillUpTo_9 : List AI := [x_ic 5, x_ri]
def kb_HV_stillUpTo : List (List AI) := [k_HV_stillUpTo_0, k_HV_stillUpTo_1, k_HV_stillUpTo_2, k_HV_stillUpTo_3, k_HV_stillUpTo_4, k_HV_stillUpTo_5, k_HV_stillUpTo_6, k_HV_stillUpTo_7, k_HV_stillUpTo_8, k_HV_stillUpTo_9]
def k_HV_power_0 : List AI := [x_lc 1, x_s2 3, x_ic 0, x_s1i 5, x_fall 1]
def k_HV_power_1 : List AI := [x_ldi 5, x_ldi 2, x_icge 2, x_ldl 3, x_ldl 0, x_lmul, x_s2 3, x_inc 5 1, x_go 1]
def k_HV_power_2 : List AI := [x_ldl 3, x_rl]
def kb_HV_power : List (List AI) := [k_HV_power_0, k_HV_power_1, k_HV_power_2]
def k_HV_partPayments_0 : List AI := [x_lda 2, x_calv0 LN_clear 1 3, x_lda 0, x_lda 1, x_lda 2, x_ic 0, x_calv0 HV_addPayments 4 2, x_lda 0, x_lda 1, x_lda 2, x_ic 1, x_calv0 HV_addPayments 4 2, x_lda 0, x_ic 0, x_pi 5 2, x_lda 0, x_ic (-1), x_pi 6 2, x_ic 1, x_lda 1, x_gi 17 5, x_ishl, x_s1i 3, x_ic 0, x_s1i 4, x_fall 1]
def k_HV_partPayments_1 : List AI := [x_ldi 4, x_ldi 3, x_icge 6, x_ldi 4, x_ifle 2, x_lda 2, x_ldi 4, x_calv0 LN_advanceTo 2 3, x_fall 2]
def k_HV_partPayments_2 : List AI := [x_ldi 4, x_ic 2, x_irem, x_ifne 5, x_lda 2, x_ga 0 3, x_ic 0, x_all, x_lc 0, x_lcmp, x_ifne 5, x_lda 2, x_ga 0 3, x_ic 1, x_all, x_lc 0, x_lcmp, x_ifne 5, x_lda 0, x_lda 0, x_gi 5 2, x_ifne 3, x_ldi 4, x_go 4]
def k_HV_partPayments_3 : List AI := [x_lda 0, x_gi 6 2, x_fall 4]
def k_HV_partPayments_4 : List AI := [x_pi 6 2, x_lda 0, x_dup, x_gi 5 2, x_ic 1, x_iadd, x_pi 5 2, x_fall 5]
def k_HV_partPayments_5 : List AI := [x_inc 4 1, x_go 1]
def k_HV_partPayments_6 : List AI := [x_ret]
def kb_HV_partPayments : List (List AI) := [k_HV_partPayments_0, k_HV_partPayments_1, k_HV_partPayments_2, k_HV_partPayments_3, k_HV_partPayments_4, k_HV_partPayments_5, k_HV_partPayments_6]
def k_HV_addPayments_0 : List AI := [x_ic 0, x_s1i 4, x_fall 1]
def k_HV_addPayments_1 : List AI := [x_ldi 4, x_lda 1, x_gi 17 5, x_icge 2, x_lda 0, x_ga 4 2, x_ldi 4, x_lda 1, x_ldi 4, x_ldi 3, x_calv PL_payment 3 5, x_asl, x_inc 4 1, x_go 1]
def k_HV_addPayments_2 : List AI := [x_lda 2, x_lc 0, x_lda 0, x_ga 4 2, x_lda 1, x_gi 17 5, x_calv0 LN_add 4 3, x_ret]
def kb_HV_addPayments : List (List AI) := [k_HV_addPayments_0, k_HV_addPayments_1, k_HV_addPayments_2]
def k_HV_heirsApart_0 : List AI := [x_lda 0, x_gi 17 5, x_ifeq 1, x_ldi 1, x_iflt 1, x_ldi 1, x_ic 1, x_lda 0, x_gi 17 5, x_ishl, x_icge 1, x_ldi 1, x_ic 2, x_irem, x_ic 1, x_icne 2, x_fall 1]
def k_HV_heirsApart_1 : List AI := [x_lc (-1000000000000000), x_rl]
def k_HV_heirsApart_2 : List AI := [x_lc 0, x_s2 3, x_ic 0, x_s1i 5, x_fall 3]
def k_HV_heirsApart_3 : List AI := [x_ldi 5, x_lda 0, x_gi 17 5, x_icge 6, x_lda 0, x_ldi 5, x_ldi 2, x_calv PL_payment 3 5, x_s2 6, x_ldl 3, x_ldi 1, x_ldi 5, x_ishr, x_ic 1, x_iand, x_ic 1, x_icne 4, x_ldl 6, x_lneg, x_go 5]
def k_HV_heirsApart_4 : List AI := [x_ldl 6, x_fall 5]
def k_HV_heirsApart_5 : List AI := [x_ladd, x_s2 3, x_inc 5 1, x_go 3]
def k_HV_heirsApart_6 : List AI := [x_ldl 3, x_rl]
def kb_HV_heirsApart : List (List AI) := [k_HV_heirsApart_0, k_HV_heirsApart_1, k_HV_heirsApart_2, k_HV_heirsApart_3, k_HV_heirsApart_4, k_HV_heirsApart_5, k_HV_heirsApart_6]
def k_LN_init_0 : List AI := [x_lda 0, x_obj, x_lda 0, x_ic 32, x_nw 2, x_pa 0 3, x_lda 0, x_ic 384, x_nw 2, x_pa 1 3, x_lda 0, x_ic 0, x_pi 2 3, x_ret]
def kb_LN_init : List (List AI) := [k_LN_init_0]
def k_LN_clear_0 : List AI := [x_lda 0, x_ic 0, x_pi 2 3, x_ret]
def kb_LN_clear : List (List AI) := [k_LN_clear_0]
def k_LN_add_0 : List AI := [x_lda 0, x_gi 2 3, x_ic 32, x_icge 1, x_ldi 4, x_ic 12, x_icgt 1, x_ldi 4, x_lda 3, x_len, x_icle 2, x_fall 1]
def k_LN_add_1 : List AI := [x_ret]
def k_LN_add_2 : List AI := [x_lc 0, x_s2 5, x_ic 0, x_s1i 7, x_fall 3]
def k_LN_add_3 : List AI := [x_ldi 7, x_ldi 4, x_icge 4, x_lda 0, x_ga 1 3, x_lda 0, x_gi 2 3, x_ic 12, x_imul, x_ldi 7, x_iadd, x_lc 2, x_lda 3, x_ldi 7, x_all, x_ldl 5, x_lsub, x_lmul, x_asl, x_ldl 5, x_lda 3, x_ldi 7, x_all, x_ladd, x_s2 5, x_inc 7 1, x_go 3]
def k_LN_add_4 : List AI := [x_lda 0, x_ga 0 3, x_lda 0, x_gi 2 3, x_ldl 1, x_ldl 5, x_lsub, x_asl, x_lda 0, x_dup, x_gi 2 3, x_ic 1, x_iadd, x_pi 2 3, x_ret]
def kb_LN_add : List (List AI) := [k_LN_add_0, k_LN_add_1, k_LN_add_2, k_LN_add_3, k_LN_add_4]
def k_LN_advanceTo_0 : List AI := [x_ldi 1, x_ldi 1, x_ineg, x_iand, x_ic 1, x_isub, x_call JK_bitCount 1, x_s1i 2, x_ldi 2, x_ic 12, x_iclt 1, x_ret]
def k_LN_advanceTo_1 : List AI := [x_ic 0, x_s1i 3, x_fall 2]
def k_LN_advanceTo_2 : List AI := [x_ldi 3, x_lda 0, x_gi 2 3, x_icge 3, x_lda 0, x_ga 0 3, x_ldi 3, x_dup2, x_all, x_lda 0, x_ga 1 3, x_ldi 3, x_ic 12, x_imul, x_ldi 2, x_iadd, x_all, x_ladd, x_asl, x_inc 3 1, x_go 2]
def k_LN_advanceTo_3 : List AI := [x_ret]
def kb_LN_advanceTo : List (List AI) := [k_LN_advanceTo_0, k_LN_advanceTo_1, k_LN_advanceTo_2, k_LN_advanceTo_3]
def k_NE_init_0 : List AI := [x_lda 0, x_obj, x_lda 0, x_ic 12, x_nw 2, x_pa 0 4, x_lda 0, x_ic 12, x_nw 1, x_pa 1 4, x_lda 0, x_ic 0, x_pz 2 4, x_lda 0, x_lc 0, x_pl 3 4, x_lda 0, x_ic 0, x_pi 4 4, x_lda 0, x_ic 0, x_pi 5 4, x_lda 0, x_ic 5, x_nw 1, x_pa 6 4, x_lda 0, x_ic 5, x_nw 1, x_pa 7 4, x_lda 0, x_ic 0, x_pz 8 4, x_lda 0, x_lc 0, x_pl 9 4, x_lda 0, x_ic 0, x_pi 10 4, x_ret]
def kb_NE_init : List (List AI) := [k_NE_init_0]
def k_NE_findAsTheySit_0 : List AI := [x_ic 0, x_s1i 3, x_fall 1]
def k_NE_findAsTheySit_1 : List AI := [x_ldi 3, x_ic 12, x_icge 2, x_lda 0, x_ga 1 4, x_ldi 3, x_lda 1, x_ldi 3, x_lda 1, x_gi 3 1, x_calv CW_forceIn 3 1, x_asi, x_inc 3 1, x_go 1]
def k_NE_findAsTheySit_2 : List AI := [x_lda 0, x_lda 1, x_ga 0 1, x_lda 2, x_calv0 NE_scan 3 4, x_lda 0, x_gi 2 4, x_rz]
def kb_NE_findAsTheySit : List (List AI) := [k_NE_findAsTheySit_0, k_NE_findAsTheySit_1, k_NE_findAsTheySit_2]
def k_NE_findOrder_0 : List AI := [x_lda 1, x_ga 0 1, x_s1a 3, x_lda 0, x_ic 0, x_pz 8 4, x_lda 3, x_gi 0 5, x_lda 3, x_gi 6 5, x_icne 1, x_lda 3, x_gi 0 5, x_ic 5, x_icgt 1, x_lda 0, x_lda 1, x_lda 2, x_ic 0, x_ic 0, x_calv0 NE_arrange 5 4, x_fall 1]
def k_NE_findOrder_1 : List AI := [x_lda 0, x_gi 8 4, x_rz]
def kb_NE_findOrder : List (List AI) := [k_NE_findOrder_0, k_NE_findOrder_1]
def k_NE_bestRower_0 : List AI := [x_ldi 1, x_iflt 1, x_ldi 1, x_ic 5, x_icge 1, x_lda 0, x_ga 7 4, x_ldi 1, x_ali, x_go 2]
def k_NE_bestRower_1 : List AI := [x_ic (-1), x_fall 2]
def k_NE_bestRower_2 : List AI := [x_ri]
def kb_NE_bestRower : List (List AI) := [k_NE_bestRower_0, k_NE_bestRower_1, k_NE_bestRower_2]
def k_NE_arrange_0 : List AI := [x_lda 1, x_ga 0 1, x_s1a 5, x_ldi 3, x_lda 5, x_gi 0 5, x_icge 1, x_ldi 3, x_ic 5, x_iclt 4, x_fall 1]
def k_NE_arrange_1 : List AI := [x_lda 0, x_lda 5, x_lda 2, x_calv0 NE_scan 3 4, x_lda 0, x_gi 2 4, x_ifeq 3, x_lda 0, x_gi 8 4, x_ifeq 2, x_lda 0, x_gl 3 4, x_lda 0, x_gl 9 4, x_lcmp, x_ifge 3, x_fall 2]
def k_NE_arrange_2 : List AI := [x_lda 0, x_calv0 NE_keepOrder 1 4, x_fall 3]
def k_NE_arrange_3 : List AI := [x_ret]
def k_NE_arrange_4 : List AI := [x_ic 0, x_s1i 6, x_fall 5]
def k_NE_arrange_5 : List AI := [x_ldi 6, x_lda 5, x_gi 6 5, x_icge 7, x_ldi 4, x_ldi 6, x_ishr, x_ic 1, x_iand, x_ifne 6, x_lda 0, x_ga 6 4, x_ldi 3, x_ldi 6, x_asi, x_lda 0, x_ga 1 4, x_ldi 3, x_lda 1, x_ldi 6, x_lda 1, x_gi 3 1, x_calv CW_strengthAt 3 1, x_asi, x_lda 0, x_lda 1, x_lda 2, x_ldi 3, x_ic 1, x_iadd, x_ldi 4, x_ic 1, x_ldi 6, x_ishl, x_ior, x_calv0 NE_arrange 5 4, x_fall 6]
def k_NE_arrange_6 : List AI := [x_inc 6 1, x_go 5]
def k_NE_arrange_7 : List AI := [x_ret]
def kb_NE_arrange : List (List AI) := [k_NE_arrange_0, k_NE_arrange_1, k_NE_arrange_2, k_NE_arrange_3, k_NE_arrange_4, k_NE_arrange_5, k_NE_arrange_6, k_NE_arrange_7]
def k_NE_keepOrder_0 : List AI := [x_lda 0, x_ic 1, x_pz 8 4, x_lda 0, x_lda 0, x_gl 3 4, x_pl 9 4, x_lda 0, x_lda 0, x_gi 4 4, x_pi 10 4, x_lda 0, x_ga 6 4, x_ic 0, x_lda 0, x_ga 7 4, x_ic 0, x_ic 5, x_acp, x_ret]
def kb_NE_keepOrder : List (List AI) := [k_NE_keepOrder_0]
def k_NE_scan_0 : List AI := [x_lda 0, x_lda 1, x_lda 2, x_calv0 NE_setLanes 3 4, x_lda 0, x_ic 0, x_pz 2 4, x_lda 0, x_ic 0, x_pi 5 4, x_ic 1, x_lda 1, x_gi 0 5, x_ishl, x_s1i 3, x_ic 0, x_s1i 4, x_fall 1]
def k_NE_scan_1 : List AI := [x_ldi 4, x_ldi 3, x_icge 4, x_ldi 4, x_ifle 2, x_lda 2, x_ldi 4, x_calv0 LN_advanceTo 2 3, x_fall 2]
def k_NE_scan_2 : List AI := [x_lda 1, x_ldi 4, x_calv PL_allows 2 5, x_ifeq 3, x_lda 0, x_lda 2, x_lda 1, x_gi 12 5, x_ldi 4, x_calv0 NE_weigh 4 4, x_fall 3]
def k_NE_scan_3 : List AI := [x_inc 4 1, x_go 1]
def k_NE_scan_4 : List AI := [x_ret]
def kb_NE_scan : List (List AI) := [k_NE_scan_0, k_NE_scan_1, k_NE_scan_2, k_NE_scan_3, k_NE_scan_4]
def k_NE_setLanes_0 : List AI := [x_lda 2, x_calv0 LN_clear 1 3, x_ic 0, x_s1i 3, x_fall 1]
def k_NE_setLanes_1 : List AI := [x_ldi 3, x_ic 4, x_icge 5, x_lda 1, x_ga 11 5, x_ldi 3, x_all, x_lc (-1000000000000000), x_lcmp, x_ifeq 4, x_ic 0, x_s1i 4, x_fall 2]
def k_NE_setLanes_2 : List AI := [x_ldi 4, x_lda 1, x_gi 0 5, x_icge 3, x_lda 0, x_ga 0 4, x_ldi 4, x_lda 0, x_ga 1 4, x_ldi 4, x_ali, x_i2l, x_lda 1, x_ldi 3, x_ldi 4, x_calv PL_leverOf 3 5, x_lmul, x_asl, x_inc 4 1, x_go 2]
def k_NE_setLanes_3 : List AI := [x_lda 2, x_lda 1, x_ga 11 5, x_ldi 3, x_all, x_lneg, x_lda 0, x_ga 0 4, x_lda 1, x_gi 0 5, x_calv0 LN_add 4 3, x_fall 4]
def k_NE_setLanes_4 : List AI := [x_inc 3 1, x_go 1]
def k_NE_setLanes_5 : List AI := [x_ret]
def kb_NE_setLanes : List (List AI) := [k_NE_setLanes_0, k_NE_setLanes_1, k_NE_setLanes_2, k_NE_setLanes_3, k_NE_setLanes_4, k_NE_setLanes_5]
def k_NE_weigh_0 : List AI := [x_lc 0, x_s2 4, x_ic 1, x_s1i 6, x_ic 0, x_s1i 7, x_fall 1]
def k_NE_weigh_1 : List AI := [x_ldi 7, x_lda 1, x_gi 2 3, x_icge 4, x_lda 1, x_ga 0 3, x_ldi 7, x_all, x_call JK_absL 1, x_s2 8, x_ldl 4, x_ldl 8, x_ladd, x_s2 4, x_ldi 6, x_ifeq 2, x_ldl 8, x_ldi 2, x_i2l, x_lcmp, x_ifgt 2, x_ic 1, x_go 3]
def k_NE_weigh_2 : List AI := [x_ic 0, x_fall 3]
def k_NE_weigh_3 : List AI := [x_s1i 6, x_inc 7 1, x_go 1]
def k_NE_weigh_4 : List AI := [x_ldi 6, x_ifeq 5, x_lda 0, x_dup, x_gi 5 4, x_ic 1, x_iadd, x_pi 5 4, x_fall 5]
def k_NE_weigh_5 : List AI := [x_lda 0, x_gi 2 4, x_ifeq 6, x_ldl 4, x_lda 0, x_gl 3 4, x_lcmp, x_ifge 7, x_fall 6]
def k_NE_weigh_6 : List AI := [x_lda 0, x_ic 1, x_pz 2 4, x_lda 0, x_ldl 4, x_pl 3 4, x_lda 0, x_ldi 3, x_pi 4 4, x_fall 7]
def k_NE_weigh_7 : List AI := [x_ret]
def kb_NE_weigh : List (List AI) := [k_NE_weigh_0, k_NE_weigh_1, k_NE_weigh_2, k_NE_weigh_3, k_NE_weigh_4, k_NE_weigh_5, k_NE_weigh_6, k_NE_weigh_7]
def k_PL_init_0 : List AI := [x_lda 0, x_obj, x_lda 0, x_ic 0, x_pi 0 5, x_lda 0, x_ic 12, x_nw 1, x_pa 1 5, x_lda 0, x_ic 12, x_nw 1, x_pa 2 5, x_lda 0, x_ic 48, x_nw 2, x_pa 3 5, x_lda 0, x_ic 0, x_pi 4 5, x_lda 0, x_ic 0, x_pi 5 5, x_lda 0, x_ic 0, x_pi 6 5, x_lda 0, x_ic 72, x_nw 1, x_pa 7 5, x_lda 0, x_ic 12, x_nw 1, x_pa 8 5, x_lda 0, x_ic 12, x_nw 1, x_pa 9 5, x_lda 0, x_ic (-1), x_pi 10 5, x_lda 0, x_ic 4, x_nw 2, x_pa 11 5, x_lda 0, x_ic 0, x_pi 12 5, x_lda 0, x_ic 0, x_pi 13 5, x_lda 0, x_ic 96, x_nw 1, x_pa 14 5, x_lda 0, x_ic 8, x_nw 1, x_pa 15 5, x_lda 0, x_ic 8, x_nw 1, x_pa 16 5, x_lda 0, x_ic 0, x_pi 17 5, x_lda 0, x_ic 12, x_nw 1, x_pa 18 5, x_lda 0, x_ic 12, x_nw 1, x_pa 19 5, x_lda 0, x_ga 11 5, x_lc (-1000000000000000), x_call0 JK_fillL 2, x_ret]
def kb_PL_init : List (List AI) := [k_PL_init_0]
def k_PL_clear_0 : List AI := [x_lda 0, x_ic 0, x_pi 0 5, x_lda 0, x_ic 0, x_pi 4 5, x_lda 0, x_ic 0, x_pi 5 5, x_lda 0, x_ic 0, x_pi 6 5, x_lda 0, x_ic (-1), x_pi 10 5, x_lda 0, x_ic 0, x_pi 12 5, x_lda 0, x_ic 0, x_pi 13 5, x_lda 0, x_ic 0, x_pi 17 5, x_lda 0, x_ga 7 5, x_ic 0, x_call0 JK_fillI 2, x_lda 0, x_ga 11 5, x_lc (-1000000000000000), x_call0 JK_fillL 2, x_lda 0, x_ga 14 5, x_ic 0, x_call0 JK_fillI 2, x_ret]
def kb_PL_clear : List (List AI) := [k_PL_clear_0]
def k_PL_isSeat_0 : List AI := [x_ldi 1, x_iflt 1, x_ldi 1, x_lda 0, x_gi 0 5, x_icge 1, x_ic 1, x_go 2]
def k_PL_isSeat_1 : List AI := [x_ic 0, x_fall 2]
def k_PL_isSeat_2 : List AI := [x_rz]
def kb_PL_isSeat : List (List AI) := [k_PL_isSeat_0, k_PL_isSeat_1, k_PL_isSeat_2]
def k_PL_isRower_0 : List AI := [x_ldi 1, x_iflt 1, x_ldi 1, x_lda 0, x_gi 6 5, x_icge 1, x_ic 1, x_go 2]
def k_PL_isRower_1 : List AI := [x_ic 0, x_fall 2]
def k_PL_isRower_2 : List AI := [x_rz]
def kb_PL_isRower : List (List AI) := [k_PL_isRower_0, k_PL_isRower_1, k_PL_isRower_2]
def k_PL_isPower_0 : List AI := [x_ldi 0, x_iflt 1, x_ldi 0, x_ic 4, x_icge 1, x_ic 1, x_go 2]
def k_PL_isPower_1 : List AI := [x_ic 0, x_fall 2]
def k_PL_isPower_2 : List AI := [x_rz]
def kb_PL_isPower : List (List AI) := [k_PL_isPower_0, k_PL_isPower_1, k_PL_isPower_2]
def k_PL_isFixed_0 : List AI := [x_lda 0, x_gi 4 5, x_lda 0, x_gi 5 5, x_ior, x_ldi 1, x_ishr, x_ic 1, x_iand, x_ic 1, x_icne 1, x_ic 1, x_go 2]
def k_PL_isFixed_1 : List AI := [x_ic 0, x_fall 2]
def k_PL_isFixed_2 : List AI := [x_rz]
def kb_PL_isFixed : List (List AI) := [k_PL_isFixed_0, k_PL_isFixed_1, k_PL_isFixed_2]
def k_PL_seatAtPlace_0 : List AI := [x_ic 0, x_s1i 2, x_fall 1]
def k_PL_seatAtPlace_1 : List AI := [x_ldi 2, x_lda 0, x_gi 0 5, x_icge 3, x_lda 0, x_ga 1 5, x_ldi 2, x_ali, x_ldi 1, x_icne 2, x_ldi 2, x_ri]
def k_PL_seatAtPlace_2 : List AI := [x_inc 2 1, x_go 1]
def k_PL_seatAtPlace_3 : List AI := [x_ic (-1), x_ri]
def kb_PL_seatAtPlace : List (List AI) := [k_PL_seatAtPlace_0, k_PL_seatAtPlace_1, k_PL_seatAtPlace_2, k_PL_seatAtPlace_3]
def k_PL_addSeat_0 : List AI := [x_lda 0, x_gi 0 5, x_ic 12, x_iclt 1, x_ret]
def k_PL_addSeat_1 : List AI := [x_lda 0, x_ga 1 5, x_lda 0, x_gi 0 5, x_ldi 1, x_asi, x_lda 0, x_ga 2 5, x_lda 0, x_gi 0 5, x_ldi 2, x_asi, x_ldi 2, x_i2l, x_s2 3, x_ic 0, x_s1i 5, x_fall 2]
def k_PL_addSeat_2 : List AI := [x_ldi 5, x_ic 4, x_icge 3, x_lda 0, x_ga 3 5, x_ldi 5, x_ic 12, x_imul, x_lda 0, x_gi 0 5, x_iadd, x_ldl 3, x_asl, x_ldl 3, x_ldi 1, x_i2l, x_lmul, x_s2 3, x_inc 5 1, x_go 2]
def k_PL_addSeat_3 : List AI := [x_lda 0, x_dup, x_gi 0 5, x_ic 1, x_iadd, x_pi 0 5, x_ret]
def kb_PL_addSeat : List (List AI) := [k_PL_addSeat_0, k_PL_addSeat_1, k_PL_addSeat_2, k_PL_addSeat_3]
def k_PL_fixSeat_0 : List AI := [x_ic 1, x_ldi 1, x_ishl, x_s1i 3, x_lda 0, x_ldi 2, x_ifeq 1, x_lda 0, x_gi 4 5, x_ldi 3, x_ic (-1), x_ixor, x_iand, x_go 2]
def k_PL_fixSeat_1 : List AI := [x_lda 0, x_gi 4 5, x_ldi 3, x_ior, x_fall 2]
def k_PL_fixSeat_2 : List AI := [x_pi 4 5, x_lda 0, x_ldi 2, x_ifeq 3, x_lda 0, x_gi 5 5, x_ldi 3, x_ior, x_go 4]
def k_PL_fixSeat_3 : List AI := [x_lda 0, x_gi 5 5, x_ldi 3, x_ic (-1), x_ixor, x_iand, x_fall 4]
def k_PL_fixSeat_4 : List AI := [x_pi 5 5, x_ret]
def kb_PL_fixSeat : List (List AI) := [k_PL_fixSeat_0, k_PL_fixSeat_1, k_PL_fixSeat_2, k_PL_fixSeat_3, k_PL_fixSeat_4]
def k_PL_addRower_0 : List AI := [x_lda 0, x_gi 6 5, x_ic 12, x_iclt 1, x_ret]
def k_PL_addRower_1 : List AI := [x_lda 0, x_ga 8 5, x_lda 0, x_gi 6 5, x_ldi 1, x_asi, x_lda 0, x_ga 9 5, x_lda 0, x_gi 6 5, x_ldi 2, x_asi, x_lda 0, x_dup, x_gi 6 5, x_ic 1, x_iadd, x_pi 6 5, x_ret]
def kb_PL_addRower : List (List AI) := [k_PL_addRower_0, k_PL_addRower_1]
def k_PL_wantSwing_0 : List AI := [x_ldi 1, x_call PL_isPower 1, x_ifeq 1, x_lda 0, x_ga 11 5, x_ldi 1, x_ldi 2, x_i2l, x_asl, x_fall 1]
def k_PL_wantSwing_1 : List AI := [x_ret]
def kb_PL_wantSwing : List (List AI) := [k_PL_wantSwing_0, k_PL_wantSwing_1]
def k_PL_addRun_0 : List AI := [x_lda 0, x_gi 13 5, x_ic 8, x_iclt 1, x_ret]
def k_PL_addRun_1 : List AI := [x_lda 0, x_ga 15 5, x_lda 0, x_gi 13 5, x_ldi 1, x_asi, x_lda 0, x_ga 16 5, x_lda 0, x_gi 13 5, x_ldi 2, x_asi, x_lda 0, x_dup, x_gi 13 5, x_ic 1, x_iadd, x_pi 13 5, x_ret]
def kb_PL_addRun : List (List AI) := [k_PL_addRun_0, k_PL_addRun_1]
def k_PL_setRunSide_0 : List AI := [x_lda 0, x_gi 13 5, x_ic 8, x_icge 1, x_lda 0, x_ldi 1, x_calv PL_isSeat 2 5, x_ifeq 1, x_lda 0, x_ga 14 5, x_lda 0, x_gi 13 5, x_ic 12, x_imul, x_ldi 1, x_iadd, x_ldi 2, x_asi, x_fall 1]
def k_PL_setRunSide_1 : List AI := [x_ret]
def kb_PL_setRunSide : List (List AI) := [k_PL_setRunSide_0, k_PL_setRunSide_1]
def k_PL_addPayment_0 : List AI := [x_lda 0, x_gi 17 5, x_ic 12, x_iclt 1, x_ret]
def k_PL_addPayment_1 : List AI := [x_lda 0, x_ga 18 5, x_lda 0, x_gi 17 5, x_ldi 1, x_asi, x_lda 0, x_ga 19 5, x_lda 0, x_gi 17 5, x_ldi 2, x_asi, x_lda 0, x_dup, x_gi 17 5, x_ic 1, x_iadd, x_pi 17 5, x_ret]
def kb_PL_addPayment : List (List AI) := [k_PL_addPayment_0, k_PL_addPayment_1]
def k_PL_wants_0 : List AI := [x_ic 0, x_s1i 1, x_ic 0, x_s1i 2, x_fall 1]
def k_PL_wants_1 : List AI := [x_ldi 2, x_ic 4, x_icge 3, x_lda 0, x_ga 11 5, x_ldi 2, x_all, x_lc (-1000000000000000), x_lcmp, x_ifeq 2, x_inc 1 1, x_fall 2]
def k_PL_wants_2 : List AI := [x_inc 2 1, x_go 1]
def k_PL_wants_3 : List AI := [x_ldi 1, x_ri]
def kb_PL_wants : List (List AI) := [k_PL_wants_0, k_PL_wants_1, k_PL_wants_2, k_PL_wants_3]
def k_PL_leverOf_0 : List AI := [x_ldi 1, x_call PL_isPower 1, x_ifeq 1, x_lda 0, x_ldi 2, x_calv PL_isSeat 2 5, x_ifeq 1, x_lda 0, x_ga 3 5, x_ldi 1, x_ic 12, x_imul, x_ldi 2, x_iadd, x_all, x_go 2]
def k_PL_leverOf_1 : List AI := [x_lc 0, x_fall 2]
def k_PL_leverOf_2 : List AI := [x_rl]
def kb_PL_leverOf : List (List AI) := [k_PL_leverOf_0, k_PL_leverOf_1, k_PL_leverOf_2]
def k_PL_allows_0 : List AI := [x_ldi 1, x_lda 0, x_gi 4 5, x_iand, x_ifne 2, x_ldi 1, x_lda 0, x_gi 5 5, x_iand, x_lda 0, x_gi 5 5, x_icne 2, x_lda 0, x_gi 10 5, x_ic (-1), x_iceq 1, x_lda 0, x_gi 0 5, x_ldi 1, x_call JK_bitCount 1, x_isub, x_lda 0, x_gi 10 5, x_icne 2, x_fall 1]
def k_PL_allows_1 : List AI := [x_ic 1, x_go 3]
def k_PL_allows_2 : List AI := [x_ic 0, x_fall 3]
def k_PL_allows_3 : List AI := [x_rz]
def kb_PL_allows : List (List AI) := [k_PL_allows_0, k_PL_allows_1, k_PL_allows_2, k_PL_allows_3]
def k_PL_sideAtFirst_0 : List AI := [x_lda 0, x_ldi 1, x_calv PL_isFixed 2 5, x_ifeq 1, x_lda 0, x_gi 5 5, x_ldi 1, x_ishr, x_ic 1, x_iand, x_ri]
def k_PL_sideAtFirst_1 : List AI := [x_ldi 1, x_ic 1, x_iand, x_ri]
def kb_PL_sideAtFirst : List (List AI) := [k_PL_sideAtFirst_0, k_PL_sideAtFirst_1]
def k_PL_seatedAtFirst_0 : List AI := [x_lda 0, x_gi 0 5, x_lda 0, x_gi 6 5, x_call JK_minI 2, x_ri]
def kb_PL_seatedAtFirst : List (List AI) := [k_PL_seatedAtFirst_0]
def k_PL_runLever_0 : List AI := [x_ldi 1, x_iflt 1, x_ldi 1, x_lda 0, x_gi 13 5, x_icge 1, x_ldi 2, x_iflt 1, x_ldi 2, x_lda 0, x_calv PL_seatedAtFirst 1 5, x_iclt 2, x_fall 1]
def k_PL_runLever_1 : List AI := [x_lc 0, x_rl]
def k_PL_runLever_2 : List AI := [x_lda 0, x_ga 14 5, x_ldi 1, x_ic 12, x_imul, x_ldi 2, x_iadd, x_ali, x_i2l, x_lda 0, x_lda 0, x_ga 15 5, x_ldi 1, x_ali, x_ldi 2, x_calv PL_leverOf 3 5, x_lmul, x_rl]
def kb_PL_runLever : List (List AI) := [k_PL_runLever_0, k_PL_runLever_1, k_PL_runLever_2]
def k_PL_swungOf_0 : List AI := [x_ldi 1, x_iflt 1, x_ldi 1, x_lda 0, x_gi 13 5, x_icge 1, x_lda 0, x_ga 16 5, x_ldi 1, x_ali, x_i2l, x_go 2]
def k_PL_swungOf_1 : List AI := [x_lc 0, x_fall 2]
def k_PL_swungOf_2 : List AI := [x_rl]
def kb_PL_swungOf : List (List AI) := [k_PL_swungOf_0, k_PL_swungOf_1, k_PL_swungOf_2]
def k_PL_payment_0 : List AI := [x_ldi 1, x_iflt 1, x_ldi 1, x_lda 0, x_gi 17 5, x_iclt 2, x_fall 1]
def k_PL_payment_1 : List AI := [x_lc 0, x_rl]
def k_PL_payment_2 : List AI := [x_ldi 2, x_ifeq 3, x_lda 0, x_ga 18 5, x_ldi 1, x_ali, x_i2l, x_lda 0, x_ga 19 5, x_ldi 1, x_ali, x_i2l, x_lmul, x_go 4]
def k_PL_payment_3 : List AI := [x_lda 0, x_ga 18 5, x_ldi 1, x_ali, x_i2l, x_fall 4]
def k_PL_payment_4 : List AI := [x_rl]
def kb_PL_payment : List (List AI) := [k_PL_payment_0, k_PL_payment_1, k_PL_payment_2, k_PL_payment_3, k_PL_payment_4]
def k_QU_init_0 : List AI := [x_lda 0, x_obj, x_lda 0, x_ic (-1), x_pi 0 6, x_lda 0, x_ic 1600, x_nw 1, x_pa 1 6, x_lda 0, x_ic 0, x_pi 2 6, x_lda 0, x_ic 64, x_nw 2, x_pa 3 6, x_lda 0, x_ic 0, x_pi 4 6, x_lda 0, x_ic (-1), x_pi 5 6, x_lda 0, x_ic 4, x_nw 2, x_pa 6 6, x_lda 0, x_lc 0, x_pl 7 6, x_lda 0, x_lc 0, x_pl 8 6, x_ret]
def kb_QU_init : List (List AI) := [k_QU_init_0]
def k_QU_read_0 : List AI := [x_lda 1, x_calv0 TP_begin 1 8, x_lda 0, x_ic 0, x_pi 2 6, x_lda 0, x_lda 1, x_str 902, x_calv TP_wordHere 2 8, x_pi 0 6, x_lda 0, x_gi 0 6, x_iflt 1, x_lda 0, x_gi 0 6, x_ic 5, x_icle 2, x_fall 1]
def k_QU_read_1 : List AI := [x_lda 1, x_calv TP_failHere 1 8, x_rz]
def k_QU_read_2 : List AI := [x_lda 1, x_calv0 TP_passWord 1 8, x_lda 0, x_gi 0 6, x_ic 2, x_icgt 3, x_lda 0, x_lda 1, x_ic 0, x_calv QU_test 3 6, x_go 4]
def k_QU_read_3 : List AI := [x_lda 0, x_lda 1, x_ic 0, x_calv QU_sum 3 6, x_fall 4]
def k_QU_read_4 : List AI := [x_s1i 2, x_ldi 2, x_ifeq 6, x_lda 1, x_calv TP_next 1 8, x_ic (-1), x_iceq 5, x_lda 1, x_calv TP_failHere 1 8, x_ifeq 6, x_fall 5]
def k_QU_read_5 : List AI := [x_ic 1, x_go 7]
def k_QU_read_6 : List AI := [x_ic 0, x_fall 7]
def k_QU_read_7 : List AI := [x_rz]
def kb_QU_read : List (List AI) := [k_QU_read_0, k_QU_read_1, k_QU_read_2, k_QU_read_3, k_QU_read_4, k_QU_read_5, k_QU_read_6, k_QU_read_7]
def k_QU_test_0 : List AI := [x_lda 0, x_lda 1, x_ldi 2, x_calv QU_both 3 6, x_ifne 1, x_ic 0, x_rz]
def k_QU_test_1 : List AI := [x_ic 0, x_s1i 3, x_fall 2]
def k_QU_test_2 : List AI := [x_ldi 3, x_ic 1600, x_icge 4, x_lda 1, x_str 902, x_calv TP_wordHere 2 8, x_ic 6, x_icne 4, x_lda 1, x_calv0 TP_passWord 1 8, x_lda 0, x_lda 1, x_ldi 2, x_calv QU_both 3 6, x_ifne 3, x_ic 0, x_rz]
def k_QU_test_3 : List AI := [x_lda 0, x_ic 6, x_calv0 QU_code 2 6, x_inc 3 1, x_go 2]
def k_QU_test_4 : List AI := [x_ic 1, x_rz]
def kb_QU_test : List (List AI) := [k_QU_test_0, k_QU_test_1, k_QU_test_2, k_QU_test_3, k_QU_test_4]
def k_QU_both_0 : List AI := [x_lda 0, x_lda 1, x_ldi 2, x_calv QU_fact 3 6, x_ifne 1, x_ic 0, x_rz]
def k_QU_both_1 : List AI := [x_ic 0, x_s1i 3, x_fall 2]
def k_QU_both_2 : List AI := [x_ldi 3, x_ic 1600, x_icge 4, x_lda 1, x_str 902, x_calv TP_wordHere 2 8, x_ic 7, x_icne 4, x_lda 1, x_calv0 TP_passWord 1 8, x_lda 0, x_lda 1, x_ldi 2, x_calv QU_fact 3 6, x_ifne 3, x_ic 0, x_rz]
def k_QU_both_3 : List AI := [x_lda 0, x_ic 7, x_calv0 QU_code 2 6, x_inc 3 1, x_go 2]
def k_QU_both_4 : List AI := [x_ic 1, x_rz]
def kb_QU_both : List (List AI) := [k_QU_both_0, k_QU_both_1, k_QU_both_2, k_QU_both_3, k_QU_both_4]
def k_QU_fact_0 : List AI := [x_lda 1, x_str 902, x_calv TP_wordHere 2 8, x_s1i 3, x_ldi 3, x_ic 9, x_icne 1, x_lda 1, x_calv0 TP_passWord 1 8, x_lda 0, x_ic 9, x_calv0 QU_code 2 6, x_ic 1, x_rz]
def k_QU_fact_1 : List AI := [x_ldi 3, x_ic 8, x_icne 3, x_lda 1, x_ldi 2, x_call QU_mayOpen 2, x_ifne 2, x_ic 0, x_rz]
def k_QU_fact_2 : List AI := [x_lda 1, x_calv0 TP_passWord 1 8, x_lda 0, x_lda 1, x_ldi 2, x_ic 1, x_iadd, x_calv QU_fact 3 6, x_s1i 4, x_lda 0, x_ic 8, x_calv0 QU_code 2 6, x_ldi 4, x_rz]
def k_QU_fact_3 : List AI := [x_lda 1, x_calv TP_next 1 8, x_ic 91, x_icne 6, x_lda 1, x_ldi 2, x_call QU_mayOpen 2, x_ifeq 4, x_lda 1, x_ic 91, x_calv TP_takeSign 2 8, x_ifeq 4, x_lda 0, x_lda 1, x_ldi 2, x_ic 1, x_iadd, x_calv QU_test 3 6, x_ifeq 4, x_lda 1, x_ic 93, x_calv TP_takeSign 2 8, x_ifeq 4, x_ic 1, x_go 5]
def k_QU_fact_4 : List AI := [x_ic 0, x_fall 5]
def k_QU_fact_5 : List AI := [x_rz]
def k_QU_fact_6 : List AI := [x_lda 0, x_lda 1, x_ldi 2, x_calv QU_comparison 3 6, x_rz]
def kb_QU_fact : List (List AI) := [k_QU_fact_0, k_QU_fact_1, k_QU_fact_2, k_QU_fact_3, k_QU_fact_4, k_QU_fact_5, k_QU_fact_6]
def k_QU_comparison_0 : List AI := [x_lda 0, x_lda 1, x_ldi 2, x_calv QU_sum 3 6, x_ifne 1, x_ic 0, x_rz]
def k_QU_comparison_1 : List AI := [x_lda 1, x_calv TP_next 1 8, x_s1i 3, x_ldi 3, x_ic 60, x_iceq 2, x_ldi 3, x_ic 62, x_iceq 2, x_ldi 3, x_ic 61, x_iceq 2, x_lda 1, x_calv TP_failHere 1 8, x_rz]
def k_QU_comparison_2 : List AI := [x_lda 1, x_ldi 3, x_calv TP_takeSign 2 8, x_pop, x_lda 0, x_lda 1, x_ldi 2, x_calv QU_sum 3 6, x_s1i 4, x_ldi 3, x_ic 60, x_icne 3, x_lda 0, x_ic 21, x_calv0 QU_code 2 6, x_go 6]
def k_QU_comparison_3 : List AI := [x_lda 0, x_ldi 3, x_ic 62, x_icne 4, x_ic 22, x_go 5]
def k_QU_comparison_4 : List AI := [x_ic 23, x_fall 5]
def k_QU_comparison_5 : List AI := [x_calv0 QU_code 2 6, x_fall 6]
def k_QU_comparison_6 : List AI := [x_ldi 4, x_rz]
def kb_QU_comparison : List (List AI) := [k_QU_comparison_0, k_QU_comparison_1, k_QU_comparison_2, k_QU_comparison_3, k_QU_comparison_4, k_QU_comparison_5, k_QU_comparison_6]
def k_QU_sum_0 : List AI := [x_lda 0, x_lda 1, x_ldi 2, x_calv QU_product 3 6, x_ifne 1, x_ic 0, x_rz]
def k_QU_sum_1 : List AI := [x_ic 0, x_s1i 3, x_fall 2]
def k_QU_sum_2 : List AI := [x_ldi 3, x_ic 1600, x_icge 8, x_lda 1, x_calv TP_next 1 8, x_ic 43, x_iceq 3, x_lda 1, x_calv TP_next 1 8, x_ic 45, x_icne 8, x_fall 3]
def k_QU_sum_3 : List AI := [x_lda 1, x_calv TP_next 1 8, x_s1i 4, x_lda 1, x_ldi 4, x_calv TP_takeSign 2 8, x_ifeq 4, x_lda 0, x_lda 1, x_ldi 2, x_calv QU_product 3 6, x_ifne 5, x_fall 4]
def k_QU_sum_4 : List AI := [x_ic 0, x_rz]
def k_QU_sum_5 : List AI := [x_lda 0, x_ldi 4, x_ic 43, x_icne 6, x_ic 17, x_go 7]
def k_QU_sum_6 : List AI := [x_ic 18, x_fall 7]
def k_QU_sum_7 : List AI := [x_calv0 QU_code 2 6, x_inc 3 1, x_go 2]
def k_QU_sum_8 : List AI := [x_ic 1, x_rz]
def kb_QU_sum : List (List AI) := [k_QU_sum_0, k_QU_sum_1, k_QU_sum_2, k_QU_sum_3, k_QU_sum_4, k_QU_sum_5, k_QU_sum_6, k_QU_sum_7, k_QU_sum_8]
def k_QU_product_0 : List AI := [x_lda 0, x_lda 1, x_ldi 2, x_calv QU_part 3 6, x_ifne 1, x_ic 0, x_rz]
def k_QU_product_1 : List AI := [x_ic 0, x_s1i 3, x_fall 2]
def k_QU_product_2 : List AI := [x_ldi 3, x_ic 1600, x_icge 8, x_lda 1, x_calv TP_next 1 8, x_ic 42, x_iceq 3, x_lda 1, x_calv TP_next 1 8, x_ic 47, x_icne 8, x_fall 3]
def k_QU_product_3 : List AI := [x_lda 1, x_calv TP_next 1 8, x_s1i 4, x_lda 1, x_ldi 4, x_calv TP_takeSign 2 8, x_ifeq 4, x_lda 0, x_lda 1, x_ldi 2, x_calv QU_part 3 6, x_ifne 5, x_fall 4]
def k_QU_product_4 : List AI := [x_ic 0, x_rz]
def k_QU_product_5 : List AI := [x_lda 0, x_ldi 4, x_ic 42, x_icne 6, x_ic 19, x_go 7]
def k_QU_product_6 : List AI := [x_ic 20, x_fall 7]
def k_QU_product_7 : List AI := [x_calv0 QU_code 2 6, x_inc 3 1, x_go 2]
def k_QU_product_8 : List AI := [x_ic 1, x_rz]
def kb_QU_product : List (List AI) := [k_QU_product_0, k_QU_product_1, k_QU_product_2, k_QU_product_3, k_QU_product_4, k_QU_product_5, k_QU_product_6, k_QU_product_7, k_QU_product_8]
def k_QU_part_0 : List AI := [x_lda 1, x_calv TP_next 1 8, x_s1i 3, x_ldi 3, x_ic 40, x_icne 3, x_lda 1, x_ldi 2, x_call QU_mayOpen 2, x_ifeq 1, x_lda 1, x_ic 40, x_calv TP_takeSign 2 8, x_ifeq 1, x_lda 0, x_lda 1, x_ldi 2, x_ic 1, x_iadd, x_calv QU_sum 3 6, x_ifeq 1, x_lda 1, x_ic 41, x_calv TP_takeSign 2 8, x_ifeq 1, x_ic 1, x_go 2]
def k_QU_part_1 : List AI := [x_ic 0, x_fall 2]
def k_QU_part_2 : List AI := [x_rz]
def k_QU_part_3 : List AI := [x_ldi 3, x_call TP_isDigit 1, x_ifeq 4, x_lda 1, x_ic 0, x_ic 99999, x_calv TP_takeNumber 3 8, x_s1i 4, x_lda 0, x_lda 1, x_gi 4 8, x_calv0 QU_keep 2 6, x_ldi 4, x_rz]
def k_QU_part_4 : List AI := [x_lda 1, x_str 902, x_calv TP_wordHere 2 8, x_s1i 4, x_ldi 4, x_sw 8 [(10, 5), (11, 5), (12, 5), (13, 6), (14, 6), (15, 7), (16, 7)]]
def k_QU_part_5 : List AI := [x_lda 1, x_calv0 TP_passWord 1 8, x_lda 0, x_ldi 4, x_calv0 QU_code 2 6, x_ic 1, x_rz]
def k_QU_part_6 : List AI := [x_lda 0, x_lda 1, x_ldi 2, x_ldi 4, x_calv QU_partOf 4 6, x_rz]
def k_QU_part_7 : List AI := [x_lda 0, x_lda 1, x_ldi 2, x_ldi 4, x_calv QU_pair 4 6, x_rz]
def k_QU_part_8 : List AI := [x_lda 1, x_calv TP_failHere 1 8, x_rz]
def kb_QU_part : List (List AI) := [k_QU_part_0, k_QU_part_1, k_QU_part_2, k_QU_part_3, k_QU_part_4, k_QU_part_5, k_QU_part_6, k_QU_part_7, k_QU_part_8]
def k_QU_partOf_0 : List AI := [x_lda 1, x_ldi 2, x_call QU_mayOpen 2, x_ifne 1, x_ic 0, x_rz]
def k_QU_partOf_1 : List AI := [x_lda 1, x_calv0 TP_passWord 1 8, x_lda 0, x_lda 1, x_ldi 2, x_ic 1, x_iadd, x_calv QU_part 3 6, x_s1i 4, x_lda 0, x_ldi 3, x_calv0 QU_code 2 6, x_ldi 4, x_rz]
def kb_QU_partOf : List (List AI) := [k_QU_partOf_0, k_QU_partOf_1]
def k_QU_pair_0 : List AI := [x_lda 1, x_calv0 TP_passWord 1 8, x_lda 1, x_calv TP_next 1 8, x_ic 40, x_iceq 1, x_lda 1, x_calv TP_failHere 1 8, x_rz]
def k_QU_pair_1 : List AI := [x_lda 1, x_ldi 2, x_call QU_mayOpen 2, x_ifeq 2, x_lda 1, x_ic 40, x_calv TP_takeSign 2 8, x_ifeq 2, x_lda 0, x_lda 1, x_ldi 2, x_ic 1, x_iadd, x_calv QU_sum 3 6, x_ifeq 2, x_lda 1, x_ic 44, x_calv TP_takeSign 2 8, x_ifeq 2, x_lda 0, x_lda 1, x_ldi 2, x_ic 1, x_iadd, x_calv QU_sum 3 6, x_ifeq 2, x_lda 1, x_ic 41, x_calv TP_takeSign 2 8, x_ifeq 2, x_ic 1, x_go 3]
def k_QU_pair_2 : List AI := [x_ic 0, x_fall 3]
def k_QU_pair_3 : List AI := [x_s1i 4, x_lda 0, x_ldi 3, x_calv0 QU_code 2 6, x_ldi 4, x_rz]
def kb_QU_pair : List (List AI) := [k_QU_pair_0, k_QU_pair_1, k_QU_pair_2, k_QU_pair_3]
def k_QU_mayOpen_0 : List AI := [x_ldi 1, x_ic 6, x_iclt 1, x_lda 0, x_ic 4, x_lda 0, x_gi 2 8, x_calv TP_fail 3 8, x_ifeq 2, x_fall 1]
def k_QU_mayOpen_1 : List AI := [x_ic 1, x_go 3]
def k_QU_mayOpen_2 : List AI := [x_ic 0, x_fall 3]
def k_QU_mayOpen_3 : List AI := [x_rz]
def kb_QU_mayOpen : List (List AI) := [k_QU_mayOpen_0, k_QU_mayOpen_1, k_QU_mayOpen_2, k_QU_mayOpen_3]
def k_QU_code_0 : List AI := [x_lda 0, x_ic (-1), x_ldi 1, x_isub, x_calv0 QU_keep 2 6, x_ret]
def kb_QU_code : List (List AI) := [k_QU_code_0]
def k_QU_keep_0 : List AI := [x_lda 0, x_gi 2 6, x_lda 0, x_ga 1 6, x_len, x_icge 1, x_lda 0, x_ga 1 6, x_lda 0, x_gi 2 6, x_ldi 1, x_asi, x_lda 0, x_dup, x_gi 2 6, x_ic 1, x_iadd, x_pi 2 6, x_fall 1]
def k_QU_keep_1 : List AI := [x_ret]
def kb_QU_keep : List (List AI) := [k_QU_keep_0, k_QU_keep_1]
def k_QU_answer_0 : List AI := [x_lda 0, x_ic (-1), x_pi 5 6, x_lda 1, x_gi 3 1, x_s1i 2, x_ldi 2, x_ic 100, x_iadd, x_ic 9999, x_call JK_minI 2, x_s1i 3, x_lda 0, x_gi 0 6, x_ic 2, x_icgt 1, x_lda 0, x_lda 1, x_ldi 2, x_ldi 3, x_calv QU_answerTest 4 6, x_go 2]
def k_QU_answer_1 : List AI := [x_lda 0, x_lda 1, x_ldi 2, x_ldi 3, x_calv QU_answerSum 4 6, x_fall 2]
def k_QU_answer_2 : List AI := [x_rl]
def kb_QU_answer : List (List AI) := [k_QU_answer_0, k_QU_answer_1, k_QU_answer_2]
def k_QU_answerTest_0 : List AI := [x_ic (-1), x_s1i 4, x_ic (-1), x_s1i 5, x_ic 0, x_s1i 6, x_ldi 2, x_s1i 7, x_fall 1]
def k_QU_answerTest_1 : List AI := [x_ldi 7, x_ldi 3, x_icgt 5, x_lda 0, x_lda 1, x_ldi 7, x_calv QU_valueAt 3 6, x_lc 0, x_lcmp, x_ifeq 4, x_ldi 4, x_ic (-1), x_icne 2, x_ldi 7, x_go 3]
def k_QU_answerTest_2 : List AI := [x_ldi 4, x_fall 3]
def k_QU_answerTest_3 : List AI := [x_s1i 4, x_ldi 7, x_s1i 5, x_inc 6 1, x_fall 4]
def k_QU_answerTest_4 : List AI := [x_inc 7 1, x_go 1]
def k_QU_answerTest_5 : List AI := [x_lda 0, x_gi 0 6, x_ic 2, x_icne 6, x_ldi 6, x_i2l, x_rl]
def k_QU_answerTest_6 : List AI := [x_lda 0, x_gi 0 6, x_ifne 7, x_ldi 4, x_i2l, x_go 8]
def k_QU_answerTest_7 : List AI := [x_ldi 5, x_i2l, x_fall 8]
def k_QU_answerTest_8 : List AI := [x_rl]
def kb_QU_answerTest : List (List AI) := [k_QU_answerTest_0, k_QU_answerTest_1, k_QU_answerTest_2, k_QU_answerTest_3, k_QU_answerTest_4, k_QU_answerTest_5, k_QU_answerTest_6, k_QU_answerTest_7, k_QU_answerTest_8]
def k_QU_answerSum_0 : List AI := [x_lc 0, x_s2 4, x_lc (-1000000), x_s2 6, x_lc 1000000, x_s2 8, x_ldi 2, x_s1i 10, x_fall 1]
def k_QU_answerSum_1 : List AI := [x_ldi 10, x_ldi 3, x_icgt 2, x_lda 0, x_lda 1, x_ldi 10, x_calv QU_valueAt 3 6, x_s2 11, x_ldl 4, x_ldl 11, x_ladd, x_s2 4, x_ldl 6, x_ldl 11, x_call JK_maxL 2, x_s2 6, x_ldl 8, x_ldl 11, x_call JK_minL 2, x_s2 8, x_inc 10 1, x_go 1]
def k_QU_answerSum_2 : List AI := [x_lda 0, x_gi 0 6, x_ic 3, x_icne 3, x_ldl 4, x_rl]
def k_QU_answerSum_3 : List AI := [x_lda 0, x_gi 0 6, x_ic 4, x_icne 4, x_ldl 6, x_go 5]
def k_QU_answerSum_4 : List AI := [x_ldl 8, x_fall 5]
def k_QU_answerSum_5 : List AI := [x_rl]
def kb_QU_answerSum : List (List AI) := [k_QU_answerSum_0, k_QU_answerSum_1, k_QU_answerSum_2, k_QU_answerSum_3, k_QU_answerSum_4, k_QU_answerSum_5]
def k_QU_valueAt_0 : List AI := [x_lda 0, x_lda 1, x_ldi 2, x_calv0 QU_keepTen 3 6, x_lda 0, x_ic 0, x_pi 4 6, x_ic 0, x_s1i 3, x_fall 1]
def k_QU_valueAt_1 : List AI := [x_ldi 3, x_lda 0, x_gi 2 6, x_icge 4, x_lda 0, x_ga 1 6, x_ldi 3, x_ali, x_s1i 4, x_ldi 4, x_iflt 2, x_lda 0, x_ldi 4, x_i2l, x_calv0 QU_push 2 6, x_go 3]
def k_QU_valueAt_2 : List AI := [x_lda 0, x_lda 1, x_ic (-1), x_ldi 4, x_isub, x_ldi 2, x_calv0 QU_apply 4 6, x_fall 3]
def k_QU_valueAt_3 : List AI := [x_inc 3 1, x_go 1]
def k_QU_valueAt_4 : List AI := [x_lda 0, x_calv QU_pop 1 6, x_rl]
def kb_QU_valueAt : List (List AI) := [k_QU_valueAt_0, k_QU_valueAt_1, k_QU_valueAt_2, k_QU_valueAt_3, k_QU_valueAt_4]
def k_QU_keepTen_0 : List AI := [x_lda 0, x_gi 5 6, x_ldi 2, x_ic 10, x_idiv, x_icne 1, x_ret]
def k_QU_keepTen_1 : List AI := [x_lda 0, x_ldi 2, x_ic 10, x_idiv, x_pi 5 6, x_ic 0, x_s1i 3, x_fall 2]
def k_QU_keepTen_2 : List AI := [x_ldi 3, x_ic 4, x_icge 3, x_lda 0, x_ga 6 6, x_ldi 3, x_lda 1, x_ldi 3, x_ldi 2, x_calv CW_swingAt 3 1, x_call QU_held 1, x_asl, x_inc 3 1, x_go 2]
def k_QU_keepTen_3 : List AI := [x_lda 0, x_lda 1, x_ldi 2, x_calv CW_offAt 2 1, x_call QU_held 1, x_pl 7 6, x_lda 0, x_lda 1, x_ldi 2, x_calv CW_isGoodAt 2 1, x_ifeq 4, x_lc 1, x_go 5]
def k_QU_keepTen_4 : List AI := [x_lc 0, x_fall 5]
def k_QU_keepTen_5 : List AI := [x_pl 8 6, x_ret]
def kb_QU_keepTen : List (List AI) := [k_QU_keepTen_0, k_QU_keepTen_1, k_QU_keepTen_2, k_QU_keepTen_3, k_QU_keepTen_4, k_QU_keepTen_5]
def k_QU_apply_0 : List AI := [x_ldi 2, x_sw 10 [(8, 5), (9, 1), (10, 2), (11, 3), (12, 4), (13, 8), (14, 9)]]
def k_QU_apply_1 : List AI := [x_lda 0, x_lc 1, x_calv0 QU_push 2 6, x_go 11]
def k_QU_apply_2 : List AI := [x_lda 0, x_ldi 3, x_i2l, x_calv0 QU_push 2 6, x_go 11]
def k_QU_apply_3 : List AI := [x_lda 0, x_lda 0, x_gl 7 6, x_calv0 QU_push 2 6, x_go 11]
def k_QU_apply_4 : List AI := [x_lda 0, x_lda 0, x_gl 8 6, x_calv0 QU_push 2 6, x_go 11]
def k_QU_apply_5 : List AI := [x_lda 0, x_lda 0, x_calv QU_pop 1 6, x_lc 0, x_lcmp, x_ifne 6, x_lc 1, x_go 7]
def k_QU_apply_6 : List AI := [x_lc 0, x_fall 7]
def k_QU_apply_7 : List AI := [x_calv0 QU_push 2 6, x_go 11]
def k_QU_apply_8 : List AI := [x_lda 0, x_lda 0, x_lda 0, x_calv QU_pop 1 6, x_calv QU_swingOf 2 6, x_calv0 QU_push 2 6, x_go 11]
def k_QU_apply_9 : List AI := [x_lda 0, x_lda 1, x_lda 0, x_calv QU_pop 1 6, x_ldi 3, x_call QU_forceOf 3, x_calv0 QU_push 2 6, x_go 11]
def k_QU_apply_10 : List AI := [x_lda 0, x_ldi 2, x_calv0 QU_applyToTwo 2 6, x_fall 11]
def k_QU_apply_11 : List AI := [x_ret]
def kb_QU_apply : List (List AI) := [k_QU_apply_0, k_QU_apply_1, k_QU_apply_2, k_QU_apply_3, k_QU_apply_4, k_QU_apply_5, k_QU_apply_6, k_QU_apply_7, k_QU_apply_8, k_QU_apply_9, k_QU_apply_10, k_QU_apply_11]
def k_QU_applyToTwo_0 : List AI := [x_lda 0, x_calv QU_pop 1 6, x_s2 2, x_lda 0, x_calv QU_pop 1 6, x_s2 4, x_lda 0, x_ldi 1, x_ldl 4, x_ldl 2, x_call QU_joined 3, x_calv0 QU_push 2 6, x_ret]
def kb_QU_applyToTwo : List (List AI) := [k_QU_applyToTwo_0]
def k_QU_swingOf_0 : List AI := [x_ldl 1, x_lc 0, x_lcmp, x_iflt 1, x_ldl 1, x_lc 4, x_lcmp, x_ifge 1, x_lda 0, x_ga 6 6, x_ldl 1, x_l2i, x_all, x_go 2]
def k_QU_swingOf_1 : List AI := [x_lc 0, x_fall 2]
def k_QU_swingOf_2 : List AI := [x_rl]
def kb_QU_swingOf : List (List AI) := [k_QU_swingOf_0, k_QU_swingOf_1, k_QU_swingOf_2]
def k_QU_forceOf_0 : List AI := [x_ldl 1, x_lc 0, x_lcmp, x_iflt 1, x_ldl 1, x_lc 12, x_lcmp, x_ifge 1, x_lda 0, x_ldl 1, x_l2i, x_ldi 3, x_calv CW_strengthAt 3 1, x_i2l, x_go 2]
def k_QU_forceOf_1 : List AI := [x_lc 0, x_fall 2]
def k_QU_forceOf_2 : List AI := [x_rl]
def kb_QU_forceOf : List (List AI) := [k_QU_forceOf_0, k_QU_forceOf_1, k_QU_forceOf_2]
def k_QU_joined_0 : List AI := [x_ldi 0, x_sw 17 [(6, 1), (7, 2), (8, 17), (9, 17), (10, 17), (11, 17), (12, 17), (13, 17), (14, 17), (15, 3), (16, 4), (17, 5), (18, 6), (19, 7), (20, 8), (21, 11), (22, 14)]]
def k_QU_joined_1 : List AI := [x_ldl 1, x_ldl 3, x_call JK_maxL 2, x_rl]
def k_QU_joined_2 : List AI := [x_ldl 1, x_ldl 3, x_call JK_minL 2, x_rl]
def k_QU_joined_3 : List AI := [x_ldl 1, x_ldl 3, x_call JK_minL 2, x_rl]
def k_QU_joined_4 : List AI := [x_ldl 1, x_ldl 3, x_call JK_maxL 2, x_rl]
def k_QU_joined_5 : List AI := [x_ldl 1, x_ldl 3, x_ladd, x_call QU_held 1, x_rl]
def k_QU_joined_6 : List AI := [x_ldl 1, x_ldl 3, x_lsub, x_call QU_held 1, x_rl]
def k_QU_joined_7 : List AI := [x_ldl 1, x_ldl 3, x_lmul, x_call QU_held 1, x_rl]
def k_QU_joined_8 : List AI := [x_ldl 3, x_lc 0, x_lcmp, x_ifne 9, x_lc 0, x_go 10]
def k_QU_joined_9 : List AI := [x_ldl 1, x_ldl 3, x_call JK_floorDiv 2, x_fall 10]
def k_QU_joined_10 : List AI := [x_rl]
def k_QU_joined_11 : List AI := [x_ldl 1, x_ldl 3, x_lcmp, x_ifge 12, x_lc 1, x_go 13]
def k_QU_joined_12 : List AI := [x_lc 0, x_fall 13]
def k_QU_joined_13 : List AI := [x_rl]
def k_QU_joined_14 : List AI := [x_ldl 1, x_ldl 3, x_lcmp, x_ifle 15, x_lc 1, x_go 16]
def k_QU_joined_15 : List AI := [x_lc 0, x_fall 16]
def k_QU_joined_16 : List AI := [x_rl]
def k_QU_joined_17 : List AI := [x_ldl 1, x_ldl 3, x_lcmp, x_ifne 18, x_lc 1, x_go 19]
def k_QU_joined_18 : List AI := [x_lc 0, x_fall 19]
def k_QU_joined_19 : List AI := [x_rl]
def kb_QU_joined : List (List AI) := [k_QU_joined_0, k_QU_joined_1, k_QU_joined_2, k_QU_joined_3, k_QU_joined_4, k_QU_joined_5, k_QU_joined_6, k_QU_joined_7, k_QU_joined_8, k_QU_joined_9, k_QU_joined_10, k_QU_joined_11, k_QU_joined_12, k_QU_joined_13, k_QU_joined_14, k_QU_joined_15, k_QU_joined_16, k_QU_joined_17, k_QU_joined_18, k_QU_joined_19]
def k_QU_held_0 : List AI := [x_lc (-1000000), x_lc 1000000, x_ldl 0, x_call JK_minL 2, x_call JK_maxL 2, x_rl]
def kb_QU_held : List (List AI) := [k_QU_held_0]
def k_QU_push_0 : List AI := [x_lda 0, x_gi 4 6, x_lda 0, x_ga 3 6, x_len, x_icge 1, x_lda 0, x_ga 3 6, x_lda 0, x_gi 4 6, x_ldl 1, x_asl, x_lda 0, x_dup, x_gi 4 6, x_ic 1, x_iadd, x_pi 4 6, x_fall 1]
def k_QU_push_1 : List AI := [x_ret]
def kb_QU_push : List (List AI) := [k_QU_push_0, k_QU_push_1]
def k_QU_pop_0 : List AI := [x_lda 0, x_gi 4 6, x_ifne 1, x_lc 0, x_rl]
def k_QU_pop_1 : List AI := [x_lda 0, x_dup, x_gi 4 6, x_ic 1, x_isub, x_pi 4 6, x_lda 0, x_ga 3 6, x_lda 0, x_gi 4 6, x_all, x_rl]
def kb_QU_pop : List (List AI) := [k_QU_pop_0, k_QU_pop_1]
def k_RA_init_0 : List AI := [x_lda 0, x_obj, x_lda 0, x_ic 12, x_nw 2, x_pa 0 7, x_lda 0, x_ic 32, x_nw 2, x_pa 1 7, x_lda 0, x_ic 32, x_nw 2, x_pa 2 7, x_lda 0, x_lc 0, x_pl 3 7, x_lda 0, x_ic 0, x_pi 4 7, x_lda 0, x_ic 0, x_pi 5 7, x_lda 0, x_ic 0, x_pi 6 7, x_lda 0, x_ic 0, x_pi 7 7, x_ret]
def kb_RA_init : List (List AI) := [k_RA_init_0]
def k_RA_greatest_0 : List AI := [x_lc 0, x_s2 2, x_lda 0, x_call RA_firstTen 1, x_s1i 4, x_fall 1]
def k_RA_greatest_1 : List AI := [x_ldi 4, x_lda 0, x_ldi 1, x_call RA_lastTen 2, x_icgt 2, x_ldl 2, x_lda 0, x_ic 1, x_ldi 4, x_ic 10, x_imul, x_calv CW_swingAt 3 1, x_call JK_absL 1, x_call JK_maxL 2, x_s2 2, x_inc 4 1, x_go 1]
def k_RA_greatest_2 : List AI := [x_ldl 2, x_rl]
def kb_RA_greatest : List (List AI) := [k_RA_greatest_0, k_RA_greatest_1, k_RA_greatest_2]
def k_RA_findStillest_0 : List AI := [x_lda 1, x_ga 0 1, x_s1a 4, x_lda 0, x_lda 1, x_lda 2, x_ldi 3, x_calv0 RA_setLanes 4 7, x_ic 0, x_s1i 5, x_ic 1, x_lda 4, x_gi 0 5, x_ishl, x_s1i 6, x_ic 0, x_s1i 7, x_fall 1]
def k_RA_findStillest_1 : List AI := [x_ldi 7, x_ldi 6, x_icge 5, x_ldi 7, x_ifle 2, x_lda 2, x_ldi 7, x_calv0 LN_advanceTo 2 3, x_fall 2]
def k_RA_findStillest_2 : List AI := [x_lda 4, x_ldi 7, x_calv PL_allows 2 5, x_ifeq 4, x_lda 2, x_call RA_greatestOf 1, x_s2 8, x_ldi 5, x_ifeq 3, x_ldl 8, x_lda 0, x_gl 3 7, x_lcmp, x_ifge 4, x_fall 3]
def k_RA_findStillest_3 : List AI := [x_ic 1, x_s1i 5, x_lda 0, x_ldl 8, x_pl 3 7, x_lda 0, x_ldi 7, x_pi 4 7, x_fall 4]
def k_RA_findStillest_4 : List AI := [x_inc 7 1, x_go 1]
def k_RA_findStillest_5 : List AI := [x_ldi 5, x_rz]
def kb_RA_findStillest : List (List AI) := [k_RA_findStillest_0, k_RA_findStillest_1, k_RA_findStillest_2, k_RA_findStillest_3, k_RA_findStillest_4, k_RA_findStillest_5]
def k_RA_findUnderWay_0 : List AI := [x_lda 1, x_ga 0 1, x_gi 0 5, x_ic 2, x_icge 1, x_ic 0, x_rz]
def k_RA_findUnderWay_1 : List AI := [x_lda 0, x_lda 1, x_ldi 2, x_calv0 RA_sailAsTheySit 3 7, x_lda 0, x_lc (-1), x_pl 3 7, x_ic 0, x_s1i 3, x_fall 2]
def k_RA_findUnderWay_2 : List AI := [x_ldi 3, x_lda 1, x_ga 0 1, x_gi 0 5, x_icge 5, x_ldi 3, x_ic 1, x_iadd, x_s1i 4, x_fall 3]
def k_RA_findUnderWay_3 : List AI := [x_ldi 4, x_lda 1, x_ga 0 1, x_gi 0 5, x_icge 4, x_lda 0, x_lda 1, x_ldi 2, x_ldi 3, x_ldi 4, x_calv0 RA_tryChange 5 7, x_inc 4 1, x_go 3]
def k_RA_findUnderWay_4 : List AI := [x_inc 3 1, x_go 2]
def k_RA_findUnderWay_5 : List AI := [x_ic 1, x_rz]
def kb_RA_findUnderWay : List (List AI) := [k_RA_findUnderWay_0, k_RA_findUnderWay_1, k_RA_findUnderWay_2, k_RA_findUnderWay_3, k_RA_findUnderWay_4, k_RA_findUnderWay_5]
def k_RA_sailAsTheySit_0 : List AI := [x_lda 1, x_ldi 2, x_call RA_lastTen 2, x_lda 1, x_call RA_firstTen 1, x_isub, x_ic 1, x_iadd, x_s1i 3, x_lc 0, x_s2 4, x_ic 0, x_s1i 6, x_fall 1]
def k_RA_sailAsTheySit_1 : List AI := [x_ldi 6, x_ldi 3, x_icge 2, x_ldi 6, x_lda 0, x_ga 1 7, x_len, x_icge 2, x_lda 0, x_ga 1 7, x_ldi 6, x_lda 1, x_ic 1, x_lda 1, x_call RA_firstTen 1, x_ldi 6, x_iadd, x_ic 10, x_imul, x_calv CW_swingAt 3 1, x_asl, x_lda 0, x_ga 2 7, x_ldi 6, x_ldl 4, x_asl, x_ldl 4, x_lda 0, x_ga 1 7, x_ldi 6, x_all, x_call JK_absL 1, x_call JK_maxL 2, x_s2 4, x_inc 6 1, x_go 1]
def k_RA_sailAsTheySit_2 : List AI := [x_ret]
def kb_RA_sailAsTheySit : List (List AI) := [k_RA_sailAsTheySit_0, k_RA_sailAsTheySit_1, k_RA_sailAsTheySit_2]
def k_RA_tryChange_0 : List AI := [x_lda 1, x_call RA_firstTen 1, x_s1i 5, x_lda 1, x_ldi 2, x_call RA_lastTen 2, x_ldi 5, x_isub, x_ic 1, x_iadd, x_lda 0, x_ga 1 7, x_len, x_call JK_minI 2, x_s1i 6, x_lda 1, x_ic 1, x_ldi 3, x_calv CW_leverToSide 3 1, x_lda 1, x_ic 1, x_ldi 4, x_calv CW_leverToSide 3 1, x_lsub, x_s2 7, x_lc 0, x_s2 9, x_ldi 6, x_ic 1, x_isub, x_s1i 11, x_fall 1]
def k_RA_tryChange_1 : List AI := [x_ldi 11, x_iflt 4, x_ldi 5, x_ldi 11, x_iadd, x_ic 10, x_imul, x_s1i 12, x_lda 1, x_ldi 4, x_ldi 12, x_calv CW_forceIn 3 1, x_lda 1, x_ldi 3, x_ldi 12, x_calv CW_forceIn 3 1, x_isub, x_i2l, x_s2 13, x_ldl 9, x_lda 0, x_ga 1 7, x_ldi 11, x_all, x_ldl 13, x_ldl 7, x_lmul, x_ladd, x_call JK_absL 1, x_call JK_maxL 2, x_s2 9, x_lda 0, x_ga 2 7, x_ldi 11, x_all, x_ldl 9, x_call JK_maxL 2, x_s2 15, x_ldi 12, x_lda 1, x_gi 3 1, x_ic 1, x_iadd, x_call JK_maxI 2, x_s1i 17, x_lda 0, x_gl 3 7, x_lc (-1), x_lcmp, x_ifeq 2, x_ldl 15, x_lda 0, x_gl 3 7, x_lcmp, x_iflt 2, x_ldl 15, x_lda 0, x_gl 3 7, x_lcmp, x_ifne 3, x_ldi 17, x_lda 0, x_gi 5 7, x_icge 3, x_fall 2]
def k_RA_tryChange_2 : List AI := [x_lda 0, x_ldl 15, x_pl 3 7, x_lda 0, x_ldi 17, x_pi 5 7, x_lda 0, x_ldi 3, x_pi 6 7, x_lda 0, x_ldi 4, x_pi 7 7, x_fall 3]
def k_RA_tryChange_3 : List AI := [x_inc 11 (-1), x_go 1]
def k_RA_tryChange_4 : List AI := [x_ret]
def kb_RA_tryChange : List (List AI) := [k_RA_tryChange_0, k_RA_tryChange_1, k_RA_tryChange_2, k_RA_tryChange_3, k_RA_tryChange_4]
def k_RA_setLanes_0 : List AI := [x_lda 2, x_calv0 LN_clear 1 3, x_lda 1, x_call RA_firstTen 1, x_s1i 4, x_fall 1]
def k_RA_setLanes_1 : List AI := [x_ldi 4, x_lda 1, x_ldi 3, x_call RA_lastTen 2, x_icgt 4, x_ic 0, x_s1i 5, x_fall 2]
def k_RA_setLanes_2 : List AI := [x_ldi 5, x_lda 1, x_ga 0 1, x_gi 0 5, x_icge 3, x_lda 0, x_ga 0 7, x_ldi 5, x_lda 1, x_ldi 5, x_ldi 4, x_ic 10, x_imul, x_calv CW_forceIn 3 1, x_i2l, x_lda 1, x_ga 0 1, x_ic 1, x_ldi 5, x_calv PL_leverOf 3 5, x_lmul, x_asl, x_inc 5 1, x_go 2]
def k_RA_setLanes_3 : List AI := [x_lda 2, x_lc 0, x_lda 0, x_ga 0 7, x_lda 1, x_ga 0 1, x_gi 0 5, x_calv0 LN_add 4 3, x_inc 4 1, x_go 1]
def k_RA_setLanes_4 : List AI := [x_ret]
def kb_RA_setLanes : List (List AI) := [k_RA_setLanes_0, k_RA_setLanes_1, k_RA_setLanes_2, k_RA_setLanes_3, k_RA_setLanes_4]
def k_RA_greatestOf_0 : List AI := [x_lc 0, x_s2 1, x_ic 0, x_s1i 3, x_fall 1]
def k_RA_greatestOf_1 : List AI := [x_ldi 3, x_lda 0, x_gi 2 3, x_icge 2, x_ldl 1, x_lda 0, x_ga 0 3, x_ldi 3, x_all, x_call JK_absL 1, x_call JK_maxL 2, x_s2 1, x_inc 3 1, x_go 1]
def k_RA_greatestOf_2 : List AI := [x_ldl 1, x_rl]
def kb_RA_greatestOf : List (List AI) := [k_RA_greatestOf_0, k_RA_greatestOf_1, k_RA_greatestOf_2]
def k_RA_firstTen_0 : List AI := [x_lda 0, x_gi 3 1, x_ic 1, x_iadd, x_ic 10, x_idiv, x_ri]
def kb_RA_firstTen : List (List AI) := [k_RA_firstTen_0]
def k_RA_lastTen_0 : List AI := [x_lda 0, x_gi 3 1, x_ldi 1, x_iadd, x_ic 10, x_idiv, x_ri]
def kb_RA_lastTen : List (List AI) := [k_RA_lastTen_0]
def k_TP_init_0 : List AI := [x_lda 0, x_obj, x_lda 0, x_ic 1600, x_nw 3, x_pa 0 8, x_lda 0, x_ic 0, x_pi 1 8, x_lda 0, x_ic 0, x_pi 2 8, x_lda 0, x_ic (-1), x_pi 3 8, x_lda 0, x_ic 0, x_pi 4 8, x_lda 0, x_ic 0, x_pi 5 8, x_lda 0, x_ic 0, x_pi 6 8, x_lda 0, x_ic (-1), x_pi 7 8, x_ret]
def kb_TP_init : List (List AI) := [k_TP_init_0]
def k_TP_hasRoomForFive_0 : List AI := [x_lda 0, x_gi 1 8, x_ic 20, x_iadd, x_ic 1600, x_icgt 1, x_ic 1, x_go 2]
def k_TP_hasRoomForFive_1 : List AI := [x_ic 0, x_fall 2]
def k_TP_hasRoomForFive_2 : List AI := [x_rz]
def kb_TP_hasRoomForFive : List (List AI) := [k_TP_hasRoomForFive_0, k_TP_hasRoomForFive_1, k_TP_hasRoomForFive_2]
def k_TP_put_0 : List AI := [x_ic 24, x_s1i 2, x_fall 1]
def k_TP_put_1 : List AI := [x_ldi 2, x_iflt 2, x_lda 0, x_gi 1 8, x_ic 1600, x_icge 2, x_lda 0, x_ga 0 8, x_lda 0, x_gi 1 8, x_ldi 1, x_ldi 2, x_ishr, x_i2b, x_asb, x_lda 0, x_dup, x_gi 1 8, x_ic 1, x_iadd, x_pi 1 8, x_inc 2 (-8), x_go 1]
def k_TP_put_2 : List AI := [x_ret]
def kb_TP_put : List (List AI) := [k_TP_put_0, k_TP_put_1, k_TP_put_2]
def k_TP_cut_0 : List AI := [x_ldi 1, x_iflt 1, x_ldi 1, x_lda 0, x_gi 1 8, x_icle 2, x_fall 1]
def k_TP_cut_1 : List AI := [x_ic 0, x_rz]
def k_TP_cut_2 : List AI := [x_lda 0, x_ldi 1, x_pi 1 8, x_ic 1, x_rz]
def kb_TP_cut : List (List AI) := [k_TP_cut_0, k_TP_cut_1, k_TP_cut_2]
def k_TP_clear_0 : List AI := [x_lda 0, x_ic 0, x_pi 1 8, x_ret]
def kb_TP_clear : List (List AI) := [k_TP_clear_0]
def k_TP_byteAt_0 : List AI := [x_ldi 1, x_iflt 1, x_ldi 1, x_lda 0, x_gi 1 8, x_icge 1, x_lda 0, x_ga 0 8, x_ldi 1, x_alb, x_ic 255, x_iand, x_go 2]
def k_TP_byteAt_1 : List AI := [x_ic (-1), x_fall 2]
def k_TP_byteAt_2 : List AI := [x_ri]
def kb_TP_byteAt : List (List AI) := [k_TP_byteAt_0, k_TP_byteAt_1, k_TP_byteAt_2]
def k_TP_begin_0 : List AI := [x_lda 0, x_ic 0, x_pi 2 8, x_lda 0, x_ic (-1), x_pi 3 8, x_lda 0, x_ic 0, x_pi 6 8, x_lda 0, x_ic (-1), x_pi 7 8, x_ret]
def kb_TP_begin : List (List AI) := [k_TP_begin_0]
def k_TP_fail_0 : List AI := [x_lda 0, x_ldi 1, x_pi 6 8, x_lda 0, x_ldi 2, x_pi 7 8, x_ic 0, x_rz]
def kb_TP_fail : List (List AI) := [k_TP_fail_0]
def k_TP_failHere_0 : List AI := [x_lda 0, x_ic 1, x_lda 0, x_gi 2 8, x_calv TP_fail 3 8, x_rz]
def kb_TP_failHere : List (List AI) := [k_TP_failHere_0]
def k_TP_next_0 : List AI := [x_lda 0, x_gi 2 8, x_lda 0, x_gi 1 8, x_icge 1, x_lda 0, x_lda 0, x_gi 2 8, x_calv TP_byteAt 2 8, x_call TP_isBlank 1, x_ifeq 1, x_lda 0, x_dup, x_gi 2 8, x_ic 1, x_iadd, x_pi 2 8, x_go 0]
def k_TP_next_1 : List AI := [x_lda 0, x_lda 0, x_gi 2 8, x_calv TP_byteAt 2 8, x_ri]
def kb_TP_next : List (List AI) := [k_TP_next_0, k_TP_next_1]
def k_TP_takeSign_0 : List AI := [x_lda 0, x_calv TP_next 1 8, x_ldi 1, x_iceq 1, x_lda 0, x_calv TP_failHere 1 8, x_rz]
def k_TP_takeSign_1 : List AI := [x_lda 0, x_dup, x_gi 2 8, x_ic 1, x_iadd, x_pi 2 8, x_ic 1, x_rz]
def kb_TP_takeSign : List (List AI) := [k_TP_takeSign_0, k_TP_takeSign_1]
def k_TP_wordHere_0 : List AI := [x_lda 0, x_calv TP_next 1 8, x_call TP_isLetter 1, x_ifeq 1, x_lda 0, x_gi 2 8, x_lda 0, x_gi 3 8, x_icne 2, x_fall 1]
def k_TP_wordHere_1 : List AI := [x_ic (-1), x_ri]
def k_TP_wordHere_2 : List AI := [x_lda 0, x_lda 1, x_lda 0, x_calv TP_wordEnd 1 8, x_calv TP_placeIn 3 8, x_ri]
def kb_TP_wordHere : List (List AI) := [k_TP_wordHere_0, k_TP_wordHere_1, k_TP_wordHere_2]
def k_TP_passWord_0 : List AI := [x_lda 0, x_lda 0, x_calv TP_wordEnd 1 8, x_pi 2 8, x_lda 0, x_lda 0, x_gi 2 8, x_pi 3 8, x_ret]
def kb_TP_passWord : List (List AI) := [k_TP_passWord_0]
def k_TP_takeWord_0 : List AI := [x_lda 0, x_lda 1, x_calv TP_wordHere 2 8, x_ldi 2, x_iceq 1, x_lda 0, x_calv TP_failHere 1 8, x_rz]
def k_TP_takeWord_1 : List AI := [x_lda 0, x_calv0 TP_passWord 1 8, x_ic 1, x_rz]
def kb_TP_takeWord : List (List AI) := [k_TP_takeWord_0, k_TP_takeWord_1]
def k_TP_anyWordEnd_0 : List AI := [x_lda 0, x_calv TP_next 1 8, x_call TP_isLetter 1, x_ifeq 1, x_lda 0, x_gi 2 8, x_lda 0, x_gi 3 8, x_iceq 1, x_lda 0, x_calv TP_wordEnd 1 8, x_go 2]
def k_TP_anyWordEnd_1 : List AI := [x_ic (-1), x_fall 2]
def k_TP_anyWordEnd_2 : List AI := [x_ri]
def kb_TP_anyWordEnd : List (List AI) := [k_TP_anyWordEnd_0, k_TP_anyWordEnd_1, k_TP_anyWordEnd_2]
def k_TP_placeIn_0 : List AI := [x_ic 0, x_s1i 3, x_lda 0, x_gi 2 8, x_s1i 4, x_ic 1, x_s1i 5, x_ic 0, x_s1i 6, x_fall 1]
def k_TP_placeIn_1 : List AI := [x_ldi 6, x_lda 1, x_sln, x_icge 7, x_lda 1, x_ldi 6, x_sch, x_s1i 7, x_ldi 7, x_ic 32, x_iceq 4, x_ldi 5, x_ifeq 2, x_ldi 4, x_ldi 2, x_icge 2, x_lda 0, x_ldi 4, x_calv TP_byteAt 2 8, x_ldi 7, x_icne 2, x_ic 1, x_go 3]
def k_TP_placeIn_2 : List AI := [x_ic 0, x_fall 3]
def k_TP_placeIn_3 : List AI := [x_s1i 5, x_inc 4 1, x_go 6]
def k_TP_placeIn_4 : List AI := [x_ldi 5, x_ifeq 5, x_ldi 4, x_ldi 2, x_icne 5, x_ldi 3, x_ri]
def k_TP_placeIn_5 : List AI := [x_inc 3 1, x_lda 0, x_gi 2 8, x_s1i 4, x_ic 1, x_s1i 5, x_fall 6]
def k_TP_placeIn_6 : List AI := [x_inc 6 1, x_go 1]
def k_TP_placeIn_7 : List AI := [x_ic (-1), x_ri]
def kb_TP_placeIn : List (List AI) := [k_TP_placeIn_0, k_TP_placeIn_1, k_TP_placeIn_2, k_TP_placeIn_3, k_TP_placeIn_4, k_TP_placeIn_5, k_TP_placeIn_6, k_TP_placeIn_7]
def k_TP_takeNumber_0 : List AI := [x_lda 0, x_calv TP_next 1 8, x_call TP_isDigit 1, x_ifeq 1, x_lda 0, x_gi 2 8, x_lda 0, x_gi 3 8, x_iceq 1, x_ic 1, x_go 2]
def k_TP_takeNumber_1 : List AI := [x_ic 0, x_fall 2]
def k_TP_takeNumber_2 : List AI := [x_s1i 3, x_lda 0, x_lda 0, x_gi 2 8, x_pi 5 8, x_lda 0, x_ic 0, x_pi 4 8, x_ldi 3, x_ifne 3, x_lda 0, x_calv TP_failHere 1 8, x_rz]
def k_TP_takeNumber_3 : List AI := [x_ic 0, x_s1i 4, x_fall 4]
def k_TP_takeNumber_4 : List AI := [x_ldi 4, x_ic 5, x_icge 5, x_lda 0, x_lda 0, x_gi 2 8, x_calv TP_byteAt 2 8, x_call TP_isDigit 1, x_ifeq 5, x_lda 0, x_lda 0, x_gi 4 8, x_ic 10, x_imul, x_lda 0, x_lda 0, x_gi 2 8, x_calv TP_byteAt 2 8, x_iadd, x_ic 48, x_isub, x_pi 4 8, x_lda 0, x_dup, x_gi 2 8, x_ic 1, x_iadd, x_pi 2 8, x_inc 4 1, x_go 4]
def k_TP_takeNumber_5 : List AI := [x_lda 0, x_lda 0, x_gi 2 8, x_calv TP_byteAt 2 8, x_call TP_isDigit 1, x_ifeq 6, x_lda 0, x_calv TP_failHere 1 8, x_rz]
def k_TP_takeNumber_6 : List AI := [x_lda 0, x_lda 0, x_gi 2 8, x_pi 3 8, x_lda 0, x_gi 4 8, x_ldi 1, x_iclt 7, x_lda 0, x_gi 4 8, x_ldi 2, x_icle 8, x_fall 7]
def k_TP_takeNumber_7 : List AI := [x_lda 0, x_ic 2, x_lda 0, x_gi 5 8, x_calv TP_fail 3 8, x_ifeq 9, x_fall 8]
def k_TP_takeNumber_8 : List AI := [x_ic 1, x_go 10]
def k_TP_takeNumber_9 : List AI := [x_ic 0, x_fall 10]
def k_TP_takeNumber_10 : List AI := [x_rz]
def kb_TP_takeNumber : List (List AI) := [k_TP_takeNumber_0, k_TP_takeNumber_1, k_TP_takeNumber_2, k_TP_takeNumber_3, k_TP_takeNumber_4, k_TP_takeNumber_5, k_TP_takeNumber_6, k_TP_takeNumber_7, k_TP_takeNumber_8, k_TP_takeNumber_9, k_TP_takeNumber_10]
def k_TP_takeSignedNumber_0 : List AI := [x_lda 0, x_calv TP_next 1 8, x_ic 45, x_icne 1, x_ic 1, x_go 2]
def k_TP_takeSignedNumber_1 : List AI := [x_ic 0, x_fall 2]
def k_TP_takeSignedNumber_2 : List AI := [x_s1i 2, x_lda 0, x_gi 2 8, x_s1i 3, x_ldi 2, x_ifeq 3, x_lda 0, x_dup, x_gi 2 8, x_ic 1, x_iadd, x_pi 2 8, x_fall 3]
def k_TP_takeSignedNumber_3 : List AI := [x_lda 0, x_ic 0, x_ic 99999, x_calv TP_takeNumber 3 8, x_ifne 4, x_ic 0, x_rz]
def k_TP_takeSignedNumber_4 : List AI := [x_lda 0, x_ldi 3, x_pi 5 8, x_ldi 2, x_ifeq 5, x_lda 0, x_lda 0, x_gi 4 8, x_ineg, x_pi 4 8, x_fall 5]
def k_TP_takeSignedNumber_5 : List AI := [x_lda 0, x_gi 4 8, x_call JK_absI 1, x_ldi 1, x_icle 6, x_lda 0, x_ic 2, x_ldi 3, x_calv TP_fail 3 8, x_ifeq 7, x_fall 6]
def k_TP_takeSignedNumber_6 : List AI := [x_ic 1, x_go 8]
def k_TP_takeSignedNumber_7 : List AI := [x_ic 0, x_fall 8]
def k_TP_takeSignedNumber_8 : List AI := [x_rz]
def kb_TP_takeSignedNumber : List (List AI) := [k_TP_takeSignedNumber_0, k_TP_takeSignedNumber_1, k_TP_takeSignedNumber_2, k_TP_takeSignedNumber_3, k_TP_takeSignedNumber_4, k_TP_takeSignedNumber_5, k_TP_takeSignedNumber_6, k_TP_takeSignedNumber_7, k_TP_takeSignedNumber_8]
def k_TP_wordEnd_0 : List AI := [x_lda 0, x_gi 2 8, x_s1i 1, x_fall 1]
def k_TP_wordEnd_1 : List AI := [x_ldi 1, x_lda 0, x_gi 1 8, x_icge 2, x_lda 0, x_ldi 1, x_calv TP_byteAt 2 8, x_call TP_isLetter 1, x_ifeq 2, x_inc 1 1, x_go 1]
def k_TP_wordEnd_2 : List AI := [x_ldi 1, x_ri]
def kb_TP_wordEnd : List (List AI) := [k_TP_wordEnd_0, k_TP_wordEnd_1, k_TP_wordEnd_2]
def k_TP_isLetter_0 : List AI := [x_ldi 0, x_ic 97, x_iclt 1, x_ldi 0, x_ic 122, x_icgt 1, x_ic 1, x_go 2]
def k_TP_isLetter_1 : List AI := [x_ic 0, x_fall 2]
def k_TP_isLetter_2 : List AI := [x_rz]
def kb_TP_isLetter : List (List AI) := [k_TP_isLetter_0, k_TP_isLetter_1, k_TP_isLetter_2]
def k_TP_isDigit_0 : List AI := [x_ldi 0, x_ic 48, x_iclt 1, x_ldi 0, x_ic 57, x_icgt 1, x_ic 1, x_go 2]
def k_TP_isDigit_1 : List AI := [x_ic 0, x_fall 2]
def k_TP_isDigit_2 : List AI := [x_rz]
def kb_TP_isDigit : List (List AI) := [k_TP_isDigit_0, k_TP_isDigit_1, k_TP_isDigit_2]
def k_TP_isBlank_0 : List AI := [x_ldi 0, x_ic 10, x_iceq 1, x_ldi 0, x_ic 32, x_icne 2, x_fall 1]
def k_TP_isBlank_1 : List AI := [x_ic 1, x_go 3]
def k_TP_isBlank_2 : List AI := [x_ic 0, x_fall 3]
def k_TP_isBlank_3 : List AI := [x_rz]
def kb_TP_isBlank : List (List AI) := [k_TP_isBlank_0, k_TP_isBlank_1, k_TP_isBlank_2, k_TP_isBlank_3]
def k_TR_init_0 : List AI := [x_lda 0, x_obj, x_lda 0, x_ic 8, x_nw 2, x_pa 0 9, x_lda 0, x_ic 8, x_nw 2, x_pa 1 9, x_lda 0, x_ic 48, x_nw 2, x_pa 2 9, x_lda 0, x_ic 56, x_nw 2, x_pa 3 9, x_lda 0, x_ic 56, x_nw 2, x_pa 4 9, x_lda 0, x_ic 6, x_nw 1, x_pa 5 9, x_lda 0, x_ic 6, x_nw 1, x_pa 6 9, x_lda 0, x_ic 0, x_pz 7 9, x_lda 0, x_ic 0, x_pi 8 9, x_ret]
def kb_TR_init : List (List AI) := [k_TR_init_0]
def k_TR_forget_0 : List AI := [x_lda 0, x_ic 0, x_pz 7 9, x_ret]
def kb_TR_forget : List (List AI) := [k_TR_forget_0]
def k_TR_firstUnfit_0 : List AI := [x_ic 0, x_s1i 1, x_fall 1]
def k_TR_firstUnfit_1 : List AI := [x_ldi 1, x_lda 0, x_gi 13 5, x_icge 3, x_lda 0, x_ldi 1, x_call TR_gapAsTold 2, x_call JK_absL 1, x_lda 0, x_gi 12 5, x_i2l, x_lcmp, x_ifle 2, x_ldi 1, x_ri]
def k_TR_firstUnfit_2 : List AI := [x_inc 1 1, x_go 1]
def k_TR_firstUnfit_3 : List AI := [x_ic (-1), x_ri]
def kb_TR_firstUnfit : List (List AI) := [k_TR_firstUnfit_0, k_TR_firstUnfit_1, k_TR_firstUnfit_2, k_TR_firstUnfit_3]
def k_TR_told_0 : List AI := [x_lda 1, x_gi 6 5, x_ic 6, x_icgt 1, x_lda 1, x_ldi 2, x_calv PL_isRower 2 5, x_ifeq 1, x_ldi 2, x_ic 6, x_icge 1, x_ldi 3, x_iflt 1, x_ldi 3, x_ic 2, x_icle 2, x_fall 1]
def k_TR_told_1 : List AI := [x_ic (-1), x_ri]
def k_TR_told_2 : List AI := [x_lda 0, x_gi 7 9, x_ifne 3, x_lda 0, x_lda 1, x_calv0 TR_countRows 2 9, x_lda 0, x_ic 1, x_pz 7 9, x_fall 3]
def k_TR_told_3 : List AI := [x_ldi 3, x_ifne 4, x_lda 0, x_gi 8 9, x_ri]
def k_TR_told_4 : List AI := [x_lda 0, x_gi 8 9, x_ifne 5, x_ic (-1), x_ri]
def k_TR_told_5 : List AI := [x_ldi 3, x_ic 1, x_icne 6, x_lda 0, x_ga 5 9, x_ldi 2, x_ali, x_go 7]
def k_TR_told_6 : List AI := [x_lda 0, x_ga 6 9, x_ldi 2, x_ali, x_fall 7]
def k_TR_told_7 : List AI := [x_ri]
def kb_TR_told : List (List AI) := [k_TR_told_0, k_TR_told_1, k_TR_told_2, k_TR_told_3, k_TR_told_4, k_TR_told_5, k_TR_told_6, k_TR_told_7]
def k_TR_crookedSeats_0 : List AI := [x_lda 1, x_call TR_firstUnfit 1, x_ic (-1), x_icne 1, x_ic 0, x_ri]
def k_TR_crookedSeats_1 : List AI := [x_ic 0, x_s1i 2, x_fall 2]
def k_TR_crookedSeats_2 : List AI := [x_ldi 2, x_lda 1, x_gi 13 5, x_icge 3, x_lda 0, x_ga 0 9, x_ldi 2, x_lda 1, x_ldi 2, x_call TR_gapAsTold 2, x_asl, x_inc 2 1, x_go 2]
def k_TR_crookedSeats_3 : List AI := [x_ic 0, x_s1i 2, x_ic 0, x_s1i 3, x_fall 4]
def k_TR_crookedSeats_4 : List AI := [x_ldi 3, x_lda 1, x_calv PL_seatedAtFirst 1 5, x_icge 6, x_lda 0, x_lda 1, x_ldi 3, x_calv TR_canBeCrooked 3 9, x_ifeq 5, x_ldi 2, x_ic 1, x_ldi 3, x_ishl, x_ior, x_s1i 2, x_fall 5]
def k_TR_crookedSeats_5 : List AI := [x_inc 3 1, x_go 4]
def k_TR_crookedSeats_6 : List AI := [x_ldi 2, x_ri]
def kb_TR_crookedSeats : List (List AI) := [k_TR_crookedSeats_0, k_TR_crookedSeats_1, k_TR_crookedSeats_2, k_TR_crookedSeats_3, k_TR_crookedSeats_4, k_TR_crookedSeats_5, k_TR_crookedSeats_6]
def k_TR_gapAsTold_0 : List AI := [x_lda 0, x_ldi 1, x_calv PL_swungOf 2 5, x_lneg, x_s2 2, x_ic 0, x_s1i 4, x_fall 1]
def k_TR_gapAsTold_1 : List AI := [x_ldi 4, x_lda 0, x_calv PL_seatedAtFirst 1 5, x_icge 2, x_ldl 2, x_lda 0, x_ldi 1, x_ldi 4, x_calv PL_runLever 3 5, x_lda 0, x_ga 8 5, x_ldi 4, x_ali, x_i2l, x_lmul, x_ladd, x_s2 2, x_inc 4 1, x_go 1]
def k_TR_gapAsTold_2 : List AI := [x_ldl 2, x_rl]
def kb_TR_gapAsTold : List (List AI) := [k_TR_gapAsTold_0, k_TR_gapAsTold_1, k_TR_gapAsTold_2]
def k_TR_canBeCrooked_0 : List AI := [x_lda 1, x_ga 2 5, x_ldi 2, x_ali, x_s1i 3, x_ic 0, x_s1i 4, x_fall 1]
def k_TR_canBeCrooked_1 : List AI := [x_ldi 4, x_lda 1, x_gi 13 5, x_icge 4, x_lda 0, x_ga 1 9, x_ldi 4, x_ldi 3, x_ifne 2, x_lc 0, x_go 3]
def k_TR_canBeCrooked_2 : List AI := [x_lda 1, x_ldi 4, x_ldi 2, x_calv PL_runLever 3 5, x_ldi 3, x_i2l, x_ldiv, x_lda 1, x_ga 8 5, x_ldi 2, x_ali, x_i2l, x_lmul, x_fall 3]
def k_TR_canBeCrooked_3 : List AI := [x_asl, x_inc 4 1, x_go 1]
def k_TR_canBeCrooked_4 : List AI := [x_ic 1, x_s1i 4, x_fall 5]
def k_TR_canBeCrooked_5 : List AI := [x_ldi 4, x_ic 99, x_icgt 7, x_lda 0, x_lda 1, x_ldi 4, x_ldi 3, x_isub, x_calv TR_allFitWith 3 9, x_ifeq 6, x_ic 1, x_rz]
def k_TR_canBeCrooked_6 : List AI := [x_inc 4 1, x_go 5]
def k_TR_canBeCrooked_7 : List AI := [x_ic 0, x_rz]
def kb_TR_canBeCrooked : List (List AI) := [k_TR_canBeCrooked_0, k_TR_canBeCrooked_1, k_TR_canBeCrooked_2, k_TR_canBeCrooked_3, k_TR_canBeCrooked_4, k_TR_canBeCrooked_5, k_TR_canBeCrooked_6, k_TR_canBeCrooked_7]
def k_TR_allFitWith_0 : List AI := [x_ic 0, x_s1i 3, x_fall 1]
def k_TR_allFitWith_1 : List AI := [x_ldi 3, x_lda 1, x_gi 13 5, x_icge 3, x_lda 0, x_ga 0 9, x_ldi 3, x_all, x_lda 0, x_ga 1 9, x_ldi 3, x_all, x_ldi 2, x_i2l, x_lmul, x_ladd, x_call JK_absL 1, x_lda 1, x_gi 12 5, x_i2l, x_lcmp, x_ifle 2, x_ic 0, x_rz]
def k_TR_allFitWith_2 : List AI := [x_inc 3 1, x_go 1]
def k_TR_allFitWith_3 : List AI := [x_ic 1, x_rz]
def kb_TR_allFitWith : List (List AI) := [k_TR_allFitWith_0, k_TR_allFitWith_1, k_TR_allFitWith_2, k_TR_allFitWith_3]
def k_TR_countRows_0 : List AI := [x_lda 0, x_ga 5 9, x_ic 9, x_call0 JK_fillI 2, x_lda 0, x_ga 6 9, x_ic 1, x_call0 JK_fillI 2, x_ic 0, x_s1i 2, x_fall 1]
def k_TR_countRows_1 : List AI := [x_ldi 2, x_lda 1, x_gi 13 5, x_icge 2, x_lda 0, x_ga 0 9, x_ldi 2, x_lda 1, x_ldi 2, x_calv PL_swungOf 2 5, x_lneg, x_asl, x_lda 0, x_lda 1, x_ldi 2, x_calv0 TR_setBounds 3 9, x_inc 2 1, x_go 1]
def k_TR_countRows_2 : List AI := [x_lda 0, x_lda 0, x_lda 1, x_ic 0, x_calv TR_rowsFrom 3 9, x_pi 8 9, x_ret]
def kb_TR_countRows : List (List AI) := [k_TR_countRows_0, k_TR_countRows_1, k_TR_countRows_2]
def k_TR_setBounds_0 : List AI := [x_ldi 2, x_ic 7, x_imul, x_lda 1, x_gi 6 5, x_iadd, x_s1i 3, x_lda 0, x_ga 3 9, x_ldi 3, x_lc 0, x_asl, x_lda 0, x_ga 4 9, x_ldi 3, x_lc 0, x_asl, x_lda 1, x_gi 6 5, x_ic 1, x_isub, x_s1i 4, x_fall 1]
def k_TR_setBounds_1 : List AI := [x_ldi 4, x_iflt 2, x_lda 1, x_ldi 2, x_ldi 4, x_calv PL_runLever 3 5, x_s2 5, x_lda 0, x_ga 2 9, x_ldi 2, x_ic 6, x_imul, x_ldi 4, x_iadd, x_ldl 5, x_asl, x_inc 3 (-1), x_lda 0, x_ga 3 9, x_ldi 3, x_lda 0, x_ga 3 9, x_ldi 3, x_ic 1, x_iadd, x_all, x_ldl 5, x_lc 1, x_lmul, x_ldl 5, x_lc 9, x_lmul, x_call JK_minL 2, x_ladd, x_asl, x_lda 0, x_ga 4 9, x_ldi 3, x_lda 0, x_ga 4 9, x_ldi 3, x_ic 1, x_iadd, x_all, x_ldl 5, x_lc 1, x_lmul, x_ldl 5, x_lc 9, x_lmul, x_call JK_maxL 2, x_ladd, x_asl, x_inc 4 (-1), x_go 1]
def k_TR_setBounds_2 : List AI := [x_ret]
def kb_TR_setBounds : List (List AI) := [k_TR_setBounds_0, k_TR_setBounds_1, k_TR_setBounds_2]
def k_TR_rowsFrom_0 : List AI := [x_lda 0, x_lda 1, x_ldi 2, x_calv TR_verdictFrom 3 9, x_s1i 3, x_ldi 3, x_ifne 1, x_ic 0, x_ri]
def k_TR_rowsFrom_1 : List AI := [x_ldi 3, x_ic 2, x_icne 2, x_lda 0, x_lda 1, x_ldi 2, x_calv TR_allRowsFrom 3 9, x_ri]
def k_TR_rowsFrom_2 : List AI := [x_ldi 2, x_lda 1, x_gi 6 5, x_ic 1, x_isub, x_iclt 3, x_lda 0, x_lda 1, x_ldi 2, x_calv TR_rowsOfLast 3 9, x_ri]
def k_TR_rowsFrom_3 : List AI := [x_ic 0, x_s1i 4, x_ic 1, x_s1i 5, x_fall 4]
def k_TR_rowsFrom_4 : List AI := [x_ldi 5, x_ic 9, x_icgt 6, x_lda 0, x_lda 1, x_ldi 2, x_ic 1, x_calv0 TR_tryMore 4 9, x_lda 0, x_lda 1, x_ldi 2, x_ic 1, x_iadd, x_calv TR_rowsFrom 3 9, x_s1i 6, x_ldi 6, x_ifle 5, x_lda 0, x_ldi 2, x_ldi 5, x_ldi 5, x_calv0 TR_noteStrengths 4 9, x_fall 5]
def k_TR_rowsFrom_5 : List AI := [x_ldi 4, x_ldi 6, x_iadd, x_s1i 4, x_inc 5 1, x_go 4]
def k_TR_rowsFrom_6 : List AI := [x_lda 0, x_lda 1, x_ldi 2, x_ic (-9), x_calv0 TR_tryMore 4 9, x_ldi 4, x_ri]
def kb_TR_rowsFrom : List (List AI) := [k_TR_rowsFrom_0, k_TR_rowsFrom_1, k_TR_rowsFrom_2, k_TR_rowsFrom_3, k_TR_rowsFrom_4, k_TR_rowsFrom_5, k_TR_rowsFrom_6]
def k_TR_verdictFrom_0 : List AI := [x_lda 1, x_gi 12 5, x_i2l, x_s2 3, x_ic 2, x_s1i 5, x_ic 0, x_s1i 6, x_fall 1]
def k_TR_verdictFrom_1 : List AI := [x_ldi 6, x_lda 1, x_gi 13 5, x_icge 6, x_ldi 6, x_ic 7, x_imul, x_ldi 2, x_iadd, x_s1i 7, x_lda 0, x_ga 0 9, x_ldi 6, x_all, x_lda 0, x_ga 3 9, x_ldi 7, x_all, x_ladd, x_s2 8, x_lda 0, x_ga 0 9, x_ldi 6, x_all, x_lda 0, x_ga 4 9, x_ldi 7, x_all, x_ladd, x_s2 10, x_ldl 10, x_ldl 3, x_lneg, x_lcmp, x_iflt 2, x_ldl 8, x_ldl 3, x_lcmp, x_ifle 3, x_fall 2]
def k_TR_verdictFrom_2 : List AI := [x_ic 0, x_ri]
def k_TR_verdictFrom_3 : List AI := [x_ldl 8, x_ldl 3, x_lneg, x_lcmp, x_iflt 4, x_ldl 10, x_ldl 3, x_lcmp, x_ifle 5, x_fall 4]
def k_TR_verdictFrom_4 : List AI := [x_ic 1, x_s1i 5, x_fall 5]
def k_TR_verdictFrom_5 : List AI := [x_inc 6 1, x_go 1]
def k_TR_verdictFrom_6 : List AI := [x_ldi 5, x_ri]
def kb_TR_verdictFrom : List (List AI) := [k_TR_verdictFrom_0, k_TR_verdictFrom_1, k_TR_verdictFrom_2, k_TR_verdictFrom_3, k_TR_verdictFrom_4, k_TR_verdictFrom_5, k_TR_verdictFrom_6]
def k_TR_allRowsFrom_0 : List AI := [x_ic 1, x_s1i 3, x_ldi 2, x_s1i 4, x_fall 1]
def k_TR_allRowsFrom_1 : List AI := [x_ldi 4, x_lda 1, x_gi 6 5, x_icge 2, x_lda 0, x_ldi 4, x_ic 1, x_ic 9, x_calv0 TR_noteStrengths 4 9, x_ldi 3, x_ic 9, x_imul, x_s1i 3, x_inc 4 1, x_go 1]
def k_TR_allRowsFrom_2 : List AI := [x_ldi 3, x_ri]
def kb_TR_allRowsFrom : List (List AI) := [k_TR_allRowsFrom_0, k_TR_allRowsFrom_1, k_TR_allRowsFrom_2]
def k_TR_rowsOfLast_0 : List AI := [x_lc 1, x_s2 3, x_lc 9, x_s2 5, x_ic 0, x_s1i 7, x_fall 1]
def k_TR_rowsOfLast_1 : List AI := [x_ldi 7, x_lda 1, x_gi 13 5, x_icge 5, x_lda 0, x_ga 2 9, x_ldi 7, x_ic 6, x_imul, x_ldi 2, x_iadd, x_all, x_s2 8, x_ldl 8, x_lc 0, x_lcmp, x_ifge 2, x_lda 0, x_ga 0 9, x_ldi 7, x_all, x_lneg, x_go 3]
def k_TR_rowsOfLast_2 : List AI := [x_lda 0, x_ga 0 9, x_ldi 7, x_all, x_fall 3]
def k_TR_rowsOfLast_3 : List AI := [x_s2 10, x_ldl 8, x_call JK_absL 1, x_s2 12, x_ldl 12, x_lc 0, x_lcmp, x_ifeq 4, x_ldl 3, x_lda 1, x_gi 12 5, x_i2l, x_ldl 10, x_ladd, x_ldl 12, x_call JK_floorDiv 2, x_lneg, x_call JK_maxL 2, x_s2 3, x_ldl 5, x_lda 1, x_gi 12 5, x_i2l, x_ldl 10, x_lsub, x_ldl 12, x_call JK_floorDiv 2, x_call JK_minL 2, x_s2 5, x_fall 4]
def k_TR_rowsOfLast_4 : List AI := [x_inc 7 1, x_go 1]
def k_TR_rowsOfLast_5 : List AI := [x_ldl 3, x_ldl 5, x_lcmp, x_ifle 6, x_ic 0, x_ri]
def k_TR_rowsOfLast_6 : List AI := [x_lda 0, x_ldi 2, x_ldl 3, x_l2i, x_ldl 5, x_l2i, x_calv0 TR_noteStrengths 4 9, x_ldl 5, x_ldl 3, x_lsub, x_lc 1, x_ladd, x_l2i, x_ri]
def kb_TR_rowsOfLast : List (List AI) := [k_TR_rowsOfLast_0, k_TR_rowsOfLast_1, k_TR_rowsOfLast_2, k_TR_rowsOfLast_3, k_TR_rowsOfLast_4, k_TR_rowsOfLast_5, k_TR_rowsOfLast_6]
def k_TR_tryMore_0 : List AI := [x_ic 0, x_s1i 4, x_fall 1]
def k_TR_tryMore_1 : List AI := [x_ldi 4, x_lda 1, x_gi 13 5, x_icge 2, x_lda 0, x_ga 0 9, x_ldi 4, x_dup2, x_all, x_lda 0, x_ga 2 9, x_ldi 4, x_ic 6, x_imul, x_ldi 2, x_iadd, x_all, x_ldi 3, x_i2l, x_lmul, x_ladd, x_asl, x_inc 4 1, x_go 1]
def k_TR_tryMore_2 : List AI := [x_ret]
def kb_TR_tryMore : List (List AI) := [k_TR_tryMore_0, k_TR_tryMore_1, k_TR_tryMore_2]
def k_TR_noteStrengths_0 : List AI := [x_ldi 1, x_iflt 1, x_ldi 1, x_ic 6, x_icge 1, x_lda 0, x_ga 5 9, x_ldi 1, x_lda 0, x_ga 5 9, x_ldi 1, x_ali, x_ldi 2, x_call JK_minI 2, x_asi, x_lda 0, x_ga 6 9, x_ldi 1, x_lda 0, x_ga 6 9, x_ldi 1, x_ali, x_ldi 3, x_call JK_maxI 2, x_asi, x_fall 1]
def k_TR_noteStrengths_1 : List AI := [x_ret]
def kb_TR_noteStrengths : List (List AI) := [k_TR_noteStrengths_0, k_TR_noteStrengths_1]
def k_EO_init_0 : List AI := [x_lda 0, x_obj, x_lda 0, x_new 8, x_dup, x_cals0 TP_init 1 8, x_pa 0 10, x_lda 0, x_new 1, x_dup, x_cals0 CW_init 1 1, x_pa 1 10, x_lda 0, x_new 5, x_dup, x_cals0 PL_init 1 5, x_pa 2 10, x_lda 0, x_new 6, x_dup, x_cals0 QU_init 1 6, x_pa 3 10, x_lda 0, x_new 3, x_dup, x_cals0 LN_init 1 3, x_pa 4 10, x_lda 0, x_new 4, x_dup, x_cals0 NE_init 1 4, x_pa 5 10, x_lda 0, x_new 0, x_dup, x_cals0 CH_init 1 0, x_pa 6 10, x_lda 0, x_new 7, x_dup, x_cals0 RA_init 1 7, x_pa 7 10, x_lda 0, x_new 9, x_dup, x_cals0 TR_init 1 9, x_pa 8 10, x_lda 0, x_new 2, x_dup, x_cals0 HV_init 1 2, x_pa 9 10, x_lda 0, x_ic 6, x_nw 1, x_pa 10 10, x_lda 0, x_ic 0, x_pi 11 10, x_lda 0, x_ic (-1), x_pi 12 10, x_ret]
def kb_EO_init : List (List AI) := [k_EO_init_0]
def k_EO_feed_0 : List AI := [x_lda 0, x_ga 0 10, x_calv TP_hasRoomForFive 1 8, x_ifne 1, x_lda 0, x_ic 0, x_calv EO_refuse 2 10, x_pop, x_ic (-1), x_ri]
def k_EO_feed_1 : List AI := [x_lda 0, x_ga 0 10, x_ldi 1, x_calv0 TP_put 2 8, x_lda 0, x_ga 0 10, x_ldi 2, x_calv0 TP_put 2 8, x_lda 0, x_ga 0 10, x_ldi 3, x_calv0 TP_put 2 8, x_lda 0, x_ga 0 10, x_ldi 4, x_calv0 TP_put 2 8, x_lda 0, x_ga 0 10, x_ldi 5, x_calv0 TP_put 2 8, x_lda 0, x_ga 0 10, x_gi 1 8, x_ri]
def kb_EO_feed : List (List AI) := [k_EO_feed_0, k_EO_feed_1]
def k_EO_end_0 : List AI := [x_lda 0, x_ga 0 10, x_ldi 1, x_calv TP_cut 2 8, x_ifne 1, x_lda 0, x_ic 0, x_calv EO_refuse 2 10, x_ifeq 2, x_fall 1]
def k_EO_end_1 : List AI := [x_ic 1, x_go 3]
def k_EO_end_2 : List AI := [x_ic 0, x_fall 3]
def k_EO_end_3 : List AI := [x_rz]
def kb_EO_end : List (List AI) := [k_EO_end_0, k_EO_end_1, k_EO_end_2, k_EO_end_3]
def k_EO_text_0 : List AI := [x_lda 0, x_ga 0 10, x_lda 0, x_ga 2 10, x_call BT_read 2, x_s1i 1, x_lda 0, x_calv0 EO_keepFault 1 10, x_ldi 1, x_ic (-1), x_icne 1, x_lda 0, x_ic 1, x_calv EO_refuse 2 10, x_pop, x_ic (-1), x_ri]
def k_EO_text_1 : List AI := [x_lda 0, x_ga 1 10, x_ga 0 1, x_s1a 2, x_lda 0, x_ga 1 10, x_lda 0, x_ga 2 10, x_calv0 CW_board 2 1, x_lda 0, x_lda 2, x_pa 2 10, x_lda 0, x_ga 8 10, x_calv0 TR_forget 1 9, x_ldi 1, x_ri]
def kb_EO_text : List (List AI) := [k_EO_text_0, k_EO_text_1]
def k_EO_fault_0 : List AI := [x_ldi 1, x_ifne 1, x_lda 0, x_gi 11 10, x_ri]
def k_EO_fault_1 : List AI := [x_ldi 1, x_ic 1, x_icne 2, x_lda 0, x_gi 12 10, x_go 3]
def k_EO_fault_2 : List AI := [x_ic (-1), x_fall 3]
def k_EO_fault_3 : List AI := [x_ri]
def kb_EO_fault : List (List AI) := [k_EO_fault_0, k_EO_fault_1, k_EO_fault_2, k_EO_fault_3]
def k_EO_boat_0 : List AI := [x_lda 0, x_ga 1 10, x_ga 0 1, x_s1a 2, x_ldi 1, x_sw 12 [(0, 1), (1, 2), (2, 3), (3, 4), (4, 5), (5, 6), (6, 7), (7, 8), (8, 9), (9, 10), (10, 11)]]
def k_EO_boat_1 : List AI := [x_lda 2, x_gi 0 5, x_ri]
def k_EO_boat_2 : List AI := [x_lda 2, x_gi 6 5, x_ri]
def k_EO_boat_3 : List AI := [x_lda 2, x_gi 10 5, x_ri]
def k_EO_boat_4 : List AI := [x_lda 2, x_gi 4 5, x_lda 2, x_gi 5 5, x_ior, x_call JK_bitCount 1, x_ri]
def k_EO_boat_5 : List AI := [x_lda 2, x_calv PL_wants 1 5, x_ri]
def k_EO_boat_6 : List AI := [x_lda 2, x_gi 12 5, x_ri]
def k_EO_boat_7 : List AI := [x_lda 2, x_gi 13 5, x_ri]
def k_EO_boat_8 : List AI := [x_lda 2, x_gi 17 5, x_ri]
def k_EO_boat_9 : List AI := [x_lda 0, x_ga 1 10, x_gi 3 1, x_ri]
def k_EO_boat_10 : List AI := [x_lda 0, x_ga 1 10, x_gi 11 1, x_ri]
def k_EO_boat_11 : List AI := [x_lda 2, x_gi 0 5, x_lda 0, x_ga 1 10, x_calv CW_sides 1 1, x_call JK_bitCount 1, x_isub, x_ri]
def k_EO_boat_12 : List AI := [x_ic (-1), x_ri]
def kb_EO_boat : List (List AI) := [k_EO_boat_0, k_EO_boat_1, k_EO_boat_2, k_EO_boat_3, k_EO_boat_4, k_EO_boat_5, k_EO_boat_6, k_EO_boat_7, k_EO_boat_8, k_EO_boat_9, k_EO_boat_10, k_EO_boat_11, k_EO_boat_12]
def k_EO_letter_0 : List AI := [x_lda 0, x_ga 1 10, x_ga 0 1, x_ldi 1, x_calv PL_isRower 2 5, x_ifeq 1, x_ldi 2, x_iflt 1, x_ldi 2, x_ic 6, x_iclt 2, x_fall 1]
def k_EO_letter_1 : List AI := [x_ic (-1), x_ri]
def k_EO_letter_2 : List AI := [x_lda 0, x_ga 1 10, x_ga 0 1, x_ga 7 5, x_ldi 1, x_ic 6, x_imul, x_ldi 2, x_iadd, x_ali, x_ri]
def kb_EO_letter : List (List AI) := [k_EO_letter_0, k_EO_letter_1, k_EO_letter_2]
def k_EO_seat_0 : List AI := [x_lda 0, x_ga 1 10, x_ga 0 1, x_s1a 3, x_lda 3, x_ldi 1, x_calv PL_isSeat 2 5, x_ifne 1, x_ic (-1), x_ri]
def k_EO_seat_1 : List AI := [x_ldi 2, x_sw 10 [(0, 2), (1, 3), (2, 4), (3, 5), (4, 6), (5, 9)]]
def k_EO_seat_2 : List AI := [x_lda 3, x_ga 1 5, x_ldi 1, x_ali, x_ri]
def k_EO_seat_3 : List AI := [x_lda 3, x_ga 2 5, x_ldi 1, x_ali, x_ri]
def k_EO_seat_4 : List AI := [x_lda 0, x_ga 1 10, x_ga 1 1, x_ldi 1, x_ali, x_ri]
def k_EO_seat_5 : List AI := [x_lda 0, x_ga 1 10, x_ga 2 1, x_ldi 1, x_ali, x_ri]
def k_EO_seat_6 : List AI := [x_lda 3, x_ldi 1, x_calv PL_isFixed 2 5, x_ifeq 7, x_ic 1, x_go 8]
def k_EO_seat_7 : List AI := [x_ic 0, x_fall 8]
def k_EO_seat_8 : List AI := [x_ri]
def k_EO_seat_9 : List AI := [x_lda 0, x_ga 1 10, x_ldi 1, x_lda 0, x_ga 1 10, x_gi 3 1, x_calv CW_forceIn 3 1, x_lda 3, x_ga 2 5, x_ldi 1, x_ali, x_imul, x_ri]
def k_EO_seat_10 : List AI := [x_ic (-1), x_ri]
def kb_EO_seat : List (List AI) := [k_EO_seat_0, k_EO_seat_1, k_EO_seat_2, k_EO_seat_3, k_EO_seat_4, k_EO_seat_5, k_EO_seat_6, k_EO_seat_7, k_EO_seat_8, k_EO_seat_9, k_EO_seat_10]
def k_EO_rower_0 : List AI := [x_lda 0, x_ga 1 10, x_ga 0 1, x_s1a 3, x_lda 3, x_ldi 1, x_calv PL_isRower 2 5, x_ifne 1, x_ic (-1), x_ri]
def k_EO_rower_1 : List AI := [x_ldi 2, x_sw 6 [(0, 2), (1, 3), (2, 4), (3, 5)]]
def k_EO_rower_2 : List AI := [x_lda 3, x_ga 8 5, x_ldi 1, x_ali, x_ri]
def k_EO_rower_3 : List AI := [x_lda 3, x_ga 9 5, x_ldi 1, x_ali, x_ri]
def k_EO_rower_4 : List AI := [x_lda 0, x_ga 1 10, x_ldi 1, x_lda 0, x_ga 1 10, x_gi 3 1, x_calv CW_strengthAt 3 1, x_ri]
def k_EO_rower_5 : List AI := [x_lda 0, x_ga 1 10, x_ldi 1, x_calv CW_seatOf 2 1, x_ri]
def k_EO_rower_6 : List AI := [x_ic (-1), x_ri]
def kb_EO_rower : List (List AI) := [k_EO_rower_0, k_EO_rower_1, k_EO_rower_2, k_EO_rower_3, k_EO_rower_4, k_EO_rower_5, k_EO_rower_6]
def k_EO_want_0 : List AI := [x_ldi 1, x_call PL_isPower 1, x_ifeq 1, x_lda 0, x_ga 1 10, x_ga 0 1, x_ga 11 5, x_ldi 1, x_all, x_go 2]
def k_EO_want_1 : List AI := [x_lc (-1000000000000000), x_fall 2]
def k_EO_want_2 : List AI := [x_rl]
def kb_EO_want : List (List AI) := [k_EO_want_0, k_EO_want_1, k_EO_want_2]
def k_EO_swing_0 : List AI := [x_ldi 1, x_call PL_isPower 1, x_ifeq 1, x_ldi 2, x_iflt 1, x_ldi 2, x_ic 9999, x_icle 2, x_fall 1]
def k_EO_swing_1 : List AI := [x_lc (-1000000000000000), x_rl]
def k_EO_swing_2 : List AI := [x_lda 0, x_ga 1 10, x_ldi 1, x_ldi 2, x_calv CW_swingAt 3 1, x_rl]
def kb_EO_swing : List (List AI) := [k_EO_swing_0, k_EO_swing_1, k_EO_swing_2]
def k_EO_off_0 : List AI := [x_lda 0, x_ga 1 10, x_lda 0, x_ga 1 10, x_gi 3 1, x_calv CW_offAt 2 1, x_rl]
def kb_EO_off : List (List AI) := [k_EO_off_0]
def k_EO_good_0 : List AI := [x_lda 0, x_ga 1 10, x_lda 0, x_ga 1 10, x_gi 3 1, x_calv CW_isGoodAt 2 1, x_ifeq 1, x_ic 1, x_go 2]
def k_EO_good_1 : List AI := [x_ic 0, x_fall 2]
def k_EO_good_2 : List AI := [x_ri]
def kb_EO_good : List (List AI) := [k_EO_good_0, k_EO_good_1, k_EO_good_2]
def k_EO_lawful_0 : List AI := [x_lda 0, x_ga 1 10, x_ga 0 1, x_lda 0, x_ga 1 10, x_calv CW_sides 1 1, x_calv PL_allows 2 5, x_ifeq 1, x_ic 1, x_go 2]
def k_EO_lawful_1 : List AI := [x_ic 0, x_fall 2]
def k_EO_lawful_2 : List AI := [x_ri]
def kb_EO_lawful : List (List AI) := [k_EO_lawful_0, k_EO_lawful_1, k_EO_lawful_2]
def k_EO_heading_0 : List AI := [x_lda 0, x_ga 1 10, x_gl 4 1, x_rl]
def kb_EO_heading : List (List AI) := [k_EO_heading_0]
def k_EO_turn_0 : List AI := [x_lda 0, x_ga 1 10, x_ldi 1, x_calv CW_turnSeat 2 1, x_ifne 1, x_lda 0, x_ic 2, x_calv EO_refuse 2 10, x_ifeq 2, x_fall 1]
def k_EO_turn_1 : List AI := [x_ic 1, x_go 3]
def k_EO_turn_2 : List AI := [x_ic 0, x_fall 3]
def k_EO_turn_3 : List AI := [x_rz]
def kb_EO_turn : List (List AI) := [k_EO_turn_0, k_EO_turn_1, k_EO_turn_2, k_EO_turn_3]
def k_EO_swap_0 : List AI := [x_lda 0, x_ga 1 10, x_ldi 1, x_ldi 2, x_calv CW_swapRowers 3 1, x_ifne 1, x_lda 0, x_ic 2, x_calv EO_refuse 2 10, x_ifeq 2, x_fall 1]
def k_EO_swap_1 : List AI := [x_ic 1, x_go 3]
def k_EO_swap_2 : List AI := [x_ic 0, x_fall 3]
def k_EO_swap_3 : List AI := [x_rz]
def kb_EO_swap : List (List AI) := [k_EO_swap_0, k_EO_swap_1, k_EO_swap_2, k_EO_swap_3]
def k_EO_stroke_0 : List AI := [x_lda 0, x_ldi 1, x_calv EO_canGoBy 2 10, x_ifne 1, x_lda 0, x_ic 2, x_calv EO_refuse 2 10, x_pop, x_ic (-1), x_ri]
def k_EO_stroke_1 : List AI := [x_lda 0, x_ga 1 10, x_ldi 1, x_calv0 CW_passBy 2 1, x_lda 0, x_ga 1 10, x_gi 3 1, x_ri]
def kb_EO_stroke : List (List AI) := [k_EO_stroke_0, k_EO_stroke_1]
def k_EO_row_0 : List AI := [x_lda 0, x_ldi 1, x_calv EO_canGoBy 2 10, x_ifne 1, x_lda 0, x_ic 2, x_calv EO_refuse 2 10, x_pop, x_lc (-1000000000000000), x_rl]
def k_EO_row_1 : List AI := [x_lda 0, x_ga 1 10, x_ldi 1, x_calv0 CW_rowOn 2 1, x_lda 0, x_ga 1 10, x_gl 4 1, x_rl]
def kb_EO_row : List (List AI) := [k_EO_row_0, k_EO_row_1]
def k_EO_undo_0 : List AI := [x_lda 0, x_ga 1 10, x_calv CW_undoAct 1 1, x_ifne 1, x_lda 0, x_ic 3, x_calv EO_refuse 2 10, x_ifeq 2, x_fall 1]
def k_EO_undo_1 : List AI := [x_ic 1, x_go 3]
def k_EO_undo_2 : List AI := [x_ic 0, x_fall 3]
def k_EO_undo_3 : List AI := [x_rz]
def kb_EO_undo : List (List AI) := [k_EO_undo_0, k_EO_undo_1, k_EO_undo_2, k_EO_undo_3]
def k_EO_seed_0 : List AI := [x_ldi 1, x_ifge 1, x_lda 0, x_ic 4, x_calv EO_refuse 2 10, x_rz]
def k_EO_seed_1 : List AI := [x_lda 0, x_ga 1 10, x_ldi 1, x_i2l, x_pl 5 1, x_ic 1, x_rz]
def kb_EO_seed : List (List AI) := [k_EO_seed_0, k_EO_seed_1]
def k_EO_ways_0 : List AI := [x_lda 0, x_ga 9 10, x_ldi 1, x_calv HV_waysFor 2 2, x_rl]
def kb_EO_ways : List (List AI) := [k_EO_ways_0]
def k_EO_made_0 : List AI := [x_lda 0, x_ga 9 10, x_ldi 1, x_ldi 2, x_calv HV_wayAt 3 2, x_ri]
def kb_EO_made : List (List AI) := [k_EO_made_0]
def k_EO_doubled_0 : List AI := [x_ldi 1, x_ldi 2, x_call HV_sumDoubled 2, x_rl]
def kb_EO_doubled : List (List AI) := [k_EO_doubled_0]
def k_EO_still_0 : List AI := [x_ldi 1, x_ldi 2, x_call HV_stillUpTo 2, x_ri]
def kb_EO_still : List (List AI) := [k_EO_still_0]
def k_EO_nearest_0 : List AI := [x_ldi 1, x_iflt 1, x_ldi 1, x_ic 2, x_icgt 1, x_lda 0, x_ga 5 10, x_lda 0, x_ga 1 10, x_lda 0, x_ga 4 10, x_calv NE_findAsTheySit 3 4, x_ifne 2, x_fall 1]
def k_EO_nearest_1 : List AI := [x_lc (-1), x_rl]
def k_EO_nearest_2 : List AI := [x_ldi 1, x_lsw 5 [(0, 3), (1, 4)]]
def k_EO_nearest_3 : List AI := [x_lda 0, x_ga 5 10, x_gl 3 4, x_rl]
def k_EO_nearest_4 : List AI := [x_lda 0, x_ga 5 10, x_gi 4 4, x_i2l, x_rl]
def k_EO_nearest_5 : List AI := [x_lda 0, x_ga 5 10, x_gi 5 4, x_i2l, x_rl]
def kb_EO_nearest : List (List AI) := [k_EO_nearest_0, k_EO_nearest_1, k_EO_nearest_2, k_EO_nearest_3, k_EO_nearest_4, k_EO_nearest_5]
def k_EO_seated_0 : List AI := [x_ldi 1, x_ic (-1), x_iceq 1, x_ldi 1, x_ic 20, x_iceq 1, x_lda 0, x_ga 1 10, x_ga 0 1, x_ldi 1, x_calv PL_isSeat 2 5, x_ifeq 2, x_fall 1]
def k_EO_seated_1 : List AI := [x_ic 1, x_go 3]
def k_EO_seated_2 : List AI := [x_ic 0, x_fall 3]
def k_EO_seated_3 : List AI := [x_s1i 2, x_ldi 2, x_ifeq 4, x_lda 0, x_ga 5 10, x_lda 0, x_ga 1 10, x_lda 0, x_ga 4 10, x_calv NE_findOrder 3 4, x_ifne 5, x_fall 4]
def k_EO_seated_4 : List AI := [x_lc (-1), x_rl]
def k_EO_seated_5 : List AI := [x_ldi 1, x_ic (-1), x_icne 6, x_lda 0, x_ga 5 10, x_gl 9 4, x_rl]
def k_EO_seated_6 : List AI := [x_ldi 1, x_ic 20, x_icne 7, x_lda 0, x_ga 5 10, x_gi 10 4, x_i2l, x_go 8]
def k_EO_seated_7 : List AI := [x_lda 0, x_ga 5 10, x_ldi 1, x_calv NE_bestRower 2 4, x_i2l, x_fall 8]
def k_EO_seated_8 : List AI := [x_rl]
def kb_EO_seated : List (List AI) := [k_EO_seated_0, k_EO_seated_1, k_EO_seated_2, k_EO_seated_3, k_EO_seated_4, k_EO_seated_5, k_EO_seated_6, k_EO_seated_7, k_EO_seated_8]
def k_EO_changes_0 : List AI := [x_lda 0, x_ga 6 10, x_lda 0, x_ga 1 10, x_calv CH_fewest 2 0, x_ri]
def kb_EO_changes : List (List AI) := [k_EO_changes_0]
def k_EO_race_0 : List AI := [x_ldi 1, x_ic 1, x_iclt 1, x_ldi 1, x_ic 300, x_icle 2, x_fall 1]
def k_EO_race_1 : List AI := [x_lc (-1), x_go 3]
def k_EO_race_2 : List AI := [x_lda 0, x_ga 1 10, x_ldi 1, x_call RA_greatest 2, x_fall 3]
def k_EO_race_3 : List AI := [x_rl]
def kb_EO_race : List (List AI) := [k_EO_race_0, k_EO_race_1, k_EO_race_2, k_EO_race_3]
def k_EO_stillest_0 : List AI := [x_ldi 1, x_ic 1, x_iclt 1, x_ldi 1, x_ic 300, x_icgt 1, x_ldi 2, x_iflt 1, x_ldi 2, x_ic 1, x_icgt 1, x_lda 0, x_ga 7 10, x_lda 0, x_ga 1 10, x_lda 0, x_ga 4 10, x_ldi 1, x_calv RA_findStillest 4 7, x_ifne 2, x_fall 1]
def k_EO_stillest_1 : List AI := [x_lc (-1), x_rl]
def k_EO_stillest_2 : List AI := [x_ldi 2, x_ifne 3, x_lda 0, x_ga 7 10, x_gl 3 7, x_go 4]
def k_EO_stillest_3 : List AI := [x_lda 0, x_ga 7 10, x_gi 4 7, x_i2l, x_fall 4]
def k_EO_stillest_4 : List AI := [x_rl]
def kb_EO_stillest : List (List AI) := [k_EO_stillest_0, k_EO_stillest_1, k_EO_stillest_2, k_EO_stillest_3, k_EO_stillest_4]
def k_EO_under_0 : List AI := [x_ldi 1, x_ic 1, x_iclt 1, x_ldi 1, x_ic 100, x_icgt 1, x_ldi 2, x_iflt 1, x_ldi 2, x_ic 3, x_icgt 1, x_lda 0, x_ga 7 10, x_lda 0, x_ga 1 10, x_ldi 1, x_calv RA_findUnderWay 3 7, x_ifne 2, x_fall 1]
def k_EO_under_1 : List AI := [x_lc (-1), x_rl]
def k_EO_under_2 : List AI := [x_ldi 2, x_sw 6 [(0, 3), (1, 4), (2, 5)]]
def k_EO_under_3 : List AI := [x_lda 0, x_ga 7 10, x_gl 3 7, x_rl]
def k_EO_under_4 : List AI := [x_lda 0, x_ga 7 10, x_gi 5 7, x_i2l, x_rl]
def k_EO_under_5 : List AI := [x_lda 0, x_ga 7 10, x_gi 6 7, x_i2l, x_rl]
def k_EO_under_6 : List AI := [x_lda 0, x_ga 7 10, x_gi 7 7, x_i2l, x_rl]
def kb_EO_under : List (List AI) := [k_EO_under_0, k_EO_under_1, k_EO_under_2, k_EO_under_3, k_EO_under_4, k_EO_under_5, k_EO_under_6]
def k_EO_fits_0 : List AI := [x_lda 0, x_ga 1 10, x_ga 0 1, x_call TR_firstUnfit 1, x_ri]
def kb_EO_fits : List (List AI) := [k_EO_fits_0]
def k_EO_strengths_0 : List AI := [x_lda 0, x_ga 8 10, x_lda 0, x_ga 1 10, x_ga 0 1, x_ldi 1, x_ldi 2, x_calv TR_told 4 9, x_ri]
def kb_EO_strengths : List (List AI) := [k_EO_strengths_0]
def k_EO_crooked_0 : List AI := [x_lda 0, x_ga 8 10, x_lda 0, x_ga 1 10, x_ga 0 1, x_calv TR_crookedSeats 2 9, x_ri]
def kb_EO_crooked : List (List AI) := [k_EO_crooked_0]
def k_EO_heirs_0 : List AI := [x_ldi 1, x_iflt 1, x_ldi 1, x_ic 1, x_icgt 1, x_lda 0, x_ga 1 10, x_ga 0 1, x_gi 17 5, x_ifne 2, x_fall 1]
def k_EO_heirs_1 : List AI := [x_ic (-1), x_ri]
def k_EO_heirs_2 : List AI := [x_lda 0, x_ga 9 10, x_lda 0, x_ga 1 10, x_ga 0 1, x_lda 0, x_ga 4 10, x_calv0 HV_partPayments 3 2, x_ldi 1, x_ifne 3, x_lda 0, x_ga 9 10, x_gi 5 2, x_go 4]
def k_EO_heirs_3 : List AI := [x_lda 0, x_ga 9 10, x_gi 6 2, x_fall 4]
def k_EO_heirs_4 : List AI := [x_ri]
def kb_EO_heirs : List (List AI) := [k_EO_heirs_0, k_EO_heirs_1, k_EO_heirs_2, k_EO_heirs_3, k_EO_heirs_4]
def k_EO_apart_0 : List AI := [x_lda 0, x_ga 1 10, x_ga 0 1, x_ldi 1, x_ldi 2, x_call HV_heirsApart 3, x_rl]
def kb_EO_apart : List (List AI) := [k_EO_apart_0]
def k_EO_ask_0 : List AI := [x_lda 0, x_ga 3 10, x_lda 0, x_ga 0 10, x_calv QU_read 2 6, x_s1i 1, x_lda 0, x_calv0 EO_keepFault 1 10, x_ldi 1, x_ifeq 1, x_lda 0, x_ga 3 10, x_lda 0, x_ga 1 10, x_calv QU_answer 2 6, x_go 2]
def k_EO_ask_1 : List AI := [x_lc (-1000000000000000), x_fall 2]
def k_EO_ask_2 : List AI := [x_rl]
def kb_EO_ask : List (List AI) := [k_EO_ask_0, k_EO_ask_1, k_EO_ask_2]
def k_EO_image_0 : List AI := [x_lda 0, x_ga 1 10, x_calv CW_writeImage 1 1, x_ri]
def kb_EO_image : List (List AI) := [k_EO_image_0]
def k_EO_octet_0 : List AI := [x_ldi 1, x_iflt 1, x_ldi 1, x_lda 0, x_ga 1 10, x_gi 13 1, x_icge 1, x_lda 0, x_ga 1 10, x_ga 12 1, x_ldi 1, x_alb, x_ic 255, x_iand, x_go 2]
def k_EO_octet_1 : List AI := [x_ic (-1), x_fall 2]
def k_EO_octet_2 : List AI := [x_ri]
def kb_EO_octet : List (List AI) := [k_EO_octet_0, k_EO_octet_1, k_EO_octet_2]
def k_EO_on_0 : List AI := [x_lda 0, x_ga 1 10, x_lda 0, x_ga 0 10, x_calv CW_takeImage 2 1, x_s1i 1, x_lda 0, x_ga 0 10, x_calv0 TP_clear 1 8, x_ldi 1, x_ifne 1, x_lda 0, x_ic 5, x_calv EO_refuse 2 10, x_ifeq 2, x_fall 1]
def k_EO_on_1 : List AI := [x_ic 1, x_go 3]
def k_EO_on_2 : List AI := [x_ic 0, x_fall 3]
def k_EO_on_3 : List AI := [x_rz]
def kb_EO_on : List (List AI) := [k_EO_on_0, k_EO_on_1, k_EO_on_2, k_EO_on_3]
def k_EO_status_0 : List AI := [x_ldi 1, x_iflt 1, x_ldi 1, x_lda 0, x_ga 10 10, x_len, x_icge 1, x_lda 0, x_ga 10 10, x_ldi 1, x_ali, x_go 2]
def k_EO_status_1 : List AI := [x_ic (-1), x_fall 2]
def k_EO_status_2 : List AI := [x_ri]
def kb_EO_status : List (List AI) := [k_EO_status_0, k_EO_status_1, k_EO_status_2]
def k_EO_refuse_0 : List AI := [x_ldi 1, x_iflt 1, x_ldi 1, x_lda 0, x_ga 10 10, x_len, x_icge 1, x_lda 0, x_ga 10 10, x_ldi 1, x_dup2, x_ali, x_ic 1, x_iadd, x_asi, x_fall 1]
def k_EO_refuse_1 : List AI := [x_ic 0, x_rz]
def kb_EO_refuse : List (List AI) := [k_EO_refuse_0, k_EO_refuse_1]
def k_EO_canGoBy_0 : List AI := [x_ldi 1, x_ic 1, x_iclt 1, x_ldi 1, x_ic 200, x_icgt 1, x_lda 0, x_ga 1 10, x_gi 3 1, x_ldi 1, x_iadd, x_ic 9999, x_icgt 1, x_ic 1, x_go 2]
def k_EO_canGoBy_1 : List AI := [x_ic 0, x_fall 2]
def k_EO_canGoBy_2 : List AI := [x_rz]
def kb_EO_canGoBy : List (List AI) := [k_EO_canGoBy_0, k_EO_canGoBy_1, k_EO_canGoBy_2]
def k_EO_keepFault_0 : List AI := [x_lda 0, x_lda 0, x_ga 0 10, x_gi 6 8, x_pi 11 10, x_lda 0, x_lda 0, x_ga 0 10, x_gi 7 8, x_pi 12 10, x_lda 0, x_ga 0 10, x_calv0 TP_clear 1 8, x_ret]
def kb_EO_keepFault : List (List AI) := [k_EO_keepFault_0]
def k_MO_init_0 : List AI := [x_lda 0, x_obj, x_lda 0, x_ic 1600, x_nw 1, x_pa 0 11, x_lda 0, x_ic (-1), x_pi 8 11, x_lda 0, x_ic 6, x_nw 1, x_pa 9 11, x_lda 0, x_ic 4, x_nw 4, x_dup, x_ic 0, x_ic 115, x_asc, x_dup, x_ic 1, x_ic 101, x_asc, x_dup, x_ic 2, x_ic 97, x_asc, x_dup, x_ic 3, x_ic 116, x_asc, x_pa 11 11, x_lda 0, x_ic 3, x_nw 4, x_dup, x_ic 0, x_ic 97, x_asc, x_dup, x_ic 1, x_ic 114, x_asc, x_dup, x_ic 2, x_ic 109, x_asc, x_pa 12 11, x_lda 0, x_ic 5, x_nw 4, x_dup, x_ic 0, x_ic 114, x_asc, x_dup, x_ic 1, x_ic 111, x_asc, x_dup, x_ic 2, x_ic 119, x_asc, x_dup, x_ic 3, x_ic 101, x_asc, x_dup, x_ic 4, x_ic 114, x_asc, x_pa 13 11, x_lda 0, x_ic 8, x_nw 4, x_dup, x_ic 0, x_ic 115, x_asc, x_dup, x_ic 1, x_ic 116, x_asc, x_dup, x_ic 2, x_ic 114, x_asc, x_dup, x_ic 3, x_ic 101, x_asc, x_dup, x_ic 4, x_ic 110, x_asc, x_dup, x_ic 5, x_ic 103, x_asc, x_dup, x_ic 6, x_ic 116, x_asc, x_dup, x_ic 7, x_ic 104, x_asc, x_pa 14 11, x_lda 0, x_ic 5, x_nw 4, x_dup, x_ic 0, x_ic 116, x_asc, x_dup, x_ic 1, x_ic 105, x_asc, x_dup, x_ic 2, x_ic 114, x_asc, x_dup, x_ic 3, x_ic 101, x_asc, x_dup, x_ic 4, x_ic 115, x_asc, x_pa 15 11, x_lda 0, x_ic 4, x_nw 4, x_dup, x_ic 0, x_ic 101, x_asc, x_dup, x_ic 1, x_ic 97, x_asc, x_dup, x_ic 2, x_ic 99, x_asc, x_dup, x_ic 3, x_ic 104, x_asc, x_pa 16 11, x_lda 0, x_ic 3, x_nw 4, x_dup, x_ic 0, x_ic 102, x_asc, x_dup, x_ic 1, x_ic 105, x_asc, x_dup, x_ic 2, x_ic 120, x_asc, x_pa 17 11, x_lda 0, x_ic 4, x_nw 4, x_dup, x_ic 0, x_ic 108, x_asc, x_dup, x_ic 1, x_ic 101, x_asc, x_dup, x_ic 2, x_ic 102, x_asc, x_dup, x_ic 3, x_ic 116, x_asc, x_pa 18 11, x_lda 0, x_ic 5, x_nw 4, x_dup, x_ic 0, x_ic 114, x_asc, x_dup, x_ic 1, x_ic 105, x_asc, x_dup, x_ic 2, x_ic 103, x_asc, x_dup, x_ic 3, x_ic 104, x_asc, x_dup, x_ic 4, x_ic 116, x_asc, x_pa 19 11, x_lda 0, x_ic 4, x_nw 4, x_dup, x_ic 0, x_ic 119, x_asc, x_dup, x_ic 1, x_ic 97, x_asc, x_dup, x_ic 2, x_ic 110, x_asc, x_dup, x_ic 3, x_ic 116, x_asc, x_pa 20 11, x_lda 0, x_ic 2, x_nw 4, x_dup, x_ic 0, x_ic 105, x_asc, x_dup, x_ic 1, x_ic 115, x_asc, x_pa 21 11, x_lda 0, x_ic 4, x_nw 4, x_dup, x_ic 0, x_ic 110, x_asc, x_dup, x_ic 1, x_ic 101, x_asc, x_dup, x_ic 2, x_ic 97, x_asc, x_dup, x_ic 3, x_ic 114, x_asc, x_pa 22 11, x_lda 0, x_ic 3, x_nw 4, x_dup, x_ic 0, x_ic 114, x_asc, x_dup, x_ic 1, x_ic 117, x_asc, x_dup, x_ic 2, x_ic 110, x_asc, x_pa 23 11, x_lda 0, x_ic 5, x_nw 4, x_dup, x_ic 0, x_ic 112, x_asc, x_dup, x_ic 1, x_ic 111, x_asc, x_dup, x_ic 2, x_ic 119, x_asc, x_dup, x_ic 3, x_ic 101, x_asc, x_dup, x_ic 4, x_ic 114, x_asc, x_pa 24 11, x_lda 0, x_ic 5, x_nw 4, x_dup, x_ic 0, x_ic 115, x_asc, x_dup, x_ic 1, x_ic 119, x_asc, x_dup, x_ic 2, x_ic 117, x_asc, x_dup, x_ic 3, x_ic 110, x_asc, x_dup, x_ic 4, x_ic 103, x_asc, x_pa 25 11, x_lda 0, x_ic 3, x_nw 4, x_dup, x_ic 0, x_ic 112, x_asc, x_dup, x_ic 1, x_ic 97, x_asc, x_dup, x_ic 2, x_ic 121, x_asc, x_pa 26 11, x_lda 0, x_ic 2, x_nw 4, x_dup, x_ic 0, x_ic 111, x_asc, x_dup, x_ic 1, x_ic 110, x_asc, x_pa 27 11, x_lda 0, x_ic 8, x_nw 1, x_pa 29 11, x_lda 0, x_ic 24, x_nw 1, x_pa 30 11, x_lda 0, x_ic 24, x_nw 1, x_pa 31 11, x_lda 0, x_ic 24, x_nw 1, x_pa 32 11, x_lda 0, x_ic 24, x_nw 2, x_pa 33 11, x_lda 0, x_ic 24, x_nw 1, x_pa 34 11, x_lda 0, x_ic 24, x_nw 1, x_pa 35 11, x_lda 0, x_ic 2, x_nw 1, x_pa 36 11, x_lda 0, x_ic 2, x_nw 1, x_pa 37 11, x_lda 0, x_ic 8, x_nw 1, x_pa 38 11, x_lda 0, x_ic 8, x_nw 1, x_pa 39 11, x_lda 0, x_ic 192, x_nw 1, x_pa 40 11, x_lda 0, x_ic 16, x_nw 1, x_pa 41 11, x_lda 0, x_ic 16, x_nw 1, x_pa 42 11, x_lda 0, x_ic 24, x_nw 1, x_pa 43 11, x_lda 0, x_ic 24, x_nw 1, x_pa 44 11, x_lda 0, x_ic 12, x_nw 1, x_pa 50 11, x_lda 0, x_ic 30, x_nw 1, x_pa 51 11, x_lda 0, x_ic 30, x_nw 2, x_pa 52 11, x_lda 0, x_ic 30, x_nw 1, x_pa 53 11, x_lda 0, x_ic 360, x_nw 1, x_pa 54 11, x_lda 0, x_lc 1, x_pl 57 11, x_lda 0, x_ic 8631, x_nw 2, x_pa 58 11, x_lda 0, x_ic 12, x_nw 1, x_pa 61 11, x_lda 0, x_ic 5, x_nw 1, x_pa 62 11, x_lda 0, x_ic 12, x_nw 1, x_pa 66 11, x_lda 0, x_ic 12, x_nw 1, x_pa 67 11, x_lda 0, x_ic 6, x_nw 1, x_pa 68 11, x_lda 0, x_ic 6, x_nw 1, x_pa 69 11, x_lda 0, x_ic 5, x_nw 4, x_dup, x_ic 0, x_ic 102, x_asc, x_dup, x_ic 1, x_ic 105, x_asc, x_dup, x_ic 2, x_ic 114, x_asc, x_dup, x_ic 3, x_ic 115, x_asc, x_dup, x_ic 4, x_ic 116, x_asc, x_pa 70 11, x_lda 0, x_ic 4, x_nw 4, x_dup, x_ic 0, x_ic 108, x_asc, x_dup, x_ic 1, x_ic 97, x_asc, x_dup, x_ic 2, x_ic 115, x_asc, x_dup, x_ic 3, x_ic 116, x_asc, x_pa 71 11, x_lda 0, x_ic 5, x_nw 4, x_dup, x_ic 0, x_ic 111, x_asc, x_dup, x_ic 1, x_ic 102, x_asc, x_dup, x_ic 2, x_ic 116, x_asc, x_dup, x_ic 3, x_ic 101, x_asc, x_dup, x_ic 4, x_ic 110, x_asc, x_pa 72 11, x_lda 0, x_ic 5, x_nw 4, x_dup, x_ic 0, x_ic 116, x_asc, x_dup, x_ic 1, x_ic 111, x_asc, x_dup, x_ic 2, x_ic 116, x_asc, x_dup, x_ic 3, x_ic 97, x_asc, x_dup, x_ic 4, x_ic 108, x_asc, x_pa 73 11, x_lda 0, x_ic 4, x_nw 4, x_dup, x_ic 0, x_ic 109, x_asc, x_dup, x_ic 1, x_ic 111, x_asc, x_dup, x_ic 2, x_ic 115, x_asc, x_dup, x_ic 3, x_ic 116, x_asc, x_pa 74 11, x_lda 0, x_ic 5, x_nw 4, x_dup, x_ic 0, x_ic 108, x_asc, x_dup, x_ic 1, x_ic 101, x_asc, x_dup, x_ic 2, x_ic 97, x_asc, x_dup, x_ic 3, x_ic 115, x_asc, x_dup, x_ic 4, x_ic 116, x_asc, x_pa 75 11, x_lda 0, x_ic 3, x_nw 4, x_dup, x_ic 0, x_ic 110, x_asc, x_dup, x_ic 1, x_ic 111, x_asc, x_dup, x_ic 2, x_ic 116, x_asc, x_pa 76 11, x_lda 0, x_ic 3, x_nw 4, x_dup, x_ic 0, x_ic 97, x_asc, x_dup, x_ic 1, x_ic 110, x_asc, x_dup, x_ic 2, x_ic 100, x_asc, x_pa 77 11, x_lda 0, x_ic 2, x_nw 4, x_dup, x_ic 0, x_ic 111, x_asc, x_dup, x_ic 1, x_ic 114, x_asc, x_pa 78 11, x_lda 0, x_ic 3, x_nw 4, x_dup, x_ic 0, x_ic 97, x_asc, x_dup, x_ic 1, x_ic 108, x_asc, x_dup, x_ic 2, x_ic 108, x_asc, x_pa 79 11, x_lda 0, x_ic 3, x_nw 4, x_dup, x_ic 0, x_ic 109, x_asc, x_dup, x_ic 1, x_ic 105, x_asc, x_dup, x_ic 2, x_ic 110, x_asc, x_pa 80 11, x_lda 0, x_ic 3, x_nw 4, x_dup, x_ic 0, x_ic 109, x_asc, x_dup, x_ic 1, x_ic 97, x_asc, x_dup, x_ic 2, x_ic 120, x_asc, x_pa 81 11, x_lda 0, x_ic 6, x_nw 4, x_dup, x_ic 0, x_ic 115, x_asc, x_dup, x_ic 1, x_ic 116, x_asc, x_dup, x_ic 2, x_ic 114, x_asc, x_dup, x_ic 3, x_ic 111, x_asc, x_dup, x_ic 4, x_ic 107, x_asc, x_dup, x_ic 5, x_ic 101, x_asc, x_pa 82 11, x_lda 0, x_ic 3, x_nw 4, x_dup, x_ic 0, x_ic 111, x_asc, x_dup, x_ic 1, x_ic 102, x_asc, x_dup, x_ic 2, x_ic 102, x_asc, x_pa 83 11, x_lda 0, x_ic 4, x_nw 4, x_dup, x_ic 0, x_ic 103, x_asc, x_dup, x_ic 1, x_ic 111, x_asc, x_dup, x_ic 2, x_ic 111, x_asc, x_dup, x_ic 3, x_ic 100, x_asc, x_pa 84 11, x_lda 0, x_ic 5, x_nw 4, x_dup, x_ic 0, x_ic 115, x_asc, x_dup, x_ic 1, x_ic 119, x_asc, x_dup, x_ic 2, x_ic 105, x_asc, x_dup, x_ic 3, x_ic 110, x_asc, x_dup, x_ic 4, x_ic 103, x_asc, x_pa 85 11, x_lda 0, x_ic 5, x_nw 4, x_dup, x_ic 0, x_ic 102, x_asc, x_dup, x_ic 1, x_ic 111, x_asc, x_dup, x_ic 2, x_ic 114, x_asc, x_dup, x_ic 3, x_ic 99, x_asc, x_dup, x_ic 4, x_ic 101, x_asc, x_pa 86 11, x_lda 0, x_ic 1700, x_nw 1, x_pa 87 11, x_lda 0, x_ic 1700, x_nw 1, x_pa 89 11, x_lda 0, x_ic 1700, x_nw 2, x_pa 93 11, x_lda 0, x_ic 36, x_nw 1, x_pa 97 11, x_ret]
def kb_MO_init : List (List AI) := [k_MO_init_0]
def k_MO_isIn_0 : List AI := [x_ldl 0, x_ldl 2, x_lcmp, x_iflt 1, x_ldl 0, x_ldl 4, x_lcmp, x_ifgt 1, x_ic 1, x_go 2]
def k_MO_isIn_1 : List AI := [x_ic 0, x_fall 2]
def k_MO_isIn_2 : List AI := [x_rz]
def kb_MO_isIn : List (List AI) := [k_MO_isIn_0, k_MO_isIn_1, k_MO_isIn_2]
def k_MO_feed_0 : List AI := [x_lda 0, x_gi 1 11, x_ic 20, x_iadd, x_ic 1600, x_icle 1, x_lda 0, x_ga 9 11, x_ic 0, x_dup2, x_ali, x_ic 1, x_iadd, x_asi, x_ic (-1), x_ri]
def k_MO_feed_1 : List AI := [x_ic 0, x_s1i 6, x_fall 2]
def k_MO_feed_2 : List AI := [x_ldi 6, x_ic 20, x_icge 8, x_ldi 6, x_ic 4, x_icge 3, x_ldi 1, x_go 7]
def k_MO_feed_3 : List AI := [x_ldi 6, x_ic 8, x_icge 4, x_ldi 2, x_go 7]
def k_MO_feed_4 : List AI := [x_ldi 6, x_ic 12, x_icge 5, x_ldi 3, x_go 7]
def k_MO_feed_5 : List AI := [x_ldi 6, x_ic 16, x_icge 6, x_ldi 4, x_go 7]
def k_MO_feed_6 : List AI := [x_ldi 5, x_fall 7]
def k_MO_feed_7 : List AI := [x_s1i 7, x_lda 0, x_ga 0 11, x_lda 0, x_gi 1 11, x_ldi 7, x_ic 8, x_ic 3, x_ldi 6, x_ic 4, x_irem, x_isub, x_imul, x_ishr, x_ic 255, x_iand, x_asi, x_lda 0, x_dup, x_gi 1 11, x_ic 1, x_iadd, x_pi 1 11, x_inc 6 1, x_go 2]
def k_MO_feed_8 : List AI := [x_lda 0, x_gi 1 11, x_ri]
def kb_MO_feed : List (List AI) := [k_MO_feed_0, k_MO_feed_1, k_MO_feed_2, k_MO_feed_3, k_MO_feed_4, k_MO_feed_5, k_MO_feed_6, k_MO_feed_7, k_MO_feed_8]
def k_MO_end_0 : List AI := [x_ldi 1, x_iflt 1, x_ldi 1, x_lda 0, x_gi 1 11, x_icle 2, x_fall 1]
def k_MO_end_1 : List AI := [x_lda 0, x_ga 9 11, x_ic 0, x_dup2, x_ali, x_ic 1, x_iadd, x_asi, x_ic 0, x_rz]
def k_MO_end_2 : List AI := [x_lda 0, x_ldi 1, x_pi 1 11, x_ic 1, x_rz]
def kb_MO_end : List (List AI) := [k_MO_end_0, k_MO_end_1, k_MO_end_2]
def k_MO_fail_0 : List AI := [x_lda 0, x_gi 5 11, x_ifeq 1, x_ret]
def k_MO_fail_1 : List AI := [x_lda 0, x_ldi 1, x_pi 5 11, x_lda 0, x_ldi 2, x_pi 6 11, x_ret]
def kb_MO_fail : List (List AI) := [k_MO_fail_0, k_MO_fail_1]
def k_MO_isLetter_0 : List AI := [x_ldi 0, x_ic 97, x_iclt 1, x_ldi 0, x_ic 122, x_icgt 1, x_ic 1, x_go 2]
def k_MO_isLetter_1 : List AI := [x_ic 0, x_fall 2]
def k_MO_isLetter_2 : List AI := [x_rz]
def kb_MO_isLetter : List (List AI) := [k_MO_isLetter_0, k_MO_isLetter_1, k_MO_isLetter_2]
def k_MO_isDigit_0 : List AI := [x_ldi 0, x_ic 48, x_iclt 1, x_ldi 0, x_ic 57, x_icgt 1, x_ic 1, x_go 2]
def k_MO_isDigit_1 : List AI := [x_ic 0, x_fall 2]
def k_MO_isDigit_2 : List AI := [x_rz]
def kb_MO_isDigit : List (List AI) := [k_MO_isDigit_0, k_MO_isDigit_1, k_MO_isDigit_2]
def k_MO_look_0 : List AI := [x_lda 0, x_gi 2 11, x_lda 0, x_gi 3 11, x_icge 2, x_lda 0, x_ga 0 11, x_lda 0, x_gi 2 11, x_ali, x_ic 10, x_iceq 1, x_lda 0, x_ga 0 11, x_lda 0, x_gi 2 11, x_ali, x_ic 32, x_icne 2, x_fall 1]
def k_MO_look_1 : List AI := [x_lda 0, x_dup, x_gi 2 11, x_ic 1, x_iadd, x_pi 2 11, x_go 0]
def k_MO_look_2 : List AI := [x_lda 0, x_gi 2 11, x_lda 0, x_gi 3 11, x_icge 3, x_lda 0, x_ga 0 11, x_lda 0, x_gi 2 11, x_ali, x_go 4]
def k_MO_look_3 : List AI := [x_ic (-1), x_fall 4]
def k_MO_look_4 : List AI := [x_ri]
def kb_MO_look : List (List AI) := [k_MO_look_0, k_MO_look_1, k_MO_look_2, k_MO_look_3, k_MO_look_4]
def k_MO_isHere_0 : List AI := [x_lda 0, x_gi 5 11, x_ifne 1, x_lda 0, x_calv MO_look 1 11, x_call MO_isLetter 1, x_ifeq 1, x_lda 0, x_gi 2 11, x_lda 0, x_gi 4 11, x_icne 2, x_fall 1]
def k_MO_isHere_1 : List AI := [x_ic 0, x_rz]
def k_MO_isHere_2 : List AI := [x_lda 0, x_gi 2 11, x_s1i 2, x_fall 3]
def k_MO_isHere_3 : List AI := [x_ldi 2, x_lda 0, x_gi 3 11, x_icge 4, x_lda 0, x_ga 0 11, x_ldi 2, x_ali, x_call MO_isLetter 1, x_ifeq 4, x_inc 2 1, x_go 3]
def k_MO_isHere_4 : List AI := [x_ldi 2, x_lda 0, x_gi 2 11, x_isub, x_lda 1, x_len, x_iceq 5, x_ic 0, x_rz]
def k_MO_isHere_5 : List AI := [x_ic 0, x_s1i 3, x_fall 6]
def k_MO_isHere_6 : List AI := [x_ldi 3, x_lda 1, x_len, x_icge 8, x_lda 0, x_ga 0 11, x_lda 0, x_gi 2 11, x_ldi 3, x_iadd, x_ali, x_lda 1, x_ldi 3, x_alc, x_iceq 7, x_ic 0, x_rz]
def k_MO_isHere_7 : List AI := [x_inc 3 1, x_go 6]
def k_MO_isHere_8 : List AI := [x_ic 1, x_rz]
def kb_MO_isHere : List (List AI) := [k_MO_isHere_0, k_MO_isHere_1, k_MO_isHere_2, k_MO_isHere_3, k_MO_isHere_4, k_MO_isHere_5, k_MO_isHere_6, k_MO_isHere_7, k_MO_isHere_8]
def k_MO_takes_0 : List AI := [x_lda 0, x_lda 1, x_calv MO_isHere 2 11, x_ifne 1, x_ic 0, x_rz]
def k_MO_takes_1 : List AI := [x_lda 0, x_dup, x_gi 2 11, x_lda 1, x_len, x_iadd, x_pi 2 11, x_lda 0, x_lda 0, x_gi 2 11, x_pi 4 11, x_ic 1, x_rz]
def kb_MO_takes : List (List AI) := [k_MO_takes_0, k_MO_takes_1]
def k_MO_asks_0 : List AI := [x_lda 0, x_gi 5 11, x_ifne 1, x_lda 0, x_lda 1, x_calv MO_takes 2 11, x_ifne 1, x_lda 0, x_ic 1, x_lda 0, x_gi 2 11, x_calv0 MO_fail 3 11, x_fall 1]
def k_MO_asks_1 : List AI := [x_ret]
def kb_MO_asks : List (List AI) := [k_MO_asks_0, k_MO_asks_1]
def k_MO_takesSign_0 : List AI := [x_lda 0, x_gi 5 11, x_ifne 1, x_lda 0, x_calv MO_look 1 11, x_ldi 1, x_iceq 2, x_fall 1]
def k_MO_takesSign_1 : List AI := [x_ic 0, x_rz]
def k_MO_takesSign_2 : List AI := [x_lda 0, x_dup, x_gi 2 11, x_ic 1, x_iadd, x_pi 2 11, x_ic 1, x_rz]
def kb_MO_takesSign : List (List AI) := [k_MO_takesSign_0, k_MO_takesSign_1, k_MO_takesSign_2]
def k_MO_asksSign_0 : List AI := [x_lda 0, x_gi 5 11, x_ifne 1, x_lda 0, x_ldi 1, x_calv MO_takesSign 2 11, x_ifne 1, x_lda 0, x_ic 1, x_lda 0, x_gi 2 11, x_calv0 MO_fail 3 11, x_fall 1]
def k_MO_asksSign_1 : List AI := [x_ret]
def kb_MO_asksSign : List (List AI) := [k_MO_asksSign_0, k_MO_asksSign_1]
def k_MO_number_0 : List AI := [x_lda 0, x_gi 5 11, x_ifeq 1, x_ic 0, x_ri]
def k_MO_number_1 : List AI := [x_lda 0, x_calv MO_look 1 11, x_call MO_isDigit 1, x_ifeq 2, x_lda 0, x_gi 2 11, x_lda 0, x_gi 4 11, x_icne 3, x_fall 2]
def k_MO_number_2 : List AI := [x_lda 0, x_ic 1, x_lda 0, x_gi 2 11, x_calv0 MO_fail 3 11, x_ic 0, x_ri]
def k_MO_number_3 : List AI := [x_lda 0, x_gi 2 11, x_s1i 3, x_ic 0, x_s1i 4, x_fall 4]
def k_MO_number_4 : List AI := [x_lda 0, x_gi 2 11, x_lda 0, x_gi 3 11, x_icge 6, x_lda 0, x_ga 0 11, x_lda 0, x_gi 2 11, x_ali, x_call MO_isDigit 1, x_ifeq 6, x_lda 0, x_gi 2 11, x_ldi 3, x_isub, x_ic 5, x_icne 5, x_lda 0, x_ic 1, x_lda 0, x_gi 2 11, x_calv0 MO_fail 3 11, x_ic 0, x_ri]
def k_MO_number_5 : List AI := [x_ic 10, x_ldi 4, x_imul, x_lda 0, x_ga 0 11, x_lda 0, x_gi 2 11, x_ali, x_iadd, x_ic 48, x_isub, x_s1i 4, x_lda 0, x_dup, x_gi 2 11, x_ic 1, x_iadd, x_pi 2 11, x_go 4]
def k_MO_number_6 : List AI := [x_lda 0, x_lda 0, x_gi 2 11, x_pi 4 11, x_lda 0, x_ldi 3, x_pi 10 11, x_ldi 4, x_i2l, x_ldi 1, x_i2l, x_ldi 2, x_i2l, x_call MO_isIn 3, x_ifne 7, x_lda 0, x_ic 2, x_ldi 3, x_calv0 MO_fail 3 11, x_fall 7]
def k_MO_number_7 : List AI := [x_ldi 4, x_ri]
def kb_MO_number : List (List AI) := [k_MO_number_0, k_MO_number_1, k_MO_number_2, k_MO_number_3, k_MO_number_4, k_MO_number_5, k_MO_number_6, k_MO_number_7]
def k_MO_signed_0 : List AI := [x_lda 0, x_gi 5 11, x_ifeq 1, x_ic 0, x_ri]
def k_MO_signed_1 : List AI := [x_lda 0, x_calv MO_look 1 11, x_ic 45, x_icne 2, x_ic 1, x_go 3]
def k_MO_signed_2 : List AI := [x_ic 0, x_fall 3]
def k_MO_signed_3 : List AI := [x_s1i 2, x_lda 0, x_gi 2 11, x_s1i 3, x_ldi 2, x_ifeq 4, x_lda 0, x_dup, x_gi 2 11, x_ic 1, x_iadd, x_pi 2 11, x_fall 4]
def k_MO_signed_4 : List AI := [x_ldi 2, x_ifeq 5, x_lda 0, x_ic 0, x_ic 99999, x_calv MO_number 3 11, x_ineg, x_go 6]
def k_MO_signed_5 : List AI := [x_lda 0, x_ic 0, x_ic 99999, x_calv MO_number 3 11, x_fall 6]
def k_MO_signed_6 : List AI := [x_s1i 4, x_lda 0, x_gi 5 11, x_ifne 7, x_ldi 4, x_i2l, x_ldi 1, x_ineg, x_i2l, x_ldi 1, x_i2l, x_call MO_isIn 3, x_ifne 7, x_lda 0, x_ic 2, x_ldi 3, x_calv0 MO_fail 3 11, x_fall 7]
def k_MO_signed_7 : List AI := [x_ldi 4, x_ri]
def kb_MO_signed : List (List AI) := [k_MO_signed_0, k_MO_signed_1, k_MO_signed_2, k_MO_signed_3, k_MO_signed_4, k_MO_signed_5, k_MO_signed_6, k_MO_signed_7]
def k_MO_isOwnHere_0 : List AI := [x_lda 0, x_lda 0, x_ga 11 11, x_calv MO_isHere 2 11, x_ifne 1, x_lda 0, x_lda 0, x_ga 12 11, x_calv MO_isHere 2 11, x_ifne 1, x_lda 0, x_lda 0, x_ga 13 11, x_calv MO_isHere 2 11, x_ifne 1, x_lda 0, x_lda 0, x_ga 14 11, x_calv MO_isHere 2 11, x_ifne 1, x_lda 0, x_lda 0, x_ga 15 11, x_calv MO_isHere 2 11, x_ifne 1, x_lda 0, x_lda 0, x_ga 16 11, x_calv MO_isHere 2 11, x_ifeq 2, x_fall 1]
def k_MO_isOwnHere_1 : List AI := [x_ic 1, x_go 3]
def k_MO_isOwnHere_2 : List AI := [x_ic 0, x_fall 3]
def k_MO_isOwnHere_3 : List AI := [x_s1i 1, x_ldi 1, x_ifne 4, x_lda 0, x_lda 0, x_ga 17 11, x_calv MO_isHere 2 11, x_ifne 4, x_lda 0, x_lda 0, x_ga 18 11, x_calv MO_isHere 2 11, x_ifne 4, x_lda 0, x_lda 0, x_ga 19 11, x_calv MO_isHere 2 11, x_ifne 4, x_lda 0, x_lda 0, x_ga 20 11, x_calv MO_isHere 2 11, x_ifne 4, x_lda 0, x_lda 0, x_ga 21 11, x_calv MO_isHere 2 11, x_ifne 4, x_lda 0, x_lda 0, x_ga 22 11, x_calv MO_isHere 2 11, x_ifeq 5, x_fall 4]
def k_MO_isOwnHere_4 : List AI := [x_ic 1, x_go 6]
def k_MO_isOwnHere_5 : List AI := [x_ic 0, x_fall 6]
def k_MO_isOwnHere_6 : List AI := [x_s1i 1, x_ldi 1, x_ifne 7, x_lda 0, x_lda 0, x_ga 23 11, x_calv MO_isHere 2 11, x_ifne 7, x_lda 0, x_lda 0, x_ga 24 11, x_calv MO_isHere 2 11, x_ifne 7, x_lda 0, x_lda 0, x_ga 25 11, x_calv MO_isHere 2 11, x_ifne 7, x_lda 0, x_lda 0, x_ga 26 11, x_calv MO_isHere 2 11, x_ifne 7, x_lda 0, x_lda 0, x_ga 27 11, x_calv MO_isHere 2 11, x_ifeq 8, x_fall 7]
def k_MO_isOwnHere_7 : List AI := [x_ic 1, x_go 9]
def k_MO_isOwnHere_8 : List AI := [x_ic 0, x_fall 9]
def k_MO_isOwnHere_9 : List AI := [x_s1i 1, x_ldi 1, x_rz]
def kb_MO_isOwnHere : List (List AI) := [k_MO_isOwnHere_0, k_MO_isOwnHere_1, k_MO_isOwnHere_2, k_MO_isOwnHere_3, k_MO_isOwnHere_4, k_MO_isOwnHere_5, k_MO_isOwnHere_6, k_MO_isOwnHere_7, k_MO_isOwnHere_8, k_MO_isOwnHere_9]
def k_MO_name_0 : List AI := [x_lda 0, x_gi 5 11, x_ifeq 1, x_lc 0, x_rl]
def k_MO_name_1 : List AI := [x_lda 0, x_calv MO_look 1 11, x_call MO_isLetter 1, x_ifeq 2, x_lda 0, x_gi 2 11, x_lda 0, x_gi 4 11, x_iceq 2, x_lda 0, x_calv MO_isOwnHere 1 11, x_ifeq 3, x_fall 2]
def k_MO_name_2 : List AI := [x_lda 0, x_ic 1, x_lda 0, x_gi 2 11, x_calv0 MO_fail 3 11, x_lc 0, x_rl]
def k_MO_name_3 : List AI := [x_lda 0, x_lda 0, x_gi 2 11, x_pi 28 11, x_lc 0, x_s2 1, x_fall 4]
def k_MO_name_4 : List AI := [x_lda 0, x_gi 2 11, x_lda 0, x_gi 3 11, x_icge 6, x_lda 0, x_ga 0 11, x_lda 0, x_gi 2 11, x_ali, x_call MO_isLetter 1, x_ifeq 6, x_lda 0, x_gi 2 11, x_lda 0, x_gi 28 11, x_isub, x_ic 6, x_icne 5, x_lda 0, x_ic 1, x_lda 0, x_gi 2 11, x_calv0 MO_fail 3 11, x_lc 0, x_rl]
def k_MO_name_5 : List AI := [x_lc 27, x_ldl 1, x_lmul, x_lda 0, x_ga 0 11, x_lda 0, x_gi 2 11, x_ali, x_i2l, x_ladd, x_lc 97, x_lsub, x_lc 1, x_ladd, x_s2 1, x_lda 0, x_dup, x_gi 2 11, x_ic 1, x_iadd, x_pi 2 11, x_go 4]
def k_MO_name_6 : List AI := [x_lda 0, x_lda 0, x_gi 2 11, x_pi 4 11, x_ldl 1, x_rl]
def kb_MO_name : List (List AI) := [k_MO_name_0, k_MO_name_1, k_MO_name_2, k_MO_name_3, k_MO_name_4, k_MO_name_5, k_MO_name_6]
def k_MO_isFull_0 : List AI := [x_lda 0, x_gi 5 11, x_ifne 1, x_lda 0, x_ga 29 11, x_ldi 1, x_ali, x_ldi 2, x_icne 1, x_lda 0, x_ic 5, x_ldi 3, x_calv0 MO_fail 3 11, x_fall 1]
def k_MO_isFull_1 : List AI := [x_lda 0, x_gi 5 11, x_ifeq 2, x_ic 1, x_go 3]
def k_MO_isFull_2 : List AI := [x_ic 0, x_fall 3]
def k_MO_isFull_3 : List AI := [x_rz]
def kb_MO_isFull : List (List AI) := [k_MO_isFull_0, k_MO_isFull_1, k_MO_isFull_2, k_MO_isFull_3]
def k_MO_seatAt_0 : List AI := [x_ic 0, x_s1i 2, x_fall 1]
def k_MO_seatAt_1 : List AI := [x_ldi 2, x_lda 0, x_ga 29 11, x_ic 0, x_ali, x_icge 3, x_lda 0, x_ga 30 11, x_ldi 2, x_ali, x_ldi 1, x_icne 2, x_ldi 2, x_ri]
def k_MO_seatAt_2 : List AI := [x_inc 2 1, x_go 1]
def k_MO_seatAt_3 : List AI := [x_ic (-1), x_ri]
def kb_MO_seatAt : List (List AI) := [k_MO_seatAt_0, k_MO_seatAt_1, k_MO_seatAt_2, k_MO_seatAt_3]
def k_MO_seatTold_0 : List AI := [x_lda 0, x_ic 0, x_ic 12, x_ldi 1, x_calv MO_isFull 4 11, x_ifeq 1, x_ret]
def k_MO_seatTold_1 : List AI := [x_lda 0, x_ga 29 11, x_ic 0, x_ali, x_s1i 2, x_lda 0, x_ic 1, x_ic 99, x_calv MO_number 3 11, x_s1i 3, x_lda 0, x_gi 5 11, x_ifne 2, x_lda 0, x_ldi 3, x_calv MO_seatAt 2 11, x_ic (-1), x_iceq 2, x_lda 0, x_ic 2, x_lda 0, x_gi 10 11, x_calv0 MO_fail 3 11, x_fall 2]
def k_MO_seatTold_2 : List AI := [x_lda 0, x_lda 0, x_ga 12 11, x_calv0 MO_asks 2 11, x_lda 0, x_ic 1, x_ic 99, x_calv MO_number 3 11, x_s1i 4, x_lda 0, x_gi 5 11, x_ifeq 3, x_ret]
def k_MO_seatTold_3 : List AI := [x_lda 0, x_ga 30 11, x_ldi 2, x_ldi 3, x_asi, x_lda 0, x_ga 31 11, x_ldi 2, x_ldi 4, x_asi, x_lda 0, x_ga 32 11, x_ldi 2, x_ic 0, x_asi, x_lda 0, x_ga 29 11, x_ic 0, x_dup2, x_ali, x_ic 1, x_iadd, x_asi, x_ret]
def kb_MO_seatTold : List (List AI) := [k_MO_seatTold_0, k_MO_seatTold_1, k_MO_seatTold_2, k_MO_seatTold_3]
def k_MO_rowerTold_0 : List AI := [x_lda 0, x_ic 1, x_ic 12, x_ldi 1, x_calv MO_isFull 4 11, x_ifeq 1, x_ret]
def k_MO_rowerTold_1 : List AI := [x_lda 0, x_ga 29 11, x_ic 1, x_ali, x_s1i 2, x_lda 0, x_calv MO_name 1 11, x_s2 3, x_ic 0, x_s1i 5, x_fall 2]
def k_MO_rowerTold_2 : List AI := [x_ldi 5, x_ldi 2, x_icge 4, x_lda 0, x_gi 5 11, x_ifne 3, x_lda 0, x_ga 33 11, x_ldi 5, x_all, x_ldl 3, x_lcmp, x_ifne 3, x_lda 0, x_ic 3, x_lda 0, x_gi 28 11, x_calv0 MO_fail 3 11, x_fall 3]
def k_MO_rowerTold_3 : List AI := [x_inc 5 1, x_go 2]
def k_MO_rowerTold_4 : List AI := [x_lda 0, x_lda 0, x_ga 14 11, x_calv0 MO_asks 2 11, x_lda 0, x_ic 1, x_ic 99, x_calv MO_number 3 11, x_s1i 5, x_lda 0, x_lda 0, x_ga 15 11, x_calv0 MO_asks 2 11, x_lda 0, x_ic 0, x_ic 9, x_calv MO_number 3 11, x_s1i 6, x_lda 0, x_gi 5 11, x_ifeq 5, x_ret]
def k_MO_rowerTold_5 : List AI := [x_lda 0, x_ga 33 11, x_ldi 2, x_ldl 3, x_asl, x_lda 0, x_ga 34 11, x_ldi 2, x_ldi 5, x_asi, x_lda 0, x_ga 35 11, x_ldi 2, x_ldi 6, x_asi, x_lda 0, x_ga 29 11, x_ic 1, x_dup2, x_ali, x_ic 1, x_iadd, x_asi, x_ret]
def kb_MO_rowerTold : List (List AI) := [k_MO_rowerTold_0, k_MO_rowerTold_1, k_MO_rowerTold_2, k_MO_rowerTold_3, k_MO_rowerTold_4, k_MO_rowerTold_5]
def k_MO_fixTold_0 : List AI := [x_lda 0, x_ic 0, x_ic 99999, x_calv MO_number 3 11, x_s1i 1, x_lda 0, x_ldi 1, x_calv MO_seatAt 2 11, x_s1i 2, x_lda 0, x_gi 5 11, x_ifne 1, x_ldi 2, x_ic (-1), x_icne 1, x_lda 0, x_ic 2, x_lda 0, x_gi 10 11, x_calv0 MO_fail 3 11, x_fall 1]
def k_MO_fixTold_1 : List AI := [x_lda 0, x_lda 0, x_ga 18 11, x_calv MO_takes 2 11, x_s1i 3, x_ldi 3, x_ifne 2, x_lda 0, x_lda 0, x_ga 19 11, x_calv0 MO_asks 2 11, x_fall 2]
def k_MO_fixTold_2 : List AI := [x_lda 0, x_gi 5 11, x_ifne 5, x_lda 0, x_ga 32 11, x_ldi 2, x_ldi 3, x_ifeq 3, x_ic 1, x_go 4]
def k_MO_fixTold_3 : List AI := [x_ic 2, x_fall 4]
def k_MO_fixTold_4 : List AI := [x_asi, x_fall 5]
def k_MO_fixTold_5 : List AI := [x_ret]
def kb_MO_fixTold : List (List AI) := [k_MO_fixTold_0, k_MO_fixTold_1, k_MO_fixTold_2, k_MO_fixTold_3, k_MO_fixTold_4, k_MO_fixTold_5]
def k_MO_wantTold_0 : List AI := [x_lda 0, x_ic 0, x_ic 3, x_calv MO_number 3 11, x_s1i 1, x_lda 0, x_lda 0, x_ga 21 11, x_calv0 MO_asks 2 11, x_lda 0, x_ic 9999, x_calv MO_signed 2 11, x_s1i 2, x_lda 0, x_gi 5 11, x_ifeq 1, x_ret]
def k_MO_wantTold_1 : List AI := [x_lda 0, x_ga 38 11, x_ldi 1, x_ic 1, x_asi, x_lda 0, x_ga 39 11, x_ldi 1, x_ldi 2, x_asi, x_ret]
def kb_MO_wantTold : List (List AI) := [k_MO_wantTold_0, k_MO_wantTold_1]
def k_MO_sidesTold_0 : List AI := [x_lda 0, x_gi 5 11, x_ifeq 1, x_ret]
def k_MO_sidesTold_1 : List AI := [x_lda 0, x_calv MO_look 1 11, x_call MO_isLetter 1, x_ifeq 2, x_lda 0, x_gi 2 11, x_lda 0, x_gi 4 11, x_icne 3, x_fall 2]
def k_MO_sidesTold_2 : List AI := [x_lda 0, x_ic 1, x_lda 0, x_gi 2 11, x_calv0 MO_fail 3 11, x_ret]
def k_MO_sidesTold_3 : List AI := [x_lda 0, x_gi 2 11, x_s1i 2, x_ic 0, x_s1i 3, x_fall 4]
def k_MO_sidesTold_4 : List AI := [x_lda 0, x_gi 2 11, x_lda 0, x_gi 3 11, x_icge 10, x_lda 0, x_ga 0 11, x_lda 0, x_gi 2 11, x_ali, x_call MO_isLetter 1, x_ifeq 10, x_lda 0, x_ga 0 11, x_lda 0, x_gi 2 11, x_ali, x_s1i 4, x_ldi 3, x_lda 0, x_ga 29 11, x_ic 0, x_ali, x_iceq 5, x_ldi 4, x_ic 108, x_iceq 6, x_ldi 4, x_ic 114, x_iceq 6, x_ldi 4, x_ic 120, x_iceq 6, x_fall 5]
def k_MO_sidesTold_5 : List AI := [x_lda 0, x_ic 1, x_ldi 2, x_calv0 MO_fail 3 11, x_ret]
def k_MO_sidesTold_6 : List AI := [x_lda 0, x_ga 40 11, x_ic 12, x_ldi 1, x_imul, x_ldi 3, x_iadd, x_ldi 4, x_ic 108, x_icne 7, x_ic 1, x_go 9]
def k_MO_sidesTold_7 : List AI := [x_ldi 4, x_ic 114, x_icne 8, x_ic 2, x_go 9]
def k_MO_sidesTold_8 : List AI := [x_ic 0, x_fall 9]
def k_MO_sidesTold_9 : List AI := [x_asi, x_inc 3 1, x_lda 0, x_dup, x_gi 2 11, x_ic 1, x_iadd, x_pi 2 11, x_go 4]
def k_MO_sidesTold_10 : List AI := [x_lda 0, x_lda 0, x_gi 2 11, x_pi 4 11, x_ldi 3, x_lda 0, x_ga 29 11, x_ic 0, x_ali, x_iceq 11, x_lda 0, x_ic 1, x_ldi 2, x_calv0 MO_fail 3 11, x_fall 11]
def k_MO_sidesTold_11 : List AI := [x_ldi 3, x_s1i 4, x_fall 12]
def k_MO_sidesTold_12 : List AI := [x_ldi 4, x_ic 12, x_icge 13, x_lda 0, x_ga 40 11, x_ic 12, x_ldi 1, x_imul, x_ldi 4, x_iadd, x_ic 0, x_asi, x_inc 4 1, x_go 12]
def k_MO_sidesTold_13 : List AI := [x_ret]
def kb_MO_sidesTold : List (List AI) := [k_MO_sidesTold_0, k_MO_sidesTold_1, k_MO_sidesTold_2, k_MO_sidesTold_3, k_MO_sidesTold_4, k_MO_sidesTold_5, k_MO_sidesTold_6, k_MO_sidesTold_7, k_MO_sidesTold_8, k_MO_sidesTold_9, k_MO_sidesTold_10, k_MO_sidesTold_11, k_MO_sidesTold_12, k_MO_sidesTold_13]
def k_MO_runTold_0 : List AI := [x_lda 0, x_ic 2, x_ic 8, x_ldi 1, x_calv MO_isFull 4 11, x_ifeq 1, x_ret]
def k_MO_runTold_1 : List AI := [x_lda 0, x_ga 29 11, x_ic 2, x_ali, x_s1i 2, x_lda 0, x_ldi 2, x_calv0 MO_sidesTold 2 11, x_lda 0, x_lda 0, x_ga 24 11, x_calv0 MO_asks 2 11, x_lda 0, x_ic 0, x_ic 3, x_calv MO_number 3 11, x_s1i 3, x_lda 0, x_lda 0, x_ga 25 11, x_calv0 MO_asks 2 11, x_lda 0, x_ic 99999, x_calv MO_signed 2 11, x_s1i 4, x_lda 0, x_gi 5 11, x_ifeq 2, x_ret]
def k_MO_runTold_2 : List AI := [x_lda 0, x_ga 41 11, x_ldi 2, x_ldi 3, x_asi, x_lda 0, x_ga 42 11, x_ldi 2, x_ldi 4, x_asi, x_lda 0, x_ga 29 11, x_ic 2, x_dup2, x_ali, x_ic 1, x_iadd, x_asi, x_ret]
def kb_MO_runTold : List (List AI) := [k_MO_runTold_0, k_MO_runTold_1, k_MO_runTold_2]
def k_MO_payTold_0 : List AI := [x_lda 0, x_ic 3, x_ic 12, x_ldi 1, x_calv MO_isFull 4 11, x_ifeq 1, x_ret]
def k_MO_payTold_1 : List AI := [x_lda 0, x_ic 1, x_ic 999, x_calv MO_number 3 11, x_s1i 2, x_lda 0, x_lda 0, x_ga 27 11, x_calv0 MO_asks 2 11, x_lda 0, x_ic 0, x_ic 999, x_calv MO_number 3 11, x_s1i 3, x_lda 0, x_gi 5 11, x_ifeq 2, x_ret]
def k_MO_payTold_2 : List AI := [x_lda 0, x_ga 43 11, x_lda 0, x_ga 29 11, x_ic 3, x_ali, x_ldi 2, x_asi, x_lda 0, x_ga 44 11, x_lda 0, x_ga 29 11, x_ic 3, x_ali, x_ldi 3, x_asi, x_lda 0, x_ga 29 11, x_ic 3, x_dup2, x_ali, x_ic 1, x_iadd, x_asi, x_ret]
def kb_MO_payTold : List (List AI) := [k_MO_payTold_0, k_MO_payTold_1, k_MO_payTold_2]
def k_MO_statementTold_0 : List AI := [x_lda 0, x_gi 2 11, x_s1i 1, x_lda 0, x_gi 45 11, x_ic 70, x_icne 1, x_lda 0, x_ic 5, x_ldi 1, x_calv0 MO_fail 3 11, x_ret]
def k_MO_statementTold_1 : List AI := [x_lda 0, x_lda 0, x_ga 11 11, x_calv MO_takes 2 11, x_ifeq 2, x_lda 0, x_ldi 1, x_calv0 MO_seatTold 2 11, x_go 9]
def k_MO_statementTold_2 : List AI := [x_lda 0, x_lda 0, x_ga 13 11, x_calv MO_takes 2 11, x_ifeq 3, x_lda 0, x_ldi 1, x_calv0 MO_rowerTold 2 11, x_go 9]
def k_MO_statementTold_3 : List AI := [x_lda 0, x_lda 0, x_ga 16 11, x_calv MO_takes 2 11, x_ifeq 4, x_lda 0, x_ga 36 11, x_ic 0, x_lda 0, x_ic 0, x_ic 12, x_calv MO_number 3 11, x_asi, x_go 9]
def k_MO_statementTold_4 : List AI := [x_lda 0, x_lda 0, x_ga 17 11, x_calv MO_takes 2 11, x_ifeq 5, x_lda 0, x_calv0 MO_fixTold 1 11, x_go 9]
def k_MO_statementTold_5 : List AI := [x_lda 0, x_lda 0, x_ga 20 11, x_calv MO_takes 2 11, x_ifeq 6, x_lda 0, x_calv0 MO_wantTold 1 11, x_go 9]
def k_MO_statementTold_6 : List AI := [x_lda 0, x_lda 0, x_ga 22 11, x_calv MO_takes 2 11, x_ifeq 7, x_lda 0, x_ga 37 11, x_ic 0, x_lda 0, x_ic 0, x_ic 9999, x_calv MO_number 3 11, x_asi, x_go 9]
def k_MO_statementTold_7 : List AI := [x_lda 0, x_lda 0, x_ga 23 11, x_calv MO_takes 2 11, x_ifeq 8, x_lda 0, x_ldi 1, x_calv0 MO_runTold 2 11, x_go 9]
def k_MO_statementTold_8 : List AI := [x_lda 0, x_lda 0, x_ga 26 11, x_calv0 MO_asks 2 11, x_lda 0, x_gi 5 11, x_ifne 9, x_lda 0, x_ldi 1, x_calv0 MO_payTold 2 11, x_fall 9]
def k_MO_statementTold_9 : List AI := [x_lda 0, x_ic 59, x_calv0 MO_asksSign 2 11, x_lda 0, x_dup, x_gi 45 11, x_ic 1, x_iadd, x_pi 45 11, x_ret]
def kb_MO_statementTold : List (List AI) := [k_MO_statementTold_0, k_MO_statementTold_1, k_MO_statementTold_2, k_MO_statementTold_3, k_MO_statementTold_4, k_MO_statementTold_5, k_MO_statementTold_6, k_MO_statementTold_7, k_MO_statementTold_8, k_MO_statementTold_9]
def k_MO_text_0 : List AI := [x_lda 0, x_lda 0, x_gi 1 11, x_pi 3 11, x_lda 0, x_ic 0, x_pi 1 11, x_lda 0, x_ic 0, x_pi 2 11, x_lda 0, x_ic (-1), x_pi 4 11, x_lda 0, x_ic 0, x_pi 5 11, x_lda 0, x_ic (-1), x_pi 6 11, x_lda 0, x_ic 0, x_pi 45 11, x_lda 0, x_ga 36 11, x_ic 0, x_ic (-1), x_asi, x_lda 0, x_ga 37 11, x_ic 0, x_ic 0, x_asi, x_ic 0, x_s1i 1, x_fall 1]
def k_MO_text_1 : List AI := [x_ldi 1, x_ic 4, x_icge 2, x_lda 0, x_ga 29 11, x_ldi 1, x_ic 0, x_asi, x_inc 1 1, x_go 1]
def k_MO_text_2 : List AI := [x_ic 0, x_s1i 1, x_fall 3]
def k_MO_text_3 : List AI := [x_ldi 1, x_ic 4, x_icge 4, x_lda 0, x_ga 38 11, x_ldi 1, x_ic 0, x_asi, x_inc 1 1, x_go 3]
def k_MO_text_4 : List AI := [x_lda 0, x_gi 5 11, x_ifne 5, x_lda 0, x_calv MO_look 1 11, x_ic (-1), x_iceq 5, x_lda 0, x_calv0 MO_statementTold 1 11, x_go 4]
def k_MO_text_5 : List AI := [x_lda 0, x_lda 0, x_gi 5 11, x_pi 7 11, x_lda 0, x_lda 0, x_gi 6 11, x_pi 8 11, x_lda 0, x_gi 5 11, x_ifeq 6, x_lda 0, x_ga 9 11, x_ic 1, x_dup2, x_ali, x_ic 1, x_iadd, x_asi, x_ic (-1), x_ri]
def k_MO_text_6 : List AI := [x_lda 0, x_calv0 MO_stands 1 11, x_lda 0, x_gi 45 11, x_ri]
def kb_MO_text : List (List AI) := [k_MO_text_0, k_MO_text_1, k_MO_text_2, k_MO_text_3, k_MO_text_4, k_MO_text_5, k_MO_text_6]
def k_MO_stands_0 : List AI := [x_ic 0, x_s1i 1, x_fall 1]
def k_MO_stands_1 : List AI := [x_ldi 1, x_ic 4, x_icge 2, x_lda 0, x_ga 29 11, x_ic 4, x_ldi 1, x_iadd, x_lda 0, x_ga 29 11, x_ldi 1, x_ali, x_asi, x_inc 1 1, x_go 1]
def k_MO_stands_2 : List AI := [x_ic 0, x_s1i 1, x_fall 3]
def k_MO_stands_3 : List AI := [x_ldi 1, x_ic 12, x_icge 4, x_lda 0, x_ga 30 11, x_ic 12, x_ldi 1, x_iadd, x_lda 0, x_ga 30 11, x_ldi 1, x_ali, x_asi, x_lda 0, x_ga 31 11, x_ic 12, x_ldi 1, x_iadd, x_lda 0, x_ga 31 11, x_ldi 1, x_ali, x_asi, x_lda 0, x_ga 32 11, x_ic 12, x_ldi 1, x_iadd, x_lda 0, x_ga 32 11, x_ldi 1, x_ali, x_asi, x_lda 0, x_ga 33 11, x_ic 12, x_ldi 1, x_iadd, x_lda 0, x_ga 33 11, x_ldi 1, x_all, x_asl, x_lda 0, x_ga 34 11, x_ic 12, x_ldi 1, x_iadd, x_lda 0, x_ga 34 11, x_ldi 1, x_ali, x_asi, x_lda 0, x_ga 35 11, x_ic 12, x_ldi 1, x_iadd, x_lda 0, x_ga 35 11, x_ldi 1, x_ali, x_asi, x_lda 0, x_ga 43 11, x_ic 12, x_ldi 1, x_iadd, x_lda 0, x_ga 43 11, x_ldi 1, x_ali, x_asi, x_lda 0, x_ga 44 11, x_ic 12, x_ldi 1, x_iadd, x_lda 0, x_ga 44 11, x_ldi 1, x_ali, x_asi, x_inc 1 1, x_go 3]
def k_MO_stands_4 : List AI := [x_lda 0, x_ga 36 11, x_ic 1, x_lda 0, x_ga 36 11, x_ic 0, x_ali, x_asi, x_lda 0, x_ga 37 11, x_ic 1, x_lda 0, x_ga 37 11, x_ic 0, x_ali, x_asi, x_ic 0, x_s1i 1, x_fall 5]
def k_MO_stands_5 : List AI := [x_ldi 1, x_ic 4, x_icge 6, x_lda 0, x_ga 38 11, x_ic 4, x_ldi 1, x_iadd, x_lda 0, x_ga 38 11, x_ldi 1, x_ali, x_asi, x_lda 0, x_ga 39 11, x_ic 4, x_ldi 1, x_iadd, x_lda 0, x_ga 39 11, x_ldi 1, x_ali, x_asi, x_inc 1 1, x_go 5]
def k_MO_stands_6 : List AI := [x_ic 0, x_s1i 1, x_fall 7]
def k_MO_stands_7 : List AI := [x_ldi 1, x_ic 96, x_icge 8, x_lda 0, x_ga 40 11, x_ic 96, x_ldi 1, x_iadd, x_lda 0, x_ga 40 11, x_ldi 1, x_ali, x_asi, x_inc 1 1, x_go 7]
def k_MO_stands_8 : List AI := [x_ic 0, x_s1i 1, x_fall 9]
def k_MO_stands_9 : List AI := [x_ldi 1, x_ic 8, x_icge 10, x_lda 0, x_ga 41 11, x_ic 8, x_ldi 1, x_iadd, x_lda 0, x_ga 41 11, x_ldi 1, x_ali, x_asi, x_lda 0, x_ga 42 11, x_ic 8, x_ldi 1, x_iadd, x_lda 0, x_ga 42 11, x_ldi 1, x_ali, x_asi, x_inc 1 1, x_go 9]
def k_MO_stands_10 : List AI := [x_lda 0, x_ic 1, x_pz 46 11, x_lda 0, x_ic 0, x_pi 47 11, x_lda 0, x_lc 0, x_pl 48 11, x_lda 0, x_ic 0, x_pi 49 11, x_ic 0, x_s1i 1, x_fall 11]
def k_MO_stands_11 : List AI := [x_ldi 1, x_ic 12, x_icge 19, x_lda 0, x_ga 50 11, x_ldi 1, x_ldi 1, x_lda 0, x_calv MO_seats 1 11, x_icge 12, x_ldi 1, x_lda 0, x_calv MO_rowers 1 11, x_icge 12, x_ldi 1, x_go 13]
def k_MO_stands_12 : List AI := [x_ic (-1), x_fall 13]
def k_MO_stands_13 : List AI := [x_asi, x_ldi 1, x_lda 0, x_calv MO_seats 1 11, x_icge 16, x_lda 0, x_ga 32 11, x_ic 12, x_ldi 1, x_iadd, x_ali, x_ifne 14, x_ldi 1, x_ic 2, x_irem, x_ic 1, x_icne 16, x_go 15]
def k_MO_stands_14 : List AI := [x_lda 0, x_ga 32 11, x_ic 12, x_ldi 1, x_iadd, x_ali, x_ic 2, x_icne 16, x_fall 15]
def k_MO_stands_15 : List AI := [x_ic 1, x_go 17]
def k_MO_stands_16 : List AI := [x_ic 0, x_fall 17]
def k_MO_stands_17 : List AI := [x_s1i 2, x_ldi 2, x_ifeq 18, x_lda 0, x_dup, x_gi 49 11, x_ic 1, x_ldi 1, x_ishl, x_ior, x_pi 49 11, x_fall 18]
def k_MO_stands_18 : List AI := [x_inc 1 1, x_go 11]
def k_MO_stands_19 : List AI := [x_lda 0, x_ic 0, x_pi 55 11, x_ret]
def kb_MO_stands : List (List AI) := [k_MO_stands_0, k_MO_stands_1, k_MO_stands_2, k_MO_stands_3, k_MO_stands_4, k_MO_stands_5, k_MO_stands_6, k_MO_stands_7, k_MO_stands_8, k_MO_stands_9, k_MO_stands_10, k_MO_stands_11, k_MO_stands_12, k_MO_stands_13, k_MO_stands_14, k_MO_stands_15, k_MO_stands_16, k_MO_stands_17, k_MO_stands_18, k_MO_stands_19]
def k_MO_fault_0 : List AI := [x_ldi 1, x_ifne 1, x_lda 0, x_gi 7 11, x_go 3]
def k_MO_fault_1 : List AI := [x_ldi 1, x_ic 1, x_icne 2, x_lda 0, x_gi 8 11, x_go 3]
def k_MO_fault_2 : List AI := [x_ic (-1), x_fall 3]
def k_MO_fault_3 : List AI := [x_ri]
def kb_MO_fault : List (List AI) := [k_MO_fault_0, k_MO_fault_1, k_MO_fault_2, k_MO_fault_3]
def k_MO_seats_0 : List AI := [x_lda 0, x_ga 29 11, x_ic 4, x_ali, x_ri]
def kb_MO_seats : List (List AI) := [k_MO_seats_0]
def k_MO_rowers_0 : List AI := [x_lda 0, x_ga 29 11, x_ic 5, x_ali, x_ri]
def kb_MO_rowers : List (List AI) := [k_MO_rowers_0]
def k_MO_runs_0 : List AI := [x_lda 0, x_ga 29 11, x_ic 6, x_ali, x_ri]
def kb_MO_runs : List (List AI) := [k_MO_runs_0]
def k_MO_each_0 : List AI := [x_lda 0, x_gi 46 11, x_ifeq 1, x_lda 0, x_ga 36 11, x_ic 1, x_ali, x_go 2]
def k_MO_each_1 : List AI := [x_ic (-1), x_fall 2]
def k_MO_each_2 : List AI := [x_ri]
def kb_MO_each : List (List AI) := [k_MO_each_0, k_MO_each_1, k_MO_each_2]
def k_MO_near_0 : List AI := [x_lda 0, x_ga 37 11, x_ic 1, x_ali, x_ri]
def kb_MO_near : List (List AI) := [k_MO_near_0]
def k_MO_isSeat_0 : List AI := [x_ldi 1, x_i2l, x_lc 0, x_lda 0, x_calv MO_seats 1 11, x_ic 1, x_isub, x_i2l, x_call MO_isIn 3, x_rz]
def kb_MO_isSeat : List (List AI) := [k_MO_isSeat_0]
def k_MO_isRower_0 : List AI := [x_ldi 1, x_i2l, x_lc 0, x_lda 0, x_calv MO_rowers 1 11, x_ic 1, x_isub, x_i2l, x_call MO_isIn 3, x_rz]
def kb_MO_isRower : List (List AI) := [k_MO_isRower_0]
def k_MO_isFixed_0 : List AI := [x_lda 0, x_ga 32 11, x_ic 12, x_ldi 1, x_iadd, x_ali, x_ifeq 1, x_ic 1, x_go 2]
def k_MO_isFixed_1 : List AI := [x_ic 0, x_fall 2]
def k_MO_isFixed_2 : List AI := [x_rz]
def kb_MO_isFixed : List (List AI) := [k_MO_isFixed_0, k_MO_isFixed_1, k_MO_isFixed_2]
def k_MO_strengthAt_0 : List AI := [x_lda 0, x_ga 34 11, x_ic 12, x_ldi 1, x_iadd, x_ali, x_lda 0, x_ga 35 11, x_ic 12, x_ldi 1, x_iadd, x_ali, x_ldi 2, x_ic 10, x_idiv, x_imul, x_isub, x_s1i 3, x_ldi 3, x_ifge 1, x_ic 0, x_go 2]
def k_MO_strengthAt_1 : List AI := [x_ldi 3, x_fall 2]
def k_MO_strengthAt_2 : List AI := [x_ri]
def kb_MO_strengthAt : List (List AI) := [k_MO_strengthAt_0, k_MO_strengthAt_1, k_MO_strengthAt_2]
def k_MO_pullOf_0 : List AI := [x_lda 0, x_ga 50 11, x_ldi 1, x_ali, x_ic (-1), x_icne 1, x_ic 0, x_go 2]
def k_MO_pullOf_1 : List AI := [x_lda 0, x_lda 0, x_ga 50 11, x_ldi 1, x_ali, x_ldi 2, x_calv MO_strengthAt 3 11, x_lda 0, x_ga 31 11, x_ic 12, x_ldi 1, x_iadd, x_ali, x_imul, x_fall 2]
def k_MO_pullOf_2 : List AI := [x_ri]
def kb_MO_pullOf : List (List AI) := [k_MO_pullOf_0, k_MO_pullOf_1, k_MO_pullOf_2]
def k_MO_raised_0 : List AI := [x_lc 1, x_s2 2, x_ic 0, x_s1i 4, x_fall 1]
def k_MO_raised_1 : List AI := [x_ldi 4, x_ldi 1, x_icge 2, x_ldl 2, x_ldi 0, x_i2l, x_lmul, x_s2 2, x_inc 4 1, x_go 1]
def k_MO_raised_2 : List AI := [x_ldl 2, x_rl]
def kb_MO_raised : List (List AI) := [k_MO_raised_0, k_MO_raised_1, k_MO_raised_2]
def k_MO_swingBy_0 : List AI := [x_lc 0, x_s2 4, x_ic 0, x_s1i 6, x_fall 1]
def k_MO_swingBy_1 : List AI := [x_ldi 6, x_lda 0, x_calv MO_seats 1 11, x_icge 4, x_lda 0, x_ldi 6, x_ldi 3, x_calv MO_pullOf 3 11, x_i2l, x_lda 0, x_ga 30 11, x_ic 12, x_ldi 6, x_iadd, x_ali, x_ldi 1, x_call MO_raised 2, x_lmul, x_s2 7, x_ldl 4, x_ldi 2, x_ldi 6, x_ishr, x_ic 1, x_iand, x_ic 1, x_icne 2, x_ldl 7, x_go 3]
def k_MO_swingBy_2 : List AI := [x_ldl 7, x_lneg, x_fall 3]
def k_MO_swingBy_3 : List AI := [x_ladd, x_s2 4, x_inc 6 1, x_go 1]
def k_MO_swingBy_4 : List AI := [x_ldl 4, x_rl]
def kb_MO_swingBy : List (List AI) := [k_MO_swingBy_0, k_MO_swingBy_1, k_MO_swingBy_2, k_MO_swingBy_3, k_MO_swingBy_4]
def k_MO_size_0 : List AI := [x_ldl 0, x_lc 0, x_lcmp, x_ifge 1, x_ldl 0, x_lneg, x_go 2]
def k_MO_size_1 : List AI := [x_ldl 0, x_fall 2]
def k_MO_size_2 : List AI := [x_rl]
def kb_MO_size : List (List AI) := [k_MO_size_0, k_MO_size_1, k_MO_size_2]
def k_MO_isWantedOf_0 : List AI := [x_lda 0, x_ga 38 11, x_ic 4, x_ldi 1, x_iadd, x_ali, x_ic 1, x_icne 1, x_ic 1, x_go 2]
def k_MO_isWantedOf_1 : List AI := [x_ic 0, x_fall 2]
def k_MO_isWantedOf_2 : List AI := [x_rz]
def kb_MO_isWantedOf : List (List AI) := [k_MO_isWantedOf_0, k_MO_isWantedOf_1, k_MO_isWantedOf_2]
def k_MO_offBy_0 : List AI := [x_lc 0, x_s2 2, x_ic 0, x_s1i 4, x_fall 1]
def k_MO_offBy_1 : List AI := [x_ldi 4, x_ic 4, x_icge 3, x_lda 0, x_ldi 4, x_calv MO_isWantedOf 2 11, x_ifeq 2, x_ldl 2, x_lda 0, x_ldi 4, x_ldi 1, x_lda 0, x_gi 47 11, x_calv MO_swingBy 4 11, x_lda 0, x_ga 39 11, x_ic 4, x_ldi 4, x_iadd, x_ali, x_i2l, x_lsub, x_call MO_size 1, x_ladd, x_s2 2, x_fall 2]
def k_MO_offBy_2 : List AI := [x_inc 4 1, x_go 1]
def k_MO_offBy_3 : List AI := [x_ldl 2, x_rl]
def kb_MO_offBy : List (List AI) := [k_MO_offBy_0, k_MO_offBy_1, k_MO_offBy_2, k_MO_offBy_3]
def k_MO_isGood_0 : List AI := [x_ic 0, x_s1i 2, x_fall 1]
def k_MO_isGood_1 : List AI := [x_ldi 2, x_ic 4, x_icge 3, x_lda 0, x_ldi 2, x_calv MO_isWantedOf 2 11, x_ifeq 2, x_lda 0, x_ldi 2, x_ldi 1, x_lda 0, x_gi 47 11, x_calv MO_swingBy 4 11, x_lda 0, x_ga 39 11, x_ic 4, x_ldi 2, x_iadd, x_ali, x_i2l, x_lsub, x_call MO_size 1, x_lda 0, x_calv MO_near 1 11, x_i2l, x_lcmp, x_ifle 2, x_ic 0, x_rz]
def k_MO_isGood_2 : List AI := [x_inc 2 1, x_go 1]
def k_MO_isGood_3 : List AI := [x_ic 1, x_rz]
def kb_MO_isGood : List (List AI) := [k_MO_isGood_0, k_MO_isGood_1, k_MO_isGood_2, k_MO_isGood_3]
def k_MO_bits_0 : List AI := [x_ic 0, x_s1i 1, x_ldi 0, x_s1i 2, x_fall 1]
def k_MO_bits_1 : List AI := [x_ldi 2, x_ifeq 2, x_inc 1 1, x_ldi 2, x_ldi 2, x_ic 1, x_isub, x_iand, x_s1i 2, x_go 1]
def k_MO_bits_2 : List AI := [x_ldi 1, x_ri]
def kb_MO_bits : List (List AI) := [k_MO_bits_0, k_MO_bits_1, k_MO_bits_2]
def k_MO_isLawful_0 : List AI := [x_lda 0, x_calv MO_each 1 11, x_ic (-1), x_iceq 1, x_lda 0, x_calv MO_seats 1 11, x_ldi 1, x_call MO_bits 1, x_isub, x_lda 0, x_calv MO_each 1 11, x_iceq 1, x_ic 0, x_rz]
def k_MO_isLawful_1 : List AI := [x_ic 0, x_s1i 2, x_fall 2]
def k_MO_isLawful_2 : List AI := [x_ldi 2, x_lda 0, x_calv MO_seats 1 11, x_icge 4, x_lda 0, x_ldi 2, x_calv MO_isFixed 2 11, x_ifeq 3, x_ldi 1, x_ldi 2, x_ishr, x_ic 1, x_iand, x_lda 0, x_ga 32 11, x_ic 12, x_ldi 2, x_iadd, x_ali, x_ic 1, x_isub, x_iceq 3, x_ic 0, x_rz]
def k_MO_isLawful_3 : List AI := [x_inc 2 1, x_go 2]
def k_MO_isLawful_4 : List AI := [x_ic 1, x_rz]
def kb_MO_isLawful : List (List AI) := [k_MO_isLawful_0, k_MO_isLawful_1, k_MO_isLawful_2, k_MO_isLawful_3, k_MO_isLawful_4]
def k_MO_fixedMany_0 : List AI := [x_ic 0, x_s1i 1, x_ic 0, x_s1i 2, x_fall 1]
def k_MO_fixedMany_1 : List AI := [x_ldi 2, x_lda 0, x_calv MO_seats 1 11, x_icge 3, x_lda 0, x_ldi 2, x_calv MO_isFixed 2 11, x_ifeq 2, x_inc 1 1, x_fall 2]
def k_MO_fixedMany_2 : List AI := [x_inc 2 1, x_go 1]
def k_MO_fixedMany_3 : List AI := [x_ldi 1, x_ri]
def kb_MO_fixedMany : List (List AI) := [k_MO_fixedMany_0, k_MO_fixedMany_1, k_MO_fixedMany_2, k_MO_fixedMany_3]
def k_MO_wants_0 : List AI := [x_ic 0, x_s1i 1, x_ic 0, x_s1i 2, x_fall 1]
def k_MO_wants_1 : List AI := [x_ldi 2, x_ic 4, x_icge 3, x_lda 0, x_ldi 2, x_calv MO_isWantedOf 2 11, x_ifeq 2, x_inc 1 1, x_fall 2]
def k_MO_wants_2 : List AI := [x_inc 2 1, x_go 1]
def k_MO_wants_3 : List AI := [x_ldi 1, x_ri]
def kb_MO_wants : List (List AI) := [k_MO_wants_0, k_MO_wants_1, k_MO_wants_2, k_MO_wants_3]
def k_MO_boat_0 : List AI := [x_ldi 1, x_sw 12 [(0, 1), (1, 2), (2, 3), (3, 4), (4, 5), (5, 6), (6, 7), (7, 8), (8, 9), (9, 10), (10, 11)]]
def k_MO_boat_1 : List AI := [x_lda 0, x_calv MO_seats 1 11, x_ri]
def k_MO_boat_2 : List AI := [x_lda 0, x_calv MO_rowers 1 11, x_ri]
def k_MO_boat_3 : List AI := [x_lda 0, x_calv MO_each 1 11, x_ri]
def k_MO_boat_4 : List AI := [x_lda 0, x_calv MO_fixedMany 1 11, x_ri]
def k_MO_boat_5 : List AI := [x_lda 0, x_calv MO_wants 1 11, x_ri]
def k_MO_boat_6 : List AI := [x_lda 0, x_calv MO_near 1 11, x_ri]
def k_MO_boat_7 : List AI := [x_lda 0, x_calv MO_runs 1 11, x_ri]
def k_MO_boat_8 : List AI := [x_lda 0, x_ga 29 11, x_ic 7, x_ali, x_ri]
def k_MO_boat_9 : List AI := [x_lda 0, x_gi 47 11, x_ri]
def k_MO_boat_10 : List AI := [x_lda 0, x_gi 55 11, x_ri]
def k_MO_boat_11 : List AI := [x_lda 0, x_calv MO_seats 1 11, x_lda 0, x_gi 49 11, x_call MO_bits 1, x_isub, x_ri]
def k_MO_boat_12 : List AI := [x_ic (-1), x_ri]
def kb_MO_boat : List (List AI) := [k_MO_boat_0, k_MO_boat_1, k_MO_boat_2, k_MO_boat_3, k_MO_boat_4, k_MO_boat_5, k_MO_boat_6, k_MO_boat_7, k_MO_boat_8, k_MO_boat_9, k_MO_boat_10, k_MO_boat_11, k_MO_boat_12]
def k_MO_letter_0 : List AI := [x_lda 0, x_ldi 1, x_calv MO_isRower 2 11, x_ifeq 1, x_ldi 2, x_i2l, x_lc 0, x_lc 5, x_call MO_isIn 3, x_ifne 2, x_fall 1]
def k_MO_letter_1 : List AI := [x_ic (-1), x_ri]
def k_MO_letter_2 : List AI := [x_lda 0, x_ga 33 11, x_ic 12, x_ldi 1, x_iadd, x_all, x_s2 3, x_ic 0, x_s1i 5, x_ldl 3, x_s2 6, x_fall 3]
def k_MO_letter_3 : List AI := [x_ldl 6, x_lc 0, x_lcmp, x_ifle 4, x_inc 5 1, x_ldl 6, x_lc 27, x_ldiv, x_s2 6, x_go 3]
def k_MO_letter_4 : List AI := [x_ldi 2, x_ldi 5, x_iclt 5, x_ic 0, x_ri]
def k_MO_letter_5 : List AI := [x_ldi 5, x_ic 1, x_isub, x_s1i 6, x_fall 6]
def k_MO_letter_6 : List AI := [x_ldi 6, x_ldi 2, x_icle 7, x_ldl 3, x_lc 27, x_ldiv, x_s2 3, x_inc 6 (-1), x_go 6]
def k_MO_letter_7 : List AI := [x_ldl 3, x_lc 27, x_lrem, x_l2i, x_ri]
def kb_MO_letter : List (List AI) := [k_MO_letter_0, k_MO_letter_1, k_MO_letter_2, k_MO_letter_3, k_MO_letter_4, k_MO_letter_5, k_MO_letter_6, k_MO_letter_7]
def k_MO_seat_0 : List AI := [x_lda 0, x_ldi 1, x_calv MO_isSeat 2 11, x_ifne 1, x_ic (-1), x_ri]
def k_MO_seat_1 : List AI := [x_ldi 2, x_sw 10 [(0, 2), (1, 3), (2, 4), (3, 5), (4, 6), (5, 9)]]
def k_MO_seat_2 : List AI := [x_lda 0, x_ga 30 11, x_ic 12, x_ldi 1, x_iadd, x_ali, x_ri]
def k_MO_seat_3 : List AI := [x_lda 0, x_ga 31 11, x_ic 12, x_ldi 1, x_iadd, x_ali, x_ri]
def k_MO_seat_4 : List AI := [x_lda 0, x_ga 50 11, x_ldi 1, x_ali, x_ri]
def k_MO_seat_5 : List AI := [x_lda 0, x_gi 49 11, x_ldi 1, x_ishr, x_ic 1, x_iand, x_ri]
def k_MO_seat_6 : List AI := [x_lda 0, x_ldi 1, x_calv MO_isFixed 2 11, x_ifeq 7, x_ic 1, x_go 8]
def k_MO_seat_7 : List AI := [x_ic 0, x_fall 8]
def k_MO_seat_8 : List AI := [x_ri]
def k_MO_seat_9 : List AI := [x_lda 0, x_ldi 1, x_lda 0, x_gi 47 11, x_calv MO_pullOf 3 11, x_ri]
def k_MO_seat_10 : List AI := [x_ic (-1), x_ri]
def kb_MO_seat : List (List AI) := [k_MO_seat_0, k_MO_seat_1, k_MO_seat_2, k_MO_seat_3, k_MO_seat_4, k_MO_seat_5, k_MO_seat_6, k_MO_seat_7, k_MO_seat_8, k_MO_seat_9, k_MO_seat_10]
def k_MO_seatOf_0 : List AI := [x_ic 0, x_s1i 2, x_fall 1]
def k_MO_seatOf_1 : List AI := [x_ldi 2, x_lda 0, x_calv MO_seats 1 11, x_icge 3, x_lda 0, x_ga 50 11, x_ldi 2, x_ali, x_ldi 1, x_icne 2, x_ldi 2, x_ri]
def k_MO_seatOf_2 : List AI := [x_inc 2 1, x_go 1]
def k_MO_seatOf_3 : List AI := [x_ic (-1), x_ri]
def kb_MO_seatOf : List (List AI) := [k_MO_seatOf_0, k_MO_seatOf_1, k_MO_seatOf_2, k_MO_seatOf_3]
def k_MO_rower_0 : List AI := [x_lda 0, x_ldi 1, x_calv MO_isRower 2 11, x_ifne 1, x_ic (-1), x_ri]
def k_MO_rower_1 : List AI := [x_ldi 2, x_sw 6 [(0, 2), (1, 3), (2, 4), (3, 5)]]
def k_MO_rower_2 : List AI := [x_lda 0, x_ga 34 11, x_ic 12, x_ldi 1, x_iadd, x_ali, x_ri]
def k_MO_rower_3 : List AI := [x_lda 0, x_ga 35 11, x_ic 12, x_ldi 1, x_iadd, x_ali, x_ri]
def k_MO_rower_4 : List AI := [x_lda 0, x_ldi 1, x_lda 0, x_gi 47 11, x_calv MO_strengthAt 3 11, x_ri]
def k_MO_rower_5 : List AI := [x_lda 0, x_ldi 1, x_calv MO_seatOf 2 11, x_ri]
def k_MO_rower_6 : List AI := [x_ic (-1), x_ri]
def kb_MO_rower : List (List AI) := [k_MO_rower_0, k_MO_rower_1, k_MO_rower_2, k_MO_rower_3, k_MO_rower_4, k_MO_rower_5, k_MO_rower_6]
def k_MO_isPower_0 : List AI := [x_ldi 0, x_i2l, x_lc 0, x_lc 3, x_call MO_isIn 3, x_rz]
def kb_MO_isPower : List (List AI) := [k_MO_isPower_0]
def k_MO_want_0 : List AI := [x_ldi 1, x_call MO_isPower 1, x_ifeq 1, x_lda 0, x_ldi 1, x_calv MO_isWantedOf 2 11, x_ifeq 1, x_lda 0, x_ga 39 11, x_ic 4, x_ldi 1, x_iadd, x_ali, x_i2l, x_go 2]
def k_MO_want_1 : List AI := [x_lc (-1000000000000000), x_fall 2]
def k_MO_want_2 : List AI := [x_rl]
def kb_MO_want : List (List AI) := [k_MO_want_0, k_MO_want_1, k_MO_want_2]
def k_MO_swing_0 : List AI := [x_ldi 1, x_call MO_isPower 1, x_ifeq 1, x_ldi 2, x_i2l, x_lc 0, x_lc 9999, x_call MO_isIn 3, x_ifeq 1, x_lda 0, x_ldi 1, x_lda 0, x_gi 49 11, x_ldi 2, x_calv MO_swingBy 4 11, x_go 2]
def k_MO_swing_1 : List AI := [x_lc (-1000000000000000), x_fall 2]
def k_MO_swing_2 : List AI := [x_rl]
def kb_MO_swing : List (List AI) := [k_MO_swing_0, k_MO_swing_1, k_MO_swing_2]
def k_MO_off_0 : List AI := [x_lda 0, x_lda 0, x_gi 49 11, x_calv MO_offBy 2 11, x_rl]
def kb_MO_off : List (List AI) := [k_MO_off_0]
def k_MO_good_0 : List AI := [x_lda 0, x_lda 0, x_gi 49 11, x_calv MO_isGood 2 11, x_ifeq 1, x_ic 1, x_go 2]
def k_MO_good_1 : List AI := [x_ic 0, x_fall 2]
def k_MO_good_2 : List AI := [x_ri]
def kb_MO_good : List (List AI) := [k_MO_good_0, k_MO_good_1, k_MO_good_2]
def k_MO_lawful_0 : List AI := [x_lda 0, x_lda 0, x_gi 49 11, x_calv MO_isLawful 2 11, x_ifeq 1, x_ic 1, x_go 2]
def k_MO_lawful_1 : List AI := [x_ic 0, x_fall 2]
def k_MO_lawful_2 : List AI := [x_ri]
def kb_MO_lawful : List (List AI) := [k_MO_lawful_0, k_MO_lawful_1, k_MO_lawful_2]
def k_MO_heading_0 : List AI := [x_lda 0, x_gl 48 11, x_rl]
def kb_MO_heading : List (List AI) := [k_MO_heading_0]
def k_MO_keeps_0 : List AI := [x_lda 0, x_lda 0, x_gi 56 11, x_ic 1, x_iadd, x_ic 30, x_irem, x_pi 56 11, x_lda 0, x_ga 51 11, x_lda 0, x_gi 56 11, x_lda 0, x_gi 47 11, x_asi, x_lda 0, x_ga 52 11, x_lda 0, x_gi 56 11, x_lda 0, x_gl 48 11, x_asl, x_lda 0, x_ga 53 11, x_lda 0, x_gi 56 11, x_lda 0, x_gi 49 11, x_asi, x_ic 0, x_s1i 1, x_fall 1]
def k_MO_keeps_1 : List AI := [x_ldi 1, x_ic 12, x_icge 2, x_lda 0, x_ga 54 11, x_ic 12, x_lda 0, x_gi 56 11, x_imul, x_ldi 1, x_iadd, x_lda 0, x_ga 50 11, x_ldi 1, x_ali, x_asi, x_inc 1 1, x_go 1]
def k_MO_keeps_2 : List AI := [x_lda 0, x_gi 55 11, x_ic 30, x_icge 3, x_lda 0, x_dup, x_gi 55 11, x_ic 1, x_iadd, x_pi 55 11, x_fall 3]
def k_MO_keeps_3 : List AI := [x_ret]
def kb_MO_keeps : List (List AI) := [k_MO_keeps_0, k_MO_keeps_1, k_MO_keeps_2, k_MO_keeps_3]
def k_MO_undo_0 : List AI := [x_lda 0, x_gi 55 11, x_ifne 1, x_lda 0, x_ga 9 11, x_ic 3, x_dup2, x_ali, x_ic 1, x_iadd, x_asi, x_ic 0, x_rz]
def k_MO_undo_1 : List AI := [x_lda 0, x_lda 0, x_ga 51 11, x_lda 0, x_gi 56 11, x_ali, x_pi 47 11, x_lda 0, x_lda 0, x_ga 52 11, x_lda 0, x_gi 56 11, x_all, x_pl 48 11, x_lda 0, x_lda 0, x_ga 53 11, x_lda 0, x_gi 56 11, x_ali, x_pi 49 11, x_ic 0, x_s1i 1, x_fall 2]
def k_MO_undo_2 : List AI := [x_ldi 1, x_ic 12, x_icge 3, x_lda 0, x_ga 50 11, x_ldi 1, x_lda 0, x_ga 54 11, x_ic 12, x_lda 0, x_gi 56 11, x_imul, x_ldi 1, x_iadd, x_ali, x_asi, x_inc 1 1, x_go 2]
def k_MO_undo_3 : List AI := [x_lda 0, x_lda 0, x_gi 56 11, x_ic 30, x_iadd, x_ic 1, x_isub, x_ic 30, x_irem, x_pi 56 11, x_lda 0, x_dup, x_gi 55 11, x_ic 1, x_isub, x_pi 55 11, x_ic 1, x_rz]
def kb_MO_undo : List (List AI) := [k_MO_undo_0, k_MO_undo_1, k_MO_undo_2, k_MO_undo_3]
def k_MO_turn_0 : List AI := [x_lda 0, x_ldi 1, x_calv MO_isSeat 2 11, x_ifeq 1, x_lda 0, x_ldi 1, x_calv MO_isFixed 2 11, x_ifeq 2, x_fall 1]
def k_MO_turn_1 : List AI := [x_lda 0, x_ga 9 11, x_ic 2, x_dup2, x_ali, x_ic 1, x_iadd, x_asi, x_ic 0, x_rz]
def k_MO_turn_2 : List AI := [x_lda 0, x_calv0 MO_keeps 1 11, x_lda 0, x_dup, x_gi 49 11, x_ic 1, x_ldi 1, x_ishl, x_ixor, x_pi 49 11, x_ic 1, x_rz]
def kb_MO_turn : List (List AI) := [k_MO_turn_0, k_MO_turn_1, k_MO_turn_2]
def k_MO_changesSeats_0 : List AI := [x_lda 0, x_ga 50 11, x_ldi 1, x_ali, x_s1i 3, x_lda 0, x_ga 50 11, x_ldi 1, x_lda 0, x_ga 50 11, x_ldi 2, x_ali, x_asi, x_lda 0, x_ga 50 11, x_ldi 2, x_ldi 3, x_asi, x_ret]
def kb_MO_changesSeats : List (List AI) := [k_MO_changesSeats_0]
def k_MO_canSwap_0 : List AI := [x_lda 0, x_ldi 1, x_calv MO_isSeat 2 11, x_ifeq 2, x_lda 0, x_ldi 2, x_calv MO_isSeat 2 11, x_ifeq 2, x_ldi 1, x_ldi 2, x_iceq 2, x_lda 0, x_ga 50 11, x_ldi 1, x_ali, x_ic (-1), x_icne 1, x_lda 0, x_ga 50 11, x_ldi 2, x_ali, x_ic (-1), x_iceq 2, x_fall 1]
def k_MO_canSwap_1 : List AI := [x_ic 1, x_go 3]
def k_MO_canSwap_2 : List AI := [x_ic 0, x_fall 3]
def k_MO_canSwap_3 : List AI := [x_rz]
def kb_MO_canSwap : List (List AI) := [k_MO_canSwap_0, k_MO_canSwap_1, k_MO_canSwap_2, k_MO_canSwap_3]
def k_MO_swap_0 : List AI := [x_lda 0, x_ldi 1, x_ldi 2, x_calv MO_canSwap 3 11, x_ifne 1, x_lda 0, x_ga 9 11, x_ic 2, x_dup2, x_ali, x_ic 1, x_iadd, x_asi, x_ic 0, x_rz]
def k_MO_swap_1 : List AI := [x_lda 0, x_calv0 MO_keeps 1 11, x_lda 0, x_ldi 1, x_ldi 2, x_calv0 MO_changesSeats 3 11, x_ic 1, x_rz]
def kb_MO_swap : List (List AI) := [k_MO_swap_0, k_MO_swap_1]
def k_MO_canGo_0 : List AI := [x_ldi 1, x_i2l, x_lc 1, x_lc 200, x_call MO_isIn 3, x_ifeq 1, x_lda 0, x_gi 47 11, x_ldi 1, x_iadd, x_ic 9999, x_icgt 1, x_ic 1, x_go 2]
def k_MO_canGo_1 : List AI := [x_ic 0, x_fall 2]
def k_MO_canGo_2 : List AI := [x_rz]
def kb_MO_canGo : List (List AI) := [k_MO_canGo_0, k_MO_canGo_1, k_MO_canGo_2]
def k_MO_stroke_0 : List AI := [x_lda 0, x_ldi 1, x_calv MO_canGo 2 11, x_ifne 1, x_lda 0, x_ga 9 11, x_ic 2, x_dup2, x_ali, x_ic 1, x_iadd, x_asi, x_ic (-1), x_ri]
def k_MO_stroke_1 : List AI := [x_lda 0, x_calv0 MO_keeps 1 11, x_lda 0, x_dup, x_gi 47 11, x_ldi 1, x_iadd, x_pi 47 11, x_lda 0, x_gi 47 11, x_ri]
def kb_MO_stroke : List (List AI) := [k_MO_stroke_0, k_MO_stroke_1]
def k_MO_seed_0 : List AI := [x_ldi 1, x_ifge 1, x_lda 0, x_ga 9 11, x_ic 4, x_dup2, x_ali, x_ic 1, x_iadd, x_asi, x_ic 0, x_rz]
def k_MO_seed_1 : List AI := [x_lda 0, x_ldi 1, x_i2l, x_pl 57 11, x_ic 1, x_rz]
def kb_MO_seed : List (List AI) := [k_MO_seed_0, k_MO_seed_1]
def k_MO_drawOf_0 : List AI := [x_lda 0, x_lc 1103515245, x_lda 0, x_gl 57 11, x_lmul, x_lc 12345, x_ladd, x_lc 2147483648, x_lrem, x_pl 57 11, x_lda 0, x_gl 57 11, x_lc 64, x_ldiv, x_ldi 1, x_i2l, x_lrem, x_l2i, x_ri]
def kb_MO_drawOf : List (List AI) := [k_MO_drawOf_0]
def k_MO_rows_0 : List AI := [x_lda 0, x_dup, x_gi 47 11, x_ic 1, x_iadd, x_pi 47 11, x_ic 0, x_s1i 1, x_fall 1]
def k_MO_rows_1 : List AI := [x_ldi 1, x_lda 0, x_calv MO_seats 1 11, x_icge 8, x_lda 0, x_ga 50 11, x_ldi 1, x_ali, x_ic (-1), x_icne 2, x_go 7]
def k_MO_rows_2 : List AI := [x_lda 0, x_lda 0, x_ga 50 11, x_ldi 1, x_ali, x_lda 0, x_gi 47 11, x_calv MO_strengthAt 3 11, x_lda 0, x_ic 3, x_calv MO_drawOf 2 11, x_iadd, x_ic 1, x_isub, x_s1i 2, x_ldi 2, x_ifge 3, x_lc 0, x_go 4]
def k_MO_rows_3 : List AI := [x_ldi 2, x_i2l, x_fall 4]
def k_MO_rows_4 : List AI := [x_lda 0, x_ga 31 11, x_ic 12, x_ldi 1, x_iadd, x_ali, x_i2l, x_lmul, x_lda 0, x_ga 30 11, x_ic 12, x_ldi 1, x_iadd, x_ali, x_i2l, x_lmul, x_s2 3, x_lda 0, x_dup, x_gl 48 11, x_lda 0, x_gi 49 11, x_ldi 1, x_ishr, x_ic 1, x_iand, x_ic 1, x_icne 5, x_ldl 3, x_go 6]
def k_MO_rows_5 : List AI := [x_ldl 3, x_lneg, x_fall 6]
def k_MO_rows_6 : List AI := [x_ladd, x_pl 48 11, x_fall 7]
def k_MO_rows_7 : List AI := [x_inc 1 1, x_go 1]
def k_MO_rows_8 : List AI := [x_ret]
def kb_MO_rows : List (List AI) := [k_MO_rows_0, k_MO_rows_1, k_MO_rows_2, k_MO_rows_3, k_MO_rows_4, k_MO_rows_5, k_MO_rows_6, k_MO_rows_7, k_MO_rows_8]
def k_MO_row_0 : List AI := [x_lda 0, x_ldi 1, x_calv MO_canGo 2 11, x_ifne 1, x_lda 0, x_ga 9 11, x_ic 2, x_dup2, x_ali, x_ic 1, x_iadd, x_asi, x_lc (-1000000000000000), x_rl]
def k_MO_row_1 : List AI := [x_lda 0, x_calv0 MO_keeps 1 11, x_ic 0, x_s1i 2, x_fall 2]
def k_MO_row_2 : List AI := [x_ldi 2, x_ldi 1, x_icge 3, x_lda 0, x_calv0 MO_rows 1 11, x_inc 2 1, x_go 2]
def k_MO_row_3 : List AI := [x_lda 0, x_gl 48 11, x_rl]
def kb_MO_row : List (List AI) := [k_MO_row_0, k_MO_row_1, k_MO_row_2, k_MO_row_3]
def k_MO_ways_0 : List AI := [x_ldi 1, x_i2l, x_lc 1, x_lc 40, x_call MO_isIn 3, x_ifne 1, x_lc (-1), x_rl]
def k_MO_ways_1 : List AI := [x_ldi 1, x_ldi 1, x_ic 1, x_iadd, x_imul, x_ic 2, x_idiv, x_s1i 2, x_ldi 1, x_ic 2, x_irem, x_ic 1, x_iceq 2, x_ldi 2, x_ic 2, x_irem, x_ic 1, x_icne 3, x_fall 2]
def k_MO_ways_2 : List AI := [x_lc 0, x_rl]
def k_MO_ways_3 : List AI := [x_ldi 2, x_ic 2, x_idiv, x_s1i 3, x_ic 0, x_s1i 4, x_fall 4]
def k_MO_ways_4 : List AI := [x_ldi 4, x_ic 8631, x_icge 5, x_lda 0, x_ga 58 11, x_ldi 4, x_lc 0, x_asl, x_inc 4 1, x_go 4]
def k_MO_ways_5 : List AI := [x_lda 0, x_ga 58 11, x_ic 0, x_lc 1, x_asl, x_ic 1, x_s1i 4, x_fall 6]
def k_MO_ways_6 : List AI := [x_ldi 4, x_ldi 1, x_icgt 11, x_ldi 1, x_ic 2, x_idiv, x_s1i 5, x_fall 7]
def k_MO_ways_7 : List AI := [x_ldi 5, x_ifle 10, x_ldi 3, x_s1i 6, x_fall 8]
def k_MO_ways_8 : List AI := [x_ldi 6, x_ldi 4, x_iclt 9, x_lda 0, x_ga 58 11, x_ic 411, x_ldi 5, x_imul, x_ldi 6, x_iadd, x_dup2, x_all, x_lda 0, x_ga 58 11, x_ic 411, x_ldi 5, x_ic 1, x_isub, x_imul, x_ldi 6, x_iadd, x_ldi 4, x_isub, x_all, x_ladd, x_asl, x_inc 6 (-1), x_go 8]
def k_MO_ways_9 : List AI := [x_inc 5 (-1), x_go 7]
def k_MO_ways_10 : List AI := [x_inc 4 1, x_go 6]
def k_MO_ways_11 : List AI := [x_lda 0, x_ga 58 11, x_ic 411, x_ldi 1, x_ic 2, x_idiv, x_imul, x_ldi 3, x_iadd, x_all, x_rl]
def kb_MO_ways : List (List AI) := [k_MO_ways_0, k_MO_ways_1, k_MO_ways_2, k_MO_ways_3, k_MO_ways_4, k_MO_ways_5, k_MO_ways_6, k_MO_ways_7, k_MO_ways_8, k_MO_ways_9, k_MO_ways_10, k_MO_ways_11]
def k_MO_sumBy_0 : List AI := [x_lc 0, x_s2 3, x_ic 0, x_s1i 5, x_fall 1]
def k_MO_sumBy_1 : List AI := [x_ldi 5, x_ldi 0, x_icge 4, x_ldl 3, x_ldi 1, x_ldi 5, x_ishr, x_ic 1, x_iand, x_ic 1, x_icne 2, x_ldi 5, x_ic 1, x_iadd, x_ldi 2, x_call MO_raised 2, x_go 3]
def k_MO_sumBy_2 : List AI := [x_ldi 5, x_ic 1, x_iadd, x_ldi 2, x_call MO_raised 2, x_lneg, x_fall 3]
def k_MO_sumBy_3 : List AI := [x_ladd, x_s2 3, x_inc 5 1, x_go 1]
def k_MO_sumBy_4 : List AI := [x_ldl 3, x_rl]
def kb_MO_sumBy : List (List AI) := [k_MO_sumBy_0, k_MO_sumBy_1, k_MO_sumBy_2, k_MO_sumBy_3, k_MO_sumBy_4]
def k_MO_made_0 : List AI := [x_ldi 1, x_i2l, x_lc 1, x_lc 16, x_call MO_isIn 3, x_ifeq 1, x_ldi 2, x_ifge 2, x_fall 1]
def k_MO_made_1 : List AI := [x_ic (-1), x_ri]
def k_MO_made_2 : List AI := [x_ic 0, x_s1i 3, x_ic 0, x_s1i 4, x_fall 3]
def k_MO_made_3 : List AI := [x_ldi 4, x_ic 1, x_ldi 1, x_ishl, x_icge 7, x_ldi 1, x_ldi 4, x_ic 0, x_call MO_sumBy 3, x_lc 0, x_lcmp, x_ifne 6, x_ldi 1, x_ldi 4, x_ic 1, x_call MO_sumBy 3, x_lc 0, x_lcmp, x_ifeq 4, x_go 6]
def k_MO_made_4 : List AI := [x_ldi 3, x_ldi 2, x_icne 5, x_ldi 4, x_ri]
def k_MO_made_5 : List AI := [x_inc 3 1, x_fall 6]
def k_MO_made_6 : List AI := [x_inc 4 1, x_go 3]
def k_MO_made_7 : List AI := [x_ic (-1), x_ri]
def kb_MO_made : List (List AI) := [k_MO_made_0, k_MO_made_1, k_MO_made_2, k_MO_made_3, k_MO_made_4, k_MO_made_5, k_MO_made_6, k_MO_made_7]
def k_MO_doubled_0 : List AI := [x_ldi 1, x_i2l, x_lc 1, x_lc 10, x_call MO_isIn 3, x_ifeq 1, x_ldi 2, x_i2l, x_lc 0, x_lc 5, x_call MO_isIn 3, x_ifne 2, x_fall 1]
def k_MO_doubled_1 : List AI := [x_lc (-1000000000000000), x_rl]
def k_MO_doubled_2 : List AI := [x_lc 0, x_s2 3, x_ic 0, x_s1i 5, x_fall 3]
def k_MO_doubled_3 : List AI := [x_ldi 5, x_ic 1, x_ldi 1, x_ishl, x_icge 6, x_ldl 3, x_ldi 5, x_call MO_bits 1, x_ic 2, x_irem, x_ic 1, x_icne 4, x_ldi 5, x_ic 1, x_iadd, x_ldi 2, x_call MO_raised 2, x_go 5]
def k_MO_doubled_4 : List AI := [x_ldi 5, x_ic 1, x_iadd, x_ldi 2, x_call MO_raised 2, x_lneg, x_fall 5]
def k_MO_doubled_5 : List AI := [x_ladd, x_s2 3, x_inc 5 1, x_go 3]
def k_MO_doubled_6 : List AI := [x_ldl 3, x_rl]
def kb_MO_doubled : List (List AI) := [k_MO_doubled_0, k_MO_doubled_1, k_MO_doubled_2, k_MO_doubled_3, k_MO_doubled_4, k_MO_doubled_5, k_MO_doubled_6]
def k_MO_still_0 : List AI := [x_ldi 1, x_i2l, x_lc 1, x_lc 16, x_call MO_isIn 3, x_ifeq 1, x_ldi 2, x_i2l, x_lc 0, x_ic 1, x_ldi 1, x_ishl, x_ic 1, x_isub, x_i2l, x_call MO_isIn 3, x_ifne 2, x_fall 1]
def k_MO_still_1 : List AI := [x_ic (-1), x_ri]
def k_MO_still_2 : List AI := [x_ic 0, x_s1i 3, x_fall 3]
def k_MO_still_3 : List AI := [x_ldi 3, x_ic 5, x_icgt 4, x_ldi 1, x_ldi 2, x_ldi 3, x_call MO_sumBy 3, x_lc 0, x_lcmp, x_ifne 4, x_inc 3 1, x_go 3]
def k_MO_still_4 : List AI := [x_ldi 3, x_ic 1, x_isub, x_ri]
def kb_MO_still : List (List AI) := [k_MO_still_0, k_MO_still_1, k_MO_still_2, k_MO_still_3, k_MO_still_4]
def k_MO_isNearest_0 : List AI := [x_lda 0, x_ic (-1), x_pi 59 11, x_ic 0, x_s1i 1, x_fall 1]
def k_MO_isNearest_1 : List AI := [x_ldi 1, x_ic 1, x_lda 0, x_calv MO_seats 1 11, x_ishl, x_icge 5, x_lda 0, x_ldi 1, x_calv MO_isLawful 2 11, x_ifne 2, x_go 4]
def k_MO_isNearest_2 : List AI := [x_lda 0, x_ldi 1, x_calv MO_offBy 2 11, x_s2 2, x_lda 0, x_gi 59 11, x_ic (-1), x_iceq 3, x_ldl 2, x_lda 0, x_gl 60 11, x_lcmp, x_iflt 3, x_go 4]
def k_MO_isNearest_3 : List AI := [x_lda 0, x_ldi 1, x_pi 59 11, x_lda 0, x_ldl 2, x_pl 60 11, x_fall 4]
def k_MO_isNearest_4 : List AI := [x_inc 1 1, x_go 1]
def k_MO_isNearest_5 : List AI := [x_lda 0, x_gi 59 11, x_ic (-1), x_iceq 6, x_ic 1, x_go 7]
def k_MO_isNearest_6 : List AI := [x_ic 0, x_fall 7]
def k_MO_isNearest_7 : List AI := [x_rz]
def kb_MO_isNearest : List (List AI) := [k_MO_isNearest_0, k_MO_isNearest_1, k_MO_isNearest_2, k_MO_isNearest_3, k_MO_isNearest_4, k_MO_isNearest_5, k_MO_isNearest_6, k_MO_isNearest_7]
def k_MO_nearest_0 : List AI := [x_ldi 1, x_i2l, x_lc 0, x_lc 2, x_call MO_isIn 3, x_ifeq 1, x_lda 0, x_calv MO_isNearest 1 11, x_ifne 2, x_fall 1]
def k_MO_nearest_1 : List AI := [x_lc (-1), x_rl]
def k_MO_nearest_2 : List AI := [x_ldi 1, x_ic 2, x_icge 5, x_ldi 1, x_ifne 3, x_lda 0, x_gl 60 11, x_go 4]
def k_MO_nearest_3 : List AI := [x_lda 0, x_gi 59 11, x_i2l, x_fall 4]
def k_MO_nearest_4 : List AI := [x_rl]
def k_MO_nearest_5 : List AI := [x_ic 0, x_s1i 2, x_ic 0, x_s1i 3, x_fall 6]
def k_MO_nearest_6 : List AI := [x_ldi 3, x_ic 1, x_lda 0, x_calv MO_seats 1 11, x_ishl, x_icge 8, x_lda 0, x_ldi 3, x_calv MO_isLawful 2 11, x_ifeq 7, x_lda 0, x_ldi 3, x_calv MO_isGood 2 11, x_ifeq 7, x_inc 2 1, x_fall 7]
def k_MO_nearest_7 : List AI := [x_inc 3 1, x_go 6]
def k_MO_nearest_8 : List AI := [x_ldi 2, x_i2l, x_rl]
def kb_MO_nearest : List (List AI) := [k_MO_nearest_0, k_MO_nearest_1, k_MO_nearest_2, k_MO_nearest_3, k_MO_nearest_4, k_MO_nearest_5, k_MO_nearest_6, k_MO_nearest_7, k_MO_nearest_8]
def k_MO_putsAside_0 : List AI := [x_ic 0, x_s1i 1, x_fall 1]
def k_MO_putsAside_1 : List AI := [x_ldi 1, x_ic 12, x_icge 2, x_lda 0, x_ga 61 11, x_ldi 1, x_lda 0, x_ga 50 11, x_ldi 1, x_ali, x_asi, x_inc 1 1, x_go 1]
def k_MO_putsAside_2 : List AI := [x_ret]
def kb_MO_putsAside : List (List AI) := [k_MO_putsAside_0, k_MO_putsAside_1, k_MO_putsAside_2]
def k_MO_takesBack_0 : List AI := [x_ic 0, x_s1i 1, x_fall 1]
def k_MO_takesBack_1 : List AI := [x_ldi 1, x_ic 12, x_icge 2, x_lda 0, x_ga 50 11, x_ldi 1, x_lda 0, x_ga 61 11, x_ldi 1, x_ali, x_asi, x_inc 1 1, x_go 1]
def k_MO_takesBack_2 : List AI := [x_ret]
def kb_MO_takesBack : List (List AI) := [k_MO_takesBack_0, k_MO_takesBack_1, k_MO_takesBack_2]
def k_MO_sitBy_0 : List AI := [x_ldi 1, x_s1i 2, x_ic 0, x_s1i 3, x_lda 0, x_calv MO_rowers 1 11, x_ic 1, x_isub, x_s1i 4, x_fall 1]
def k_MO_sitBy_1 : List AI := [x_ldi 4, x_iflt 2, x_lda 0, x_ga 50 11, x_ldi 4, x_ldi 2, x_lda 0, x_calv MO_rowers 1 11, x_irem, x_asi, x_ldi 2, x_lda 0, x_calv MO_rowers 1 11, x_idiv, x_s1i 2, x_ldi 3, x_ic 1, x_lda 0, x_ga 50 11, x_ldi 4, x_ali, x_ishl, x_ior, x_s1i 3, x_inc 4 (-1), x_go 1]
def k_MO_sitBy_2 : List AI := [x_ldi 3, x_ic 1, x_lda 0, x_calv MO_rowers 1 11, x_ishl, x_ic 1, x_isub, x_icne 3, x_ic 1, x_go 4]
def k_MO_sitBy_3 : List AI := [x_ic 0, x_fall 4]
def k_MO_sitBy_4 : List AI := [x_rz]
def kb_MO_sitBy : List (List AI) := [k_MO_sitBy_0, k_MO_sitBy_1, k_MO_sitBy_2, k_MO_sitBy_3, k_MO_sitBy_4]
def k_MO_seated_0 : List AI := [x_lda 0, x_calv MO_seats 1 11, x_s1i 2, x_ldi 2, x_lda 0, x_calv MO_rowers 1 11, x_icne 1, x_ldi 2, x_ic 5, x_icgt 1, x_ldi 1, x_i2l, x_lc (-1), x_ldi 2, x_ic 1, x_isub, x_i2l, x_call MO_isIn 3, x_ifne 2, x_ldi 1, x_ic 20, x_iceq 2, x_fall 1]
def k_MO_seated_1 : List AI := [x_lc (-1), x_rl]
def k_MO_seated_2 : List AI := [x_ic 1, x_s1i 3, x_ic 0, x_s1i 4, x_fall 3]
def k_MO_seated_3 : List AI := [x_ldi 4, x_ldi 2, x_icge 4, x_ldi 3, x_ldi 2, x_imul, x_s1i 3, x_inc 4 1, x_go 3]
def k_MO_seated_4 : List AI := [x_ic (-1), x_s1i 4, x_lc 0, x_s2 5, x_lda 0, x_calv0 MO_putsAside 1 11, x_ic 0, x_s1i 7, x_fall 5]
def k_MO_seated_5 : List AI := [x_ldi 7, x_ldi 3, x_icge 9, x_lda 0, x_ldi 7, x_calv MO_sitBy 2 11, x_ifeq 8, x_lda 0, x_calv MO_isNearest 1 11, x_ifeq 8, x_ldi 4, x_ic (-1), x_iceq 6, x_lda 0, x_gl 60 11, x_ldl 5, x_lcmp, x_iflt 6, x_go 8]
def k_MO_seated_6 : List AI := [x_lda 0, x_gi 59 11, x_s1i 4, x_lda 0, x_gl 60 11, x_s2 5, x_ic 0, x_s1i 8, x_fall 7]
def k_MO_seated_7 : List AI := [x_ldi 8, x_ldi 2, x_icge 8, x_lda 0, x_ga 62 11, x_ldi 8, x_lda 0, x_ga 50 11, x_ldi 8, x_ali, x_asi, x_inc 8 1, x_go 7]
def k_MO_seated_8 : List AI := [x_inc 7 1, x_go 5]
def k_MO_seated_9 : List AI := [x_lda 0, x_calv0 MO_takesBack 1 11, x_ldi 4, x_ic (-1), x_icne 10, x_lc (-1), x_go 13]
def k_MO_seated_10 : List AI := [x_ldi 1, x_ic (-1), x_icne 11, x_ldl 5, x_go 13]
def k_MO_seated_11 : List AI := [x_ldi 1, x_ic 20, x_icne 12, x_ldi 4, x_i2l, x_go 13]
def k_MO_seated_12 : List AI := [x_lda 0, x_ga 62 11, x_ldi 1, x_ali, x_i2l, x_fall 13]
def k_MO_seated_13 : List AI := [x_rl]
def kb_MO_seated : List (List AI) := [k_MO_seated_0, k_MO_seated_1, k_MO_seated_2, k_MO_seated_3, k_MO_seated_4, k_MO_seated_5, k_MO_seated_6, k_MO_seated_7, k_MO_seated_8, k_MO_seated_9, k_MO_seated_10, k_MO_seated_11, k_MO_seated_12, k_MO_seated_13]
def k_MO_actMany_0 : List AI := [x_lda 0, x_calv MO_seats 1 11, x_lda 0, x_calv MO_seats 1 11, x_lda 0, x_calv MO_seats 1 11, x_imul, x_iadd, x_ri]
def kb_MO_actMany : List (List AI) := [k_MO_actMany_0]
def k_MO_acts_0 : List AI := [x_lda 0, x_calv MO_seats 1 11, x_s1i 2, x_ldi 1, x_ldi 2, x_icge 2, x_lda 0, x_ldi 1, x_calv MO_isFixed 2 11, x_ifeq 1, x_ic 0, x_rz]
def k_MO_acts_1 : List AI := [x_lda 0, x_dup, x_gi 49 11, x_ic 1, x_ldi 1, x_ishl, x_ixor, x_pi 49 11, x_ic 1, x_rz]
def k_MO_acts_2 : List AI := [x_ldi 1, x_ldi 2, x_isub, x_ldi 2, x_idiv, x_s1i 3, x_ldi 1, x_ldi 2, x_isub, x_ldi 2, x_irem, x_s1i 4, x_ldi 3, x_ldi 4, x_icge 3, x_lda 0, x_ldi 3, x_ldi 4, x_calv MO_canSwap 3 11, x_ifne 4, x_fall 3]
def k_MO_acts_3 : List AI := [x_ic 0, x_rz]
def k_MO_acts_4 : List AI := [x_lda 0, x_ldi 3, x_ldi 4, x_calv0 MO_changesSeats 3 11, x_ic 1, x_rz]
def kb_MO_acts : List (List AI) := [k_MO_acts_0, k_MO_acts_1, k_MO_acts_2, k_MO_acts_3, k_MO_acts_4]
def k_MO_isRight_0 : List AI := [x_lda 0, x_lda 0, x_gi 49 11, x_calv MO_isLawful 2 11, x_ifeq 1, x_lda 0, x_lda 0, x_gi 49 11, x_calv MO_isGood 2 11, x_ifeq 1, x_ic 1, x_go 2]
def k_MO_isRight_1 : List AI := [x_ic 0, x_fall 2]
def k_MO_isRight_2 : List AI := [x_rz]
def kb_MO_isRight : List (List AI) := [k_MO_isRight_0, k_MO_isRight_1, k_MO_isRight_2]
def k_MO_isOneOff_0 : List AI := [x_ic 0, x_s1i 1, x_fall 1]
def k_MO_isOneOff_1 : List AI := [x_ldi 1, x_lda 0, x_calv MO_actMany 1 11, x_icge 4, x_lda 0, x_ldi 1, x_calv MO_acts 2 11, x_ifne 2, x_go 3]
def k_MO_isOneOff_2 : List AI := [x_lda 0, x_calv MO_isRight 1 11, x_s1i 2, x_lda 0, x_ldi 1, x_calv MO_acts 2 11, x_s1i 3, x_ldi 2, x_ifeq 3, x_ic 1, x_rz]
def k_MO_isOneOff_3 : List AI := [x_inc 1 1, x_go 1]
def k_MO_isOneOff_4 : List AI := [x_ic 0, x_rz]
def kb_MO_isOneOff : List (List AI) := [k_MO_isOneOff_0, k_MO_isOneOff_1, k_MO_isOneOff_2, k_MO_isOneOff_3, k_MO_isOneOff_4]
def k_MO_isTwoOff_0 : List AI := [x_ic 0, x_s1i 1, x_fall 1]
def k_MO_isTwoOff_1 : List AI := [x_ldi 1, x_lda 0, x_calv MO_actMany 1 11, x_icge 4, x_lda 0, x_ldi 1, x_calv MO_acts 2 11, x_ifne 2, x_go 3]
def k_MO_isTwoOff_2 : List AI := [x_lda 0, x_calv MO_isOneOff 1 11, x_s1i 2, x_lda 0, x_ldi 1, x_calv MO_acts 2 11, x_s1i 3, x_ldi 2, x_ifeq 3, x_ic 1, x_rz]
def k_MO_isTwoOff_3 : List AI := [x_inc 1 1, x_go 1]
def k_MO_isTwoOff_4 : List AI := [x_ic 0, x_rz]
def kb_MO_isTwoOff : List (List AI) := [k_MO_isTwoOff_0, k_MO_isTwoOff_1, k_MO_isTwoOff_2, k_MO_isTwoOff_3, k_MO_isTwoOff_4]
def k_MO_isThreeOff_0 : List AI := [x_ic 0, x_s1i 1, x_fall 1]
def k_MO_isThreeOff_1 : List AI := [x_ldi 1, x_lda 0, x_calv MO_actMany 1 11, x_icge 4, x_lda 0, x_ldi 1, x_calv MO_acts 2 11, x_ifne 2, x_go 3]
def k_MO_isThreeOff_2 : List AI := [x_lda 0, x_calv MO_isTwoOff 1 11, x_s1i 2, x_lda 0, x_ldi 1, x_calv MO_acts 2 11, x_s1i 3, x_ldi 2, x_ifeq 3, x_ic 1, x_rz]
def k_MO_isThreeOff_3 : List AI := [x_inc 1 1, x_go 1]
def k_MO_isThreeOff_4 : List AI := [x_ic 0, x_rz]
def kb_MO_isThreeOff : List (List AI) := [k_MO_isThreeOff_0, k_MO_isThreeOff_1, k_MO_isThreeOff_2, k_MO_isThreeOff_3, k_MO_isThreeOff_4]
def k_MO_changes_0 : List AI := [x_lda 0, x_calv MO_isRight 1 11, x_ifeq 1, x_ic 0, x_go 5]
def k_MO_changes_1 : List AI := [x_lda 0, x_calv MO_isOneOff 1 11, x_ifeq 2, x_ic 1, x_go 5]
def k_MO_changes_2 : List AI := [x_lda 0, x_calv MO_isTwoOff 1 11, x_ifeq 3, x_ic 2, x_go 5]
def k_MO_changes_3 : List AI := [x_lda 0, x_calv MO_isThreeOff 1 11, x_ifeq 4, x_ic 3, x_go 5]
def k_MO_changes_4 : List AI := [x_ic (-1), x_fall 5]
def k_MO_changes_5 : List AI := [x_ri]
def kb_MO_changes : List (List AI) := [k_MO_changes_0, k_MO_changes_1, k_MO_changes_2, k_MO_changes_3, k_MO_changes_4, k_MO_changes_5]
def k_MO_greater_0 : List AI := [x_ldl 0, x_ldl 2, x_lcmp, x_ifle 1, x_ldl 0, x_go 2]
def k_MO_greater_1 : List AI := [x_ldl 2, x_fall 2]
def k_MO_greater_2 : List AI := [x_rl]
def kb_MO_greater : List (List AI) := [k_MO_greater_0, k_MO_greater_1, k_MO_greater_2]
def k_MO_greatest_0 : List AI := [x_lc 0, x_s2 4, x_ldi 2, x_s1i 6, x_fall 1]
def k_MO_greatest_1 : List AI := [x_ldi 6, x_ldi 3, x_icgt 2, x_ldl 4, x_lda 0, x_ic 1, x_ldi 1, x_ldi 6, x_calv MO_swingBy 4 11, x_call MO_size 1, x_call MO_greater 2, x_s2 4, x_inc 6 1, x_go 1]
def k_MO_greatest_2 : List AI := [x_ldl 4, x_rl]
def kb_MO_greatest : List (List AI) := [k_MO_greatest_0, k_MO_greatest_1, k_MO_greatest_2]
def k_MO_race_0 : List AI := [x_ldi 1, x_i2l, x_lc 1, x_lc 300, x_call MO_isIn 3, x_ifeq 1, x_lda 0, x_lda 0, x_gi 49 11, x_lda 0, x_gi 47 11, x_ic 1, x_iadd, x_lda 0, x_gi 47 11, x_ldi 1, x_iadd, x_calv MO_greatest 4 11, x_go 2]
def k_MO_race_1 : List AI := [x_lc (-1), x_fall 2]
def k_MO_race_2 : List AI := [x_rl]
def kb_MO_race : List (List AI) := [k_MO_race_0, k_MO_race_1, k_MO_race_2]
def k_MO_stillest_0 : List AI := [x_ldi 1, x_i2l, x_lc 1, x_lc 300, x_call MO_isIn 3, x_ifeq 1, x_ldi 2, x_i2l, x_lc 0, x_lc 1, x_call MO_isIn 3, x_ifne 2, x_fall 1]
def k_MO_stillest_1 : List AI := [x_lc (-1), x_rl]
def k_MO_stillest_2 : List AI := [x_ic (-1), x_s1i 3, x_lc 0, x_s2 4, x_ic 0, x_s1i 6, x_fall 3]
def k_MO_stillest_3 : List AI := [x_ldi 6, x_ic 1, x_lda 0, x_calv MO_seats 1 11, x_ishl, x_icge 7, x_lda 0, x_ldi 6, x_calv MO_isLawful 2 11, x_ifne 4, x_go 6]
def k_MO_stillest_4 : List AI := [x_lda 0, x_ldi 6, x_lda 0, x_gi 47 11, x_ic 1, x_iadd, x_lda 0, x_gi 47 11, x_ldi 1, x_iadd, x_calv MO_greatest 4 11, x_s2 7, x_ldi 3, x_ic (-1), x_iceq 5, x_ldl 7, x_ldl 4, x_lcmp, x_iflt 5, x_go 6]
def k_MO_stillest_5 : List AI := [x_ldi 6, x_s1i 3, x_ldl 7, x_s2 4, x_fall 6]
def k_MO_stillest_6 : List AI := [x_inc 6 1, x_go 3]
def k_MO_stillest_7 : List AI := [x_ldi 3, x_ic (-1), x_icne 8, x_lc (-1), x_go 10]
def k_MO_stillest_8 : List AI := [x_ldi 2, x_ifne 9, x_ldl 4, x_go 10]
def k_MO_stillest_9 : List AI := [x_ldi 3, x_i2l, x_fall 10]
def k_MO_stillest_10 : List AI := [x_rl]
def kb_MO_stillest : List (List AI) := [k_MO_stillest_0, k_MO_stillest_1, k_MO_stillest_2, k_MO_stillest_3, k_MO_stillest_4, k_MO_stillest_5, k_MO_stillest_6, k_MO_stillest_7, k_MO_stillest_8, k_MO_stillest_9, k_MO_stillest_10]
def k_MO_underBy_0 : List AI := [x_lc 0, x_s2 4, x_ic 1, x_s1i 6, x_fall 1]
def k_MO_underBy_1 : List AI := [x_ldi 6, x_ldi 3, x_icgt 7, x_lda 0, x_ldi 1, x_ldi 2, x_calv0 MO_changesSeats 3 11, x_ldl 4, x_lda 0, x_lda 0, x_gi 49 11, x_lda 0, x_gi 47 11, x_ldi 6, x_iadd, x_lda 0, x_gi 47 11, x_ldi 3, x_iadd, x_calv MO_greatest 4 11, x_call MO_greater 2, x_s2 7, x_lda 0, x_ldi 1, x_ldi 2, x_calv0 MO_changesSeats 3 11, x_ldl 4, x_lda 0, x_ic 1, x_lda 0, x_gi 49 11, x_lda 0, x_gi 47 11, x_ldi 6, x_iadd, x_calv MO_swingBy 4 11, x_call MO_size 1, x_call MO_greater 2, x_s2 4, x_ic 12, x_ldi 1, x_imul, x_ldi 2, x_iadd, x_s1i 9, x_lda 0, x_gi 65 11, x_ic (-1), x_iceq 2, x_ldl 7, x_lda 0, x_gl 63 11, x_lcmp, x_ifge 3, x_fall 2]
def k_MO_underBy_2 : List AI := [x_ic 1, x_go 4]
def k_MO_underBy_3 : List AI := [x_ic 0, x_fall 4]
def k_MO_underBy_4 : List AI := [x_s1i 10, x_ldi 10, x_ifne 5, x_ldl 7, x_lda 0, x_gl 63 11, x_lcmp, x_ifgt 6, x_lda 0, x_gi 47 11, x_ldi 6, x_iadd, x_lda 0, x_gi 64 11, x_icgt 6, x_lda 0, x_gi 47 11, x_ldi 6, x_iadd, x_lda 0, x_gi 64 11, x_icne 5, x_ldi 9, x_lda 0, x_gi 65 11, x_icle 5, x_go 6]
def k_MO_underBy_5 : List AI := [x_lda 0, x_ldl 7, x_pl 63 11, x_lda 0, x_lda 0, x_gi 47 11, x_ldi 6, x_iadd, x_pi 64 11, x_lda 0, x_ldi 9, x_pi 65 11, x_fall 6]
def k_MO_underBy_6 : List AI := [x_inc 6 1, x_go 1]
def k_MO_underBy_7 : List AI := [x_ret]
def kb_MO_underBy : List (List AI) := [k_MO_underBy_0, k_MO_underBy_1, k_MO_underBy_2, k_MO_underBy_3, k_MO_underBy_4, k_MO_underBy_5, k_MO_underBy_6, k_MO_underBy_7]
def k_MO_under_0 : List AI := [x_ldi 1, x_i2l, x_lc 1, x_lc 100, x_call MO_isIn 3, x_ifeq 1, x_ldi 2, x_i2l, x_lc 0, x_lc 3, x_call MO_isIn 3, x_ifeq 1, x_lda 0, x_calv MO_seats 1 11, x_ic 2, x_icge 2, x_fall 1]
def k_MO_under_1 : List AI := [x_lc (-1), x_rl]
def k_MO_under_2 : List AI := [x_lda 0, x_ic (-1), x_pi 65 11, x_ic 0, x_s1i 3, x_fall 3]
def k_MO_under_3 : List AI := [x_ldi 3, x_lda 0, x_calv MO_seats 1 11, x_icge 6, x_ldi 3, x_ic 1, x_iadd, x_s1i 4, x_fall 4]
def k_MO_under_4 : List AI := [x_ldi 4, x_lda 0, x_calv MO_seats 1 11, x_icge 5, x_lda 0, x_ldi 3, x_ldi 4, x_ldi 1, x_calv0 MO_underBy 4 11, x_inc 4 1, x_go 4]
def k_MO_under_5 : List AI := [x_inc 3 1, x_go 3]
def k_MO_under_6 : List AI := [x_ldi 2, x_ifne 7, x_lda 0, x_gl 63 11, x_go 10]
def k_MO_under_7 : List AI := [x_ldi 2, x_ic 1, x_icne 8, x_lda 0, x_gi 64 11, x_i2l, x_go 10]
def k_MO_under_8 : List AI := [x_ldi 2, x_ic 2, x_icne 9, x_lda 0, x_gi 65 11, x_ic 12, x_idiv, x_i2l, x_go 10]
def k_MO_under_9 : List AI := [x_lda 0, x_gi 65 11, x_ic 12, x_irem, x_i2l, x_fall 10]
def k_MO_under_10 : List AI := [x_rl]
def kb_MO_under : List (List AI) := [k_MO_under_0, k_MO_under_1, k_MO_under_2, k_MO_under_3, k_MO_under_4, k_MO_under_5, k_MO_under_6, k_MO_under_7, k_MO_under_8, k_MO_under_9, k_MO_under_10]
def k_MO_triesTold_0 : List AI := [x_ic 0, x_s1i 1, x_fall 1]
def k_MO_triesTold_1 : List AI := [x_ldi 1, x_lda 0, x_calv MO_rowers 1 11, x_icge 2, x_lda 0, x_ga 66 11, x_ldi 1, x_lda 0, x_ga 34 11, x_ic 12, x_ldi 1, x_iadd, x_ali, x_asi, x_inc 1 1, x_go 1]
def k_MO_triesTold_2 : List AI := [x_ic 0, x_s1i 1, x_fall 3]
def k_MO_triesTold_3 : List AI := [x_ldi 1, x_lda 0, x_calv MO_seats 1 11, x_icge 4, x_lda 0, x_ga 67 11, x_ldi 1, x_lda 0, x_ga 31 11, x_ic 12, x_ldi 1, x_iadd, x_ali, x_asi, x_inc 1 1, x_go 3]
def k_MO_triesTold_4 : List AI := [x_ret]
def kb_MO_triesTold : List (List AI) := [k_MO_triesTold_0, k_MO_triesTold_1, k_MO_triesTold_2, k_MO_triesTold_3, k_MO_triesTold_4]
def k_MO_isFit_0 : List AI := [x_lc 0, x_s2 2, x_ic 0, x_s1i 4, x_fall 1]
def k_MO_isFit_1 : List AI := [x_ldi 4, x_lda 0, x_calv MO_seats 1 11, x_icge 5, x_ldi 4, x_lda 0, x_calv MO_rowers 1 11, x_icge 5, x_lda 0, x_ga 40 11, x_ic 96, x_ic 12, x_ldi 1, x_imul, x_iadd, x_ldi 4, x_iadd, x_ali, x_s1i 5, x_lda 0, x_ga 66 11, x_ldi 4, x_ali, x_lda 0, x_ga 67 11, x_ldi 4, x_ali, x_imul, x_i2l, x_lda 0, x_ga 30 11, x_ic 12, x_ldi 4, x_iadd, x_ali, x_lda 0, x_ga 41 11, x_ic 8, x_ldi 1, x_iadd, x_ali, x_call MO_raised 2, x_lmul, x_s2 6, x_ldl 2, x_ldi 5, x_ic 2, x_icne 2, x_ldl 6, x_go 4]
def k_MO_isFit_2 : List AI := [x_ldi 5, x_ic 1, x_icne 3, x_ldl 6, x_lneg, x_go 4]
def k_MO_isFit_3 : List AI := [x_lc 0, x_fall 4]
def k_MO_isFit_4 : List AI := [x_ladd, x_s2 2, x_inc 4 1, x_go 1]
def k_MO_isFit_5 : List AI := [x_ldl 2, x_lda 0, x_ga 42 11, x_ic 8, x_ldi 1, x_iadd, x_ali, x_i2l, x_lsub, x_call MO_size 1, x_lda 0, x_calv MO_near 1 11, x_i2l, x_lcmp, x_ifgt 6, x_ic 1, x_go 7]
def k_MO_isFit_6 : List AI := [x_ic 0, x_fall 7]
def k_MO_isFit_7 : List AI := [x_rz]
def kb_MO_isFit : List (List AI) := [k_MO_isFit_0, k_MO_isFit_1, k_MO_isFit_2, k_MO_isFit_3, k_MO_isFit_4, k_MO_isFit_5, k_MO_isFit_6, k_MO_isFit_7]
def k_MO_firstUnfit_0 : List AI := [x_ic 0, x_s1i 1, x_fall 1]
def k_MO_firstUnfit_1 : List AI := [x_ldi 1, x_lda 0, x_calv MO_runs 1 11, x_icge 3, x_lda 0, x_ldi 1, x_calv MO_isFit 2 11, x_ifne 2, x_ldi 1, x_ri]
def k_MO_firstUnfit_2 : List AI := [x_inc 1 1, x_go 1]
def k_MO_firstUnfit_3 : List AI := [x_ic (-1), x_ri]
def kb_MO_firstUnfit : List (List AI) := [k_MO_firstUnfit_0, k_MO_firstUnfit_1, k_MO_firstUnfit_2, k_MO_firstUnfit_3]
def k_MO_fits_0 : List AI := [x_lda 0, x_calv0 MO_triesTold 1 11, x_lda 0, x_calv MO_firstUnfit 1 11, x_ri]
def kb_MO_fits : List (List AI) := [k_MO_fits_0]
def k_MO_fittingRows_0 : List AI := [x_ic 0, x_s1i 1, x_ic 1, x_s1i 2, x_ic 0, x_s1i 3, x_fall 1]
def k_MO_fittingRows_1 : List AI := [x_ldi 3, x_lda 0, x_calv MO_rowers 1 11, x_icge 2, x_ldi 2, x_ic 9, x_imul, x_s1i 2, x_inc 3 1, x_go 1]
def k_MO_fittingRows_2 : List AI := [x_ic 0, x_s1i 3, x_fall 3]
def k_MO_fittingRows_3 : List AI := [x_ldi 3, x_ldi 2, x_icge 14, x_ldi 3, x_s1i 4, x_ic 0, x_s1i 5, x_fall 4]
def k_MO_fittingRows_4 : List AI := [x_ldi 5, x_lda 0, x_calv MO_rowers 1 11, x_icge 5, x_lda 0, x_ga 66 11, x_ldi 5, x_ic 1, x_ldi 4, x_ic 9, x_irem, x_iadd, x_asi, x_ldi 4, x_ic 9, x_idiv, x_s1i 4, x_inc 5 1, x_go 4]
def k_MO_fittingRows_5 : List AI := [x_lda 0, x_calv MO_firstUnfit 1 11, x_ic (-1), x_iceq 6, x_go 13]
def k_MO_fittingRows_6 : List AI := [x_ic 0, x_s1i 5, x_fall 7]
def k_MO_fittingRows_7 : List AI := [x_ldi 5, x_lda 0, x_calv MO_rowers 1 11, x_icge 12, x_lda 0, x_ga 66 11, x_ldi 5, x_ali, x_s1i 6, x_ldi 1, x_ifeq 8, x_ldi 6, x_lda 0, x_ga 68 11, x_ldi 5, x_ali, x_icge 9, x_fall 8]
def k_MO_fittingRows_8 : List AI := [x_lda 0, x_ga 68 11, x_ldi 5, x_ldi 6, x_asi, x_fall 9]
def k_MO_fittingRows_9 : List AI := [x_ldi 1, x_ifeq 10, x_ldi 6, x_lda 0, x_ga 69 11, x_ldi 5, x_ali, x_icle 11, x_fall 10]
def k_MO_fittingRows_10 : List AI := [x_lda 0, x_ga 69 11, x_ldi 5, x_ldi 6, x_asi, x_fall 11]
def k_MO_fittingRows_11 : List AI := [x_inc 5 1, x_go 7]
def k_MO_fittingRows_12 : List AI := [x_inc 1 1, x_fall 13]
def k_MO_fittingRows_13 : List AI := [x_inc 3 1, x_go 3]
def k_MO_fittingRows_14 : List AI := [x_ldi 1, x_ri]
def kb_MO_fittingRows : List (List AI) := [k_MO_fittingRows_0, k_MO_fittingRows_1, k_MO_fittingRows_2, k_MO_fittingRows_3, k_MO_fittingRows_4, k_MO_fittingRows_5, k_MO_fittingRows_6, k_MO_fittingRows_7, k_MO_fittingRows_8, k_MO_fittingRows_9, k_MO_fittingRows_10, k_MO_fittingRows_11, k_MO_fittingRows_12, k_MO_fittingRows_13, k_MO_fittingRows_14]
def k_MO_strengths_0 : List AI := [x_ldi 2, x_i2l, x_lc 0, x_lc 2, x_call MO_isIn 3, x_ifeq 1, x_lda 0, x_calv MO_rowers 1 11, x_ic 6, x_icgt 1, x_lda 0, x_ldi 1, x_calv MO_isRower 2 11, x_ifne 2, x_fall 1]
def k_MO_strengths_1 : List AI := [x_ic (-1), x_ri]
def k_MO_strengths_2 : List AI := [x_lda 0, x_calv0 MO_triesTold 1 11, x_lda 0, x_calv MO_fittingRows 1 11, x_s1i 3, x_ldi 2, x_ifne 3, x_ldi 3, x_go 6]
def k_MO_strengths_3 : List AI := [x_ldi 3, x_ifne 4, x_ic (-1), x_go 6]
def k_MO_strengths_4 : List AI := [x_ldi 2, x_ic 1, x_icne 5, x_lda 0, x_ga 68 11, x_ldi 1, x_ali, x_go 6]
def k_MO_strengths_5 : List AI := [x_lda 0, x_ga 69 11, x_ldi 1, x_ali, x_fall 6]
def k_MO_strengths_6 : List AI := [x_ri]
def kb_MO_strengths : List (List AI) := [k_MO_strengths_0, k_MO_strengths_1, k_MO_strengths_2, k_MO_strengths_3, k_MO_strengths_4, k_MO_strengths_5, k_MO_strengths_6]
def k_MO_crooked_0 : List AI := [x_lda 0, x_calv0 MO_triesTold 1 11, x_lda 0, x_calv MO_firstUnfit 1 11, x_ic (-1), x_icne 1, x_ic 0, x_ri]
def k_MO_crooked_1 : List AI := [x_ic 0, x_s1i 1, x_ic 0, x_s1i 2, x_fall 2]
def k_MO_crooked_2 : List AI := [x_ldi 2, x_lda 0, x_calv MO_seats 1 11, x_icge 6, x_ic 1, x_s1i 3, x_fall 3]
def k_MO_crooked_3 : List AI := [x_ldi 3, x_ic 100, x_icge 5, x_ldi 1, x_ldi 2, x_ishr, x_ic 1, x_iand, x_ifne 5, x_lda 0, x_ga 67 11, x_ldi 2, x_ldi 3, x_asi, x_lda 0, x_calv MO_firstUnfit 1 11, x_ic (-1), x_icne 4, x_ldi 1, x_ic 1, x_ldi 2, x_ishl, x_ior, x_s1i 1, x_fall 4]
def k_MO_crooked_4 : List AI := [x_inc 3 1, x_go 3]
def k_MO_crooked_5 : List AI := [x_lda 0, x_ga 67 11, x_ldi 2, x_lda 0, x_ga 31 11, x_ic 12, x_ldi 2, x_iadd, x_ali, x_asi, x_inc 2 1, x_go 2]
def k_MO_crooked_6 : List AI := [x_ldi 1, x_ri]
def kb_MO_crooked : List (List AI) := [k_MO_crooked_0, k_MO_crooked_1, k_MO_crooked_2, k_MO_crooked_3, k_MO_crooked_4, k_MO_crooked_5, k_MO_crooked_6]
def k_MO_payments_0 : List AI := [x_lda 0, x_ga 29 11, x_ic 7, x_ali, x_ri]
def kb_MO_payments : List (List AI) := [k_MO_payments_0]
def k_MO_apartBy_0 : List AI := [x_lc 0, x_s2 3, x_ic 0, x_s1i 5, x_fall 1]
def k_MO_apartBy_1 : List AI := [x_ldi 5, x_lda 0, x_calv MO_payments 1 11, x_icge 6, x_ldi 2, x_ifeq 2, x_lda 0, x_ga 43 11, x_ic 12, x_ldi 5, x_iadd, x_ali, x_lda 0, x_ga 44 11, x_ic 12, x_ldi 5, x_iadd, x_ali, x_imul, x_i2l, x_go 3]
def k_MO_apartBy_2 : List AI := [x_lda 0, x_ga 43 11, x_ic 12, x_ldi 5, x_iadd, x_ali, x_i2l, x_fall 3]
def k_MO_apartBy_3 : List AI := [x_s2 6, x_ldl 3, x_ldi 1, x_ldi 5, x_ishr, x_ic 1, x_iand, x_ic 1, x_icne 4, x_ldl 6, x_lneg, x_go 5]
def k_MO_apartBy_4 : List AI := [x_ldl 6, x_fall 5]
def k_MO_apartBy_5 : List AI := [x_ladd, x_s2 3, x_inc 5 1, x_go 1]
def k_MO_apartBy_6 : List AI := [x_ldl 3, x_rl]
def kb_MO_apartBy : List (List AI) := [k_MO_apartBy_0, k_MO_apartBy_1, k_MO_apartBy_2, k_MO_apartBy_3, k_MO_apartBy_4, k_MO_apartBy_5, k_MO_apartBy_6]
def k_MO_heirs_0 : List AI := [x_ldi 1, x_i2l, x_lc 0, x_lc 1, x_call MO_isIn 3, x_ifeq 1, x_lda 0, x_calv MO_payments 1 11, x_ifne 2, x_fall 1]
def k_MO_heirs_1 : List AI := [x_ic (-1), x_ri]
def k_MO_heirs_2 : List AI := [x_ic 0, x_s1i 2, x_ic 0, x_s1i 3, x_fall 3]
def k_MO_heirs_3 : List AI := [x_ldi 3, x_ic 1, x_lda 0, x_calv MO_payments 1 11, x_ishl, x_icge 7, x_lda 0, x_ldi 3, x_ic 0, x_calv MO_apartBy 3 11, x_lc 0, x_lcmp, x_ifne 6, x_lda 0, x_ldi 3, x_ic 1, x_calv MO_apartBy 3 11, x_lc 0, x_lcmp, x_ifeq 4, x_go 6]
def k_MO_heirs_4 : List AI := [x_ldi 1, x_ic 1, x_icne 5, x_ldi 3, x_ri]
def k_MO_heirs_5 : List AI := [x_inc 2 1, x_fall 6]
def k_MO_heirs_6 : List AI := [x_inc 3 2, x_go 3]
def k_MO_heirs_7 : List AI := [x_ldi 1, x_ifne 8, x_ldi 2, x_go 9]
def k_MO_heirs_8 : List AI := [x_ic (-1), x_fall 9]
def k_MO_heirs_9 : List AI := [x_ri]
def kb_MO_heirs : List (List AI) := [k_MO_heirs_0, k_MO_heirs_1, k_MO_heirs_2, k_MO_heirs_3, k_MO_heirs_4, k_MO_heirs_5, k_MO_heirs_6, k_MO_heirs_7, k_MO_heirs_8, k_MO_heirs_9]
def k_MO_apart_0 : List AI := [x_ldi 1, x_i2l, x_lc 0, x_ic 1, x_lda 0, x_calv MO_payments 1 11, x_ishl, x_ic 1, x_isub, x_i2l, x_call MO_isIn 3, x_ifeq 1, x_ldi 1, x_ic 2, x_irem, x_ifne 1, x_lda 0, x_calv MO_payments 1 11, x_ifle 1, x_lda 0, x_ldi 1, x_ldi 2, x_calv MO_apartBy 3 11, x_go 2]
def k_MO_apart_1 : List AI := [x_lc (-1000000000000000), x_fall 2]
def k_MO_apart_2 : List AI := [x_rl]
def kb_MO_apart : List (List AI) := [k_MO_apart_0, k_MO_apart_1, k_MO_apart_2]
def k_MO_qCode_0 : List AI := [x_lda 0, x_ga 87 11, x_lda 0, x_gi 88 11, x_ldi 1, x_asi, x_lda 0, x_dup, x_gi 88 11, x_ic 1, x_iadd, x_pi 88 11, x_ret]
def kb_MO_qCode : List (List AI) := [k_MO_qCode_0]
def k_MO_qOpens_0 : List AI := [x_lda 0, x_gi 5 11, x_ifeq 1, x_ret]
def k_MO_qOpens_1 : List AI := [x_lda 0, x_gi 91 11, x_ic 6, x_icne 2, x_lda 0, x_ic 4, x_ldi 2, x_calv0 MO_fail 3 11, x_ret]
def k_MO_qOpens_2 : List AI := [x_lda 0, x_dup, x_gi 91 11, x_ic 1, x_iadd, x_pi 91 11, x_lda 0, x_ga 89 11, x_lda 0, x_gi 90 11, x_ldi 1, x_asi, x_lda 0, x_dup, x_gi 90 11, x_ic 1, x_iadd, x_pi 90 11, x_ret]
def kb_MO_qOpens : List (List AI) := [k_MO_qOpens_0, k_MO_qOpens_1, k_MO_qOpens_2]
def k_MO_qIsOn_0 : List AI := [x_lda 0, x_gi 90 11, x_ifle 1, x_lda 0, x_ga 89 11, x_lda 0, x_gi 90 11, x_ic 1, x_isub, x_ali, x_ldi 1, x_icne 1, x_ic 1, x_go 2]
def k_MO_qIsOn_1 : List AI := [x_ic 0, x_fall 2]
def k_MO_qIsOn_2 : List AI := [x_rz]
def kb_MO_qIsOn : List (List AI) := [k_MO_qIsOn_0, k_MO_qIsOn_1, k_MO_qIsOn_2]
def k_MO_qDrops_0 : List AI := [x_lda 0, x_dup, x_gi 90 11, x_ic 1, x_isub, x_pi 90 11, x_lda 0, x_lda 0, x_ga 89 11, x_lda 0, x_gi 90 11, x_ali, x_calv0 MO_qCode 2 11, x_ret]
def kb_MO_qDrops : List (List AI) := [k_MO_qDrops_0]
def k_MO_qIsBracket_0 : List AI := [x_ldi 0, x_ic 20, x_iclt 1, x_ldi 0, x_ic 24, x_icgt 1, x_ic 1, x_go 2]
def k_MO_qIsBracket_1 : List AI := [x_ic 0, x_fall 2]
def k_MO_qIsBracket_2 : List AI := [x_rz]
def kb_MO_qIsBracket : List (List AI) := [k_MO_qIsBracket_0, k_MO_qIsBracket_1, k_MO_qIsBracket_2]
def k_MO_qBracket_0 : List AI := [x_lda 0, x_gi 90 11, x_ic 1, x_isub, x_s1i 1, x_fall 1]
def k_MO_qBracket_1 : List AI := [x_ldi 1, x_lda 0, x_gi 92 11, x_iclt 2, x_lda 0, x_ga 89 11, x_ldi 1, x_ali, x_call MO_qIsBracket 1, x_ifne 2, x_inc 1 (-1), x_go 1]
def k_MO_qBracket_2 : List AI := [x_ldi 1, x_lda 0, x_gi 92 11, x_iclt 3, x_lda 0, x_ga 89 11, x_ldi 1, x_ali, x_go 4]
def k_MO_qBracket_3 : List AI := [x_ic (-1), x_fall 4]
def k_MO_qBracket_4 : List AI := [x_ri]
def kb_MO_qBracket : List (List AI) := [k_MO_qBracket_0, k_MO_qBracket_1, k_MO_qBracket_2, k_MO_qBracket_3, k_MO_qBracket_4]
def k_MO_qDropsToBracket_0 : List AI := [x_lda 0, x_gi 90 11, x_lda 0, x_gi 92 11, x_icle 1, x_lda 0, x_ga 89 11, x_lda 0, x_gi 90 11, x_ic 1, x_isub, x_ali, x_call MO_qIsBracket 1, x_ifne 1, x_lda 0, x_calv0 MO_qDrops 1 11, x_go 0]
def k_MO_qDropsToBracket_1 : List AI := [x_ret]
def kb_MO_qDropsToBracket : List (List AI) := [k_MO_qDropsToBracket_0, k_MO_qDropsToBracket_1]
def k_MO_qWordHere_0 : List AI := [x_lda 0, x_lda 0, x_ga 82 11, x_calv MO_isHere 2 11, x_ifeq 1, x_ic 0, x_ri]
def k_MO_qWordHere_1 : List AI := [x_lda 0, x_lda 0, x_ga 83 11, x_calv MO_isHere 2 11, x_ifeq 2, x_ic 1, x_ri]
def k_MO_qWordHere_2 : List AI := [x_lda 0, x_lda 0, x_ga 84 11, x_calv MO_isHere 2 11, x_ifeq 3, x_ic 2, x_ri]
def k_MO_qWordHere_3 : List AI := [x_lda 0, x_lda 0, x_ga 85 11, x_calv MO_isHere 2 11, x_ifeq 4, x_ic 3, x_ri]
def k_MO_qWordHere_4 : List AI := [x_lda 0, x_lda 0, x_ga 86 11, x_calv MO_isHere 2 11, x_ifeq 5, x_ic 4, x_ri]
def k_MO_qWordHere_5 : List AI := [x_ic (-1), x_ri]
def kb_MO_qWordHere : List (List AI) := [k_MO_qWordHere_0, k_MO_qWordHere_1, k_MO_qWordHere_2, k_MO_qWordHere_3, k_MO_qWordHere_4, k_MO_qWordHere_5]
def k_MO_qWordOf_0 : List AI := [x_lda 0, x_calv MO_qWordHere 1 11, x_s1i 3, x_ldi 3, x_ldi 1, x_iclt 1, x_ldi 3, x_ldi 2, x_icge 1, x_ldi 3, x_go 2]
def k_MO_qWordOf_1 : List AI := [x_ic (-1), x_fall 2]
def k_MO_qWordOf_2 : List AI := [x_ri]
def kb_MO_qWordOf : List (List AI) := [k_MO_qWordOf_0, k_MO_qWordOf_1, k_MO_qWordOf_2]
def k_MO_qAsksWord_0 : List AI := [x_ldi 1, x_sw 5 [(0, 1), (1, 2), (2, 3), (3, 4)]]
def k_MO_qAsksWord_1 : List AI := [x_lda 0, x_lda 0, x_ga 82 11, x_calv0 MO_asks 2 11, x_go 6]
def k_MO_qAsksWord_2 : List AI := [x_lda 0, x_lda 0, x_ga 83 11, x_calv0 MO_asks 2 11, x_go 6]
def k_MO_qAsksWord_3 : List AI := [x_lda 0, x_lda 0, x_ga 84 11, x_calv0 MO_asks 2 11, x_go 6]
def k_MO_qAsksWord_4 : List AI := [x_lda 0, x_lda 0, x_ga 85 11, x_calv0 MO_asks 2 11, x_go 6]
def k_MO_qAsksWord_5 : List AI := [x_lda 0, x_lda 0, x_ga 86 11, x_calv0 MO_asks 2 11, x_fall 6]
def k_MO_qAsksWord_6 : List AI := [x_ret]
def kb_MO_qAsksWord : List (List AI) := [k_MO_qAsksWord_0, k_MO_qAsksWord_1, k_MO_qAsksWord_2, k_MO_qAsksWord_3, k_MO_qAsksWord_4, k_MO_qAsksWord_5, k_MO_qAsksWord_6]
def k_MO_qEndsPart_0 : List AI := [x_lda 0, x_gi 5 11, x_ifne 1, x_lda 0, x_gi 90 11, x_lda 0, x_gi 92 11, x_icle 1, x_lda 0, x_ga 89 11, x_lda 0, x_gi 90 11, x_ic 1, x_isub, x_ali, x_ic 60, x_iclt 1, x_lda 0, x_dup, x_gi 91 11, x_ic 1, x_isub, x_pi 91 11, x_lda 0, x_calv0 MO_qDrops 1 11, x_go 0]
def k_MO_qEndsPart_1 : List AI := [x_ret]
def kb_MO_qEndsPart : List (List AI) := [k_MO_qEndsPart_0, k_MO_qEndsPart_1]
def k_MO_qPartTold_0 : List AI := [x_ic 1, x_s1i 1, x_fall 1]
def k_MO_qPartTold_1 : List AI := [x_ldi 1, x_ifeq 13, x_lda 0, x_gi 5 11, x_ifne 13, x_lda 0, x_calv MO_look 1 11, x_s1i 2, x_lda 0, x_ic 3, x_ic 5, x_calv MO_qWordOf 3 11, x_s1i 3, x_ldi 2, x_ic 40, x_icne 2, x_lda 0, x_ic 20, x_lda 0, x_gi 2 11, x_calv0 MO_qOpens 3 11, x_lda 0, x_dup, x_gi 2 11, x_ic 1, x_iadd, x_pi 2 11, x_go 12]
def k_MO_qPartTold_2 : List AI := [x_lda 0, x_lda 0, x_ga 80 11, x_calv MO_isHere 2 11, x_ifne 3, x_lda 0, x_lda 0, x_ga 81 11, x_calv MO_isHere 2 11, x_ifeq 10, x_fall 3]
def k_MO_qPartTold_3 : List AI := [x_lda 0, x_lda 0, x_ga 80 11, x_calv MO_takes 2 11, x_s1i 4, x_ldi 4, x_ifne 4, x_lda 0, x_lda 0, x_ga 81 11, x_calv0 MO_asks 2 11, x_fall 4]
def k_MO_qPartTold_4 : List AI := [x_lda 0, x_calv MO_look 1 11, x_ic 40, x_icne 5, x_lda 0, x_gi 2 11, x_go 6]
def k_MO_qPartTold_5 : List AI := [x_ic (-1), x_fall 6]
def k_MO_qPartTold_6 : List AI := [x_s1i 5, x_ldi 5, x_ic (-1), x_iceq 9, x_lda 0, x_ldi 4, x_ifeq 7, x_ic 21, x_go 8]
def k_MO_qPartTold_7 : List AI := [x_ic 22, x_fall 8]
def k_MO_qPartTold_8 : List AI := [x_ldi 5, x_calv0 MO_qOpens 3 11, x_fall 9]
def k_MO_qPartTold_9 : List AI := [x_lda 0, x_ic 40, x_calv0 MO_asksSign 2 11, x_go 12]
def k_MO_qPartTold_10 : List AI := [x_ldi 3, x_ic (-1), x_iceq 11, x_lda 0, x_ic 60, x_ldi 3, x_iadd, x_ic 3, x_isub, x_lda 0, x_gi 2 11, x_calv0 MO_qOpens 3 11, x_lda 0, x_ldi 3, x_calv0 MO_qAsksWord 2 11, x_go 12]
def k_MO_qPartTold_11 : List AI := [x_ic 0, x_s1i 1, x_fall 12]
def k_MO_qPartTold_12 : List AI := [x_go 1]
def k_MO_qPartTold_13 : List AI := [x_lda 0, x_gi 5 11, x_ifeq 14, x_ret]
def k_MO_qPartTold_14 : List AI := [x_lda 0, x_ic 0, x_ic 3, x_calv MO_qWordOf 3 11, x_s1i 2, x_ldi 2, x_ic (-1), x_iceq 15, x_lda 0, x_ldi 2, x_calv0 MO_qAsksWord 2 11, x_fall 15]
def k_MO_qPartTold_15 : List AI := [x_lda 0, x_ldi 2, x_ic (-1), x_iceq 16, x_ic 40, x_ldi 2, x_iadd, x_go 17]
def k_MO_qPartTold_16 : List AI := [x_ic 1000, x_lda 0, x_ic 0, x_ic 99999, x_calv MO_number 3 11, x_iadd, x_fall 17]
def k_MO_qPartTold_17 : List AI := [x_calv0 MO_qCode 2 11, x_lda 0, x_calv0 MO_qEndsPart 1 11, x_ret]
def kb_MO_qPartTold : List (List AI) := [k_MO_qPartTold_0, k_MO_qPartTold_1, k_MO_qPartTold_2, k_MO_qPartTold_3, k_MO_qPartTold_4, k_MO_qPartTold_5, k_MO_qPartTold_6, k_MO_qPartTold_7, k_MO_qPartTold_8, k_MO_qPartTold_9, k_MO_qPartTold_10, k_MO_qPartTold_11, k_MO_qPartTold_12, k_MO_qPartTold_13, k_MO_qPartTold_14, k_MO_qPartTold_15, k_MO_qPartTold_16, k_MO_qPartTold_17]
def k_MO_qGoesOn_0 : List AI := [x_lda 0, x_gi 5 11, x_ifne 5, x_lda 0, x_calv MO_look 1 11, x_ic 41, x_icne 5, x_lda 0, x_calv MO_qBracket 1 11, x_ic 20, x_iceq 1, x_lda 0, x_calv MO_qBracket 1 11, x_ic 23, x_iceq 1, x_lda 0, x_calv MO_qBracket 1 11, x_ic 24, x_icne 5, x_fall 1]
def k_MO_qGoesOn_1 : List AI := [x_lda 0, x_dup, x_gi 2 11, x_ic 1, x_iadd, x_pi 2 11, x_lda 0, x_calv0 MO_qDropsToBracket 1 11, x_lda 0, x_dup, x_gi 90 11, x_ic 1, x_isub, x_pi 90 11, x_lda 0, x_dup, x_gi 91 11, x_ic 1, x_isub, x_pi 91 11, x_lda 0, x_ga 89 11, x_lda 0, x_gi 90 11, x_ali, x_ic 20, x_iceq 4, x_lda 0, x_lda 0, x_ga 89 11, x_lda 0, x_gi 90 11, x_ali, x_ic 23, x_icne 2, x_ic 5, x_go 3]
def k_MO_qGoesOn_2 : List AI := [x_ic 6, x_fall 3]
def k_MO_qGoesOn_3 : List AI := [x_calv0 MO_qCode 2 11, x_fall 4]
def k_MO_qGoesOn_4 : List AI := [x_lda 0, x_calv0 MO_qEndsPart 1 11, x_go 0]
def k_MO_qGoesOn_5 : List AI := [x_lda 0, x_ic 42, x_calv MO_takesSign 2 11, x_ifne 6, x_lda 0, x_ic 47, x_calv MO_takesSign 2 11, x_ifeq 12, x_fall 6]
def k_MO_qGoesOn_6 : List AI := [x_lda 0, x_ga 0 11, x_lda 0, x_gi 2 11, x_ic 1, x_isub, x_ali, x_ic 42, x_icne 7, x_ic 3, x_go 8]
def k_MO_qGoesOn_7 : List AI := [x_ic 4, x_fall 8]
def k_MO_qGoesOn_8 : List AI := [x_s1i 1, x_fall 9]
def k_MO_qGoesOn_9 : List AI := [x_lda 0, x_ic 3, x_calv MO_qIsOn 2 11, x_ifne 10, x_lda 0, x_ic 4, x_calv MO_qIsOn 2 11, x_ifeq 11, x_fall 10]
def k_MO_qGoesOn_10 : List AI := [x_lda 0, x_calv0 MO_qDrops 1 11, x_go 9]
def k_MO_qGoesOn_11 : List AI := [x_lda 0, x_ga 89 11, x_lda 0, x_gi 90 11, x_ldi 1, x_asi, x_lda 0, x_dup, x_gi 90 11, x_ic 1, x_iadd, x_pi 90 11, x_ic 1, x_rz]
def k_MO_qGoesOn_12 : List AI := [x_lda 0, x_ic 43, x_calv MO_takesSign 2 11, x_ifne 13, x_lda 0, x_ic 45, x_calv MO_takesSign 2 11, x_ifeq 19, x_fall 13]
def k_MO_qGoesOn_13 : List AI := [x_lda 0, x_ga 0 11, x_lda 0, x_gi 2 11, x_ic 1, x_isub, x_ali, x_ic 43, x_icne 14, x_ic 1, x_go 15]
def k_MO_qGoesOn_14 : List AI := [x_ic 2, x_fall 15]
def k_MO_qGoesOn_15 : List AI := [x_s1i 1, x_fall 16]
def k_MO_qGoesOn_16 : List AI := [x_lda 0, x_ic 3, x_calv MO_qIsOn 2 11, x_ifne 17, x_lda 0, x_ic 4, x_calv MO_qIsOn 2 11, x_ifne 17, x_lda 0, x_ic 1, x_calv MO_qIsOn 2 11, x_ifne 17, x_lda 0, x_ic 2, x_calv MO_qIsOn 2 11, x_ifeq 18, x_fall 17]
def k_MO_qGoesOn_17 : List AI := [x_lda 0, x_calv0 MO_qDrops 1 11, x_go 16]
def k_MO_qGoesOn_18 : List AI := [x_lda 0, x_ga 89 11, x_lda 0, x_gi 90 11, x_ldi 1, x_asi, x_lda 0, x_dup, x_gi 90 11, x_ic 1, x_iadd, x_pi 90 11, x_ic 1, x_rz]
def k_MO_qGoesOn_19 : List AI := [x_lda 0, x_calv MO_qBracket 1 11, x_ic 21, x_iceq 20, x_lda 0, x_calv MO_qBracket 1 11, x_ic 22, x_icne 22, x_fall 20]
def k_MO_qGoesOn_20 : List AI := [x_lda 0, x_ic 44, x_calv0 MO_asksSign 2 11, x_lda 0, x_gi 5 11, x_ifeq 21, x_ic 0, x_rz]
def k_MO_qGoesOn_21 : List AI := [x_lda 0, x_calv0 MO_qDropsToBracket 1 11, x_lda 0, x_ga 89 11, x_lda 0, x_gi 90 11, x_ic 1, x_isub, x_dup2, x_ali, x_ic 2, x_iadd, x_asi, x_ic 1, x_rz]
def k_MO_qGoesOn_22 : List AI := [x_lda 0, x_calv MO_qBracket 1 11, x_ic (-1), x_iceq 23, x_lda 0, x_gi 5 11, x_ifne 23, x_lda 0, x_ic 1, x_lda 0, x_gi 2 11, x_calv0 MO_fail 3 11, x_fall 23]
def k_MO_qGoesOn_23 : List AI := [x_ic 0, x_rz]
def kb_MO_qGoesOn : List (List AI) := [k_MO_qGoesOn_0, k_MO_qGoesOn_1, k_MO_qGoesOn_2, k_MO_qGoesOn_3, k_MO_qGoesOn_4, k_MO_qGoesOn_5, k_MO_qGoesOn_6, k_MO_qGoesOn_7, k_MO_qGoesOn_8, k_MO_qGoesOn_9, k_MO_qGoesOn_10, k_MO_qGoesOn_11, k_MO_qGoesOn_12, k_MO_qGoesOn_13, k_MO_qGoesOn_14, k_MO_qGoesOn_15, k_MO_qGoesOn_16, k_MO_qGoesOn_17, k_MO_qGoesOn_18, k_MO_qGoesOn_19, k_MO_qGoesOn_20, k_MO_qGoesOn_21, k_MO_qGoesOn_22, k_MO_qGoesOn_23]
def k_MO_qSums_0 : List AI := [x_lda 0, x_gi 92 11, x_s1i 1, x_lda 0, x_lda 0, x_gi 90 11, x_pi 92 11, x_ic 1, x_s1i 2, x_fall 1]
def k_MO_qSums_1 : List AI := [x_ldi 2, x_ifeq 4, x_lda 0, x_gi 5 11, x_ifne 4, x_lda 0, x_calv0 MO_qPartTold 1 11, x_lda 0, x_gi 5 11, x_ifne 2, x_lda 0, x_calv MO_qGoesOn 1 11, x_ifeq 2, x_ic 1, x_go 3]
def k_MO_qSums_2 : List AI := [x_ic 0, x_fall 3]
def k_MO_qSums_3 : List AI := [x_s1i 2, x_go 1]
def k_MO_qSums_4 : List AI := [x_lda 0, x_gi 5 11, x_ifne 5, x_lda 0, x_gi 90 11, x_lda 0, x_gi 92 11, x_icle 5, x_lda 0, x_calv0 MO_qDrops 1 11, x_go 4]
def k_MO_qSums_5 : List AI := [x_lda 0, x_ldi 1, x_pi 92 11, x_ret]
def kb_MO_qSums : List (List AI) := [k_MO_qSums_0, k_MO_qSums_1, k_MO_qSums_2, k_MO_qSums_3, k_MO_qSums_4, k_MO_qSums_5]
def k_MO_qFact_0 : List AI := [x_lda 0, x_lda 0, x_ga 79 11, x_calv MO_takes 2 11, x_ifeq 1, x_lda 0, x_ic 13, x_calv0 MO_qCode 2 11, x_ret]
def k_MO_qFact_1 : List AI := [x_lda 0, x_calv0 MO_qSums 1 11, x_lda 0, x_gi 5 11, x_ifeq 2, x_ret]
def k_MO_qFact_2 : List AI := [x_lda 0, x_calv MO_look 1 11, x_s1i 1, x_ldi 1, x_ic 60, x_iceq 3, x_ldi 1, x_ic 62, x_iceq 3, x_ldi 1, x_ic 61, x_iceq 3, x_lda 0, x_ic 1, x_lda 0, x_gi 2 11, x_calv0 MO_fail 3 11, x_ret]
def k_MO_qFact_3 : List AI := [x_lda 0, x_dup, x_gi 2 11, x_ic 1, x_iadd, x_pi 2 11, x_lda 0, x_calv0 MO_qSums 1 11, x_lda 0, x_ldi 1, x_ic 60, x_icne 4, x_ic 7, x_go 6]
def k_MO_qFact_4 : List AI := [x_ldi 1, x_ic 62, x_icne 5, x_ic 8, x_go 6]
def k_MO_qFact_5 : List AI := [x_ic 9, x_fall 6]
def k_MO_qFact_6 : List AI := [x_calv0 MO_qCode 2 11, x_ret]
def kb_MO_qFact : List (List AI) := [k_MO_qFact_0, k_MO_qFact_1, k_MO_qFact_2, k_MO_qFact_3, k_MO_qFact_4, k_MO_qFact_5, k_MO_qFact_6]
def k_MO_qHasSquare_0 : List AI := [x_ic 0, x_s1i 1, x_fall 1]
def k_MO_qHasSquare_1 : List AI := [x_ldi 1, x_lda 0, x_gi 90 11, x_icge 3, x_lda 0, x_ga 89 11, x_ldi 1, x_ali, x_ic 25, x_icne 2, x_ic 1, x_rz]
def k_MO_qHasSquare_2 : List AI := [x_inc 1 1, x_go 1]
def k_MO_qHasSquare_3 : List AI := [x_ic 0, x_rz]
def kb_MO_qHasSquare : List (List AI) := [k_MO_qHasSquare_0, k_MO_qHasSquare_1, k_MO_qHasSquare_2, k_MO_qHasSquare_3]
def k_MO_qDropsNots_0 : List AI := [x_lda 0, x_gi 5 11, x_ifne 1, x_lda 0, x_ic 12, x_calv MO_qIsOn 2 11, x_ifeq 1, x_lda 0, x_dup, x_gi 91 11, x_ic 1, x_isub, x_pi 91 11, x_lda 0, x_calv0 MO_qDrops 1 11, x_go 0]
def k_MO_qDropsNots_1 : List AI := [x_ret]
def kb_MO_qDropsNots : List (List AI) := [k_MO_qDropsNots_0, k_MO_qDropsNots_1]
def k_MO_qTest_0 : List AI := [x_ic 1, x_s1i 1, x_fall 1]
def k_MO_qTest_1 : List AI := [x_ldi 1, x_ifeq 6, x_lda 0, x_gi 5 11, x_ifne 6, x_lda 0, x_calv MO_look 1 11, x_s1i 2, x_ldi 2, x_ic 91, x_icne 2, x_lda 0, x_ic 25, x_lda 0, x_gi 2 11, x_calv0 MO_qOpens 3 11, x_lda 0, x_dup, x_gi 2 11, x_ic 1, x_iadd, x_pi 2 11, x_go 1]
def k_MO_qTest_2 : List AI := [x_lda 0, x_lda 0, x_ga 76 11, x_calv MO_isHere 2 11, x_ifeq 3, x_lda 0, x_ic 12, x_lda 0, x_gi 2 11, x_calv0 MO_qOpens 3 11, x_lda 0, x_lda 0, x_ga 76 11, x_calv0 MO_asks 2 11, x_go 1]
def k_MO_qTest_3 : List AI := [x_lda 0, x_calv0 MO_qFact 1 11, x_lda 0, x_calv0 MO_qDropsNots 1 11, x_lda 0, x_gi 5 11, x_ifne 4, x_lda 0, x_calv MO_qGoesOnTest 1 11, x_ifeq 4, x_ic 1, x_go 5]
def k_MO_qTest_4 : List AI := [x_ic 0, x_fall 5]
def k_MO_qTest_5 : List AI := [x_s1i 1, x_go 1]
def k_MO_qTest_6 : List AI := [x_lda 0, x_gi 5 11, x_ifne 7, x_lda 0, x_gi 90 11, x_ifle 7, x_lda 0, x_calv0 MO_qDrops 1 11, x_go 6]
def k_MO_qTest_7 : List AI := [x_ret]
def kb_MO_qTest : List (List AI) := [k_MO_qTest_0, k_MO_qTest_1, k_MO_qTest_2, k_MO_qTest_3, k_MO_qTest_4, k_MO_qTest_5, k_MO_qTest_6, k_MO_qTest_7]
def k_MO_qGoesOnTest_0 : List AI := [x_lda 0, x_gi 5 11, x_ifne 3, x_lda 0, x_calv MO_look 1 11, x_ic 93, x_icne 3, x_lda 0, x_calv MO_qHasSquare 1 11, x_ifeq 3, x_lda 0, x_dup, x_gi 2 11, x_ic 1, x_iadd, x_pi 2 11, x_fall 1]
def k_MO_qGoesOnTest_1 : List AI := [x_lda 0, x_ic 25, x_calv MO_qIsOn 2 11, x_ifne 2, x_lda 0, x_calv0 MO_qDrops 1 11, x_go 1]
def k_MO_qGoesOnTest_2 : List AI := [x_lda 0, x_dup, x_gi 90 11, x_ic 1, x_isub, x_pi 90 11, x_lda 0, x_dup, x_gi 91 11, x_ic 1, x_isub, x_pi 91 11, x_lda 0, x_calv0 MO_qDropsNots 1 11, x_go 0]
def k_MO_qGoesOnTest_3 : List AI := [x_lda 0, x_lda 0, x_ga 77 11, x_calv MO_takes 2 11, x_ifeq 6, x_fall 4]
def k_MO_qGoesOnTest_4 : List AI := [x_lda 0, x_ic 10, x_calv MO_qIsOn 2 11, x_ifeq 5, x_lda 0, x_calv0 MO_qDrops 1 11, x_go 4]
def k_MO_qGoesOnTest_5 : List AI := [x_lda 0, x_ga 89 11, x_lda 0, x_gi 90 11, x_ic 10, x_asi, x_lda 0, x_dup, x_gi 90 11, x_ic 1, x_iadd, x_pi 90 11, x_ic 1, x_rz]
def k_MO_qGoesOnTest_6 : List AI := [x_lda 0, x_lda 0, x_ga 78 11, x_calv MO_takes 2 11, x_ifeq 10, x_fall 7]
def k_MO_qGoesOnTest_7 : List AI := [x_lda 0, x_ic 10, x_calv MO_qIsOn 2 11, x_ifne 8, x_lda 0, x_ic 11, x_calv MO_qIsOn 2 11, x_ifeq 9, x_fall 8]
def k_MO_qGoesOnTest_8 : List AI := [x_lda 0, x_calv0 MO_qDrops 1 11, x_go 7]
def k_MO_qGoesOnTest_9 : List AI := [x_lda 0, x_ga 89 11, x_lda 0, x_gi 90 11, x_ic 11, x_asi, x_lda 0, x_dup, x_gi 90 11, x_ic 1, x_iadd, x_pi 90 11, x_ic 1, x_rz]
def k_MO_qGoesOnTest_10 : List AI := [x_lda 0, x_gi 5 11, x_ifne 11, x_lda 0, x_calv MO_qHasSquare 1 11, x_ifeq 11, x_lda 0, x_ic 1, x_lda 0, x_gi 2 11, x_calv0 MO_fail 3 11, x_fall 11]
def k_MO_qGoesOnTest_11 : List AI := [x_ic 0, x_rz]
def kb_MO_qGoesOnTest : List (List AI) := [k_MO_qGoesOnTest_0, k_MO_qGoesOnTest_1, k_MO_qGoesOnTest_2, k_MO_qGoesOnTest_3, k_MO_qGoesOnTest_4, k_MO_qGoesOnTest_5, k_MO_qGoesOnTest_6, k_MO_qGoesOnTest_7, k_MO_qGoesOnTest_8, k_MO_qGoesOnTest_9, k_MO_qGoesOnTest_10, k_MO_qGoesOnTest_11]
def k_MO_qClip_0 : List AI := [x_ldl 0, x_lc 1000000, x_lcmp, x_ifle 1, x_lc 1000000, x_go 3]
def k_MO_qClip_1 : List AI := [x_ldl 0, x_lc (-1000000), x_lcmp, x_ifge 2, x_lc (-1000000), x_go 3]
def k_MO_qClip_2 : List AI := [x_ldl 0, x_fall 3]
def k_MO_qClip_3 : List AI := [x_rl]
def kb_MO_qClip : List (List AI) := [k_MO_qClip_0, k_MO_qClip_1, k_MO_qClip_2, k_MO_qClip_3]
def k_MO_qFloor_0 : List AI := [x_ldl 2, x_lc 0, x_lcmp, x_ifne 1, x_lc 0, x_rl]
def k_MO_qFloor_1 : List AI := [x_ldl 0, x_ldl 2, x_ldiv, x_s2 4, x_ldl 0, x_ldl 2, x_lrem, x_lc 0, x_lcmp, x_ifeq 6, x_ldl 0, x_lc 0, x_lcmp, x_ifge 2, x_ic 1, x_go 3]
def k_MO_qFloor_2 : List AI := [x_ic 0, x_fall 3]
def k_MO_qFloor_3 : List AI := [x_ldl 2, x_lc 0, x_lcmp, x_ifge 4, x_ic 1, x_go 5]
def k_MO_qFloor_4 : List AI := [x_ic 0, x_fall 5]
def k_MO_qFloor_5 : List AI := [x_iceq 6, x_ldl 4, x_lc 1, x_lsub, x_go 7]
def k_MO_qFloor_6 : List AI := [x_ldl 4, x_fall 7]
def k_MO_qFloor_7 : List AI := [x_rl]
def kb_MO_qFloor : List (List AI) := [k_MO_qFloor_0, k_MO_qFloor_1, k_MO_qFloor_2, k_MO_qFloor_3, k_MO_qFloor_4, k_MO_qFloor_5, k_MO_qFloor_6, k_MO_qFloor_7]
def k_MO_qPuts_0 : List AI := [x_lda 0, x_ga 93 11, x_lda 0, x_gi 94 11, x_ldl 1, x_asl, x_lda 0, x_dup, x_gi 94 11, x_ic 1, x_iadd, x_pi 94 11, x_ret]
def kb_MO_qPuts : List (List AI) := [k_MO_qPuts_0]
def k_MO_qJoins_0 : List AI := [x_lda 0, x_ga 93 11, x_lda 0, x_gi 94 11, x_ic 1, x_isub, x_all, x_s2 2, x_lda 0, x_ga 93 11, x_lda 0, x_gi 94 11, x_ic 2, x_isub, x_all, x_s2 4, x_lda 0, x_dup, x_gi 94 11, x_ic 2, x_isub, x_pi 94 11, x_ldi 1, x_sw 21 [(1, 1), (2, 2), (3, 3), (4, 4), (5, 5), (6, 8), (7, 11), (8, 14), (9, 17), (10, 20)]]
def k_MO_qJoins_1 : List AI := [x_lda 0, x_ldl 4, x_ldl 2, x_ladd, x_call MO_qClip 1, x_calv0 MO_qPuts 2 11, x_go 24]
def k_MO_qJoins_2 : List AI := [x_lda 0, x_ldl 4, x_ldl 2, x_lsub, x_call MO_qClip 1, x_calv0 MO_qPuts 2 11, x_go 24]
def k_MO_qJoins_3 : List AI := [x_lda 0, x_ldl 4, x_ldl 2, x_lmul, x_call MO_qClip 1, x_calv0 MO_qPuts 2 11, x_go 24]
def k_MO_qJoins_4 : List AI := [x_lda 0, x_ldl 4, x_ldl 2, x_call MO_qFloor 2, x_calv0 MO_qPuts 2 11, x_go 24]
def k_MO_qJoins_5 : List AI := [x_lda 0, x_ldl 4, x_ldl 2, x_lcmp, x_ifge 6, x_ldl 4, x_go 7]
def k_MO_qJoins_6 : List AI := [x_ldl 2, x_fall 7]
def k_MO_qJoins_7 : List AI := [x_calv0 MO_qPuts 2 11, x_go 24]
def k_MO_qJoins_8 : List AI := [x_lda 0, x_ldl 4, x_ldl 2, x_lcmp, x_ifle 9, x_ldl 4, x_go 10]
def k_MO_qJoins_9 : List AI := [x_ldl 2, x_fall 10]
def k_MO_qJoins_10 : List AI := [x_calv0 MO_qPuts 2 11, x_go 24]
def k_MO_qJoins_11 : List AI := [x_lda 0, x_ldl 4, x_ldl 2, x_lcmp, x_ifge 12, x_lc 1, x_go 13]
def k_MO_qJoins_12 : List AI := [x_lc 0, x_fall 13]
def k_MO_qJoins_13 : List AI := [x_calv0 MO_qPuts 2 11, x_go 24]
def k_MO_qJoins_14 : List AI := [x_lda 0, x_ldl 4, x_ldl 2, x_lcmp, x_ifle 15, x_lc 1, x_go 16]
def k_MO_qJoins_15 : List AI := [x_lc 0, x_fall 16]
def k_MO_qJoins_16 : List AI := [x_calv0 MO_qPuts 2 11, x_go 24]
def k_MO_qJoins_17 : List AI := [x_lda 0, x_ldl 4, x_ldl 2, x_lcmp, x_ifne 18, x_lc 1, x_go 19]
def k_MO_qJoins_18 : List AI := [x_lc 0, x_fall 19]
def k_MO_qJoins_19 : List AI := [x_calv0 MO_qPuts 2 11, x_go 24]
def k_MO_qJoins_20 : List AI := [x_lda 0, x_ldl 4, x_ldl 2, x_lmul, x_calv0 MO_qPuts 2 11, x_go 24]
def k_MO_qJoins_21 : List AI := [x_lda 0, x_ldl 4, x_ldl 2, x_ladd, x_lc 0, x_lcmp, x_ifle 22, x_lc 1, x_go 23]
def k_MO_qJoins_22 : List AI := [x_lc 0, x_fall 23]
def k_MO_qJoins_23 : List AI := [x_calv0 MO_qPuts 2 11, x_fall 24]
def k_MO_qJoins_24 : List AI := [x_ret]
def kb_MO_qJoins : List (List AI) := [k_MO_qJoins_0, k_MO_qJoins_1, k_MO_qJoins_2, k_MO_qJoins_3, k_MO_qJoins_4, k_MO_qJoins_5, k_MO_qJoins_6, k_MO_qJoins_7, k_MO_qJoins_8, k_MO_qJoins_9, k_MO_qJoins_10, k_MO_qJoins_11, k_MO_qJoins_12, k_MO_qJoins_13, k_MO_qJoins_14, k_MO_qJoins_15, k_MO_qJoins_16, k_MO_qJoins_17, k_MO_qJoins_18, k_MO_qJoins_19, k_MO_qJoins_20, k_MO_qJoins_21, k_MO_qJoins_22, k_MO_qJoins_23, k_MO_qJoins_24]
def k_MO_qPartOf_0 : List AI := [x_ldi 1, x_lsw 3 [(0, 1), (1, 2)]]
def k_MO_qPartOf_1 : List AI := [x_ldi 2, x_i2l, x_rl]
def k_MO_qPartOf_2 : List AI := [x_lda 0, x_ldi 2, x_calv MO_qOffAt 2 11, x_rl]
def k_MO_qPartOf_3 : List AI := [x_lda 0, x_ldi 2, x_calv MO_qIsGoodAt 2 11, x_rl]
def kb_MO_qPartOf : List (List AI) := [k_MO_qPartOf_0, k_MO_qPartOf_1, k_MO_qPartOf_2, k_MO_qPartOf_3]
def k_MO_qOf_0 : List AI := [x_ldi 1, x_lsw 4 [(0, 1)]]
def k_MO_qOf_1 : List AI := [x_ldl 2, x_lc 0, x_lc 3, x_call MO_isIn 3, x_ifeq 2, x_lda 0, x_ldl 2, x_l2i, x_lda 0, x_gi 49 11, x_ldi 4, x_calv MO_swingBy 4 11, x_go 3]
def k_MO_qOf_2 : List AI := [x_lc 0, x_fall 3]
def k_MO_qOf_3 : List AI := [x_rl]
def k_MO_qOf_4 : List AI := [x_ldl 2, x_lc 0, x_lda 0, x_calv MO_rowers 1 11, x_ic 1, x_isub, x_i2l, x_call MO_isIn 3, x_ifeq 5, x_lda 0, x_ldl 2, x_l2i, x_ldi 4, x_calv MO_strengthAt 3 11, x_i2l, x_go 6]
def k_MO_qOf_5 : List AI := [x_lc 0, x_fall 6]
def k_MO_qOf_6 : List AI := [x_rl]
def kb_MO_qOf : List (List AI) := [k_MO_qOf_0, k_MO_qOf_1, k_MO_qOf_2, k_MO_qOf_3, k_MO_qOf_4, k_MO_qOf_5, k_MO_qOf_6]
def k_MO_qTold_0 : List AI := [x_lda 0, x_ic 0, x_pi 94 11, x_ic 0, x_s1i 2, x_fall 1]
def k_MO_qTold_1 : List AI := [x_ldi 2, x_lda 0, x_gi 88 11, x_icge 8, x_lda 0, x_ga 87 11, x_ldi 2, x_ali, x_s1i 3, x_ldi 3, x_ic 1000, x_iclt 2, x_lda 0, x_ldi 3, x_ic 1000, x_isub, x_i2l, x_calv0 MO_qPuts 2 11, x_go 7]
def k_MO_qTold_2 : List AI := [x_ldi 3, x_ic 60, x_iclt 3, x_lda 0, x_ga 93 11, x_lda 0, x_gi 94 11, x_ic 1, x_isub, x_lda 0, x_ldi 3, x_ic 60, x_isub, x_lda 0, x_ga 93 11, x_lda 0, x_gi 94 11, x_ic 1, x_isub, x_all, x_ldi 1, x_calv MO_qOf 4 11, x_call MO_qClip 1, x_asl, x_go 7]
def k_MO_qTold_3 : List AI := [x_ldi 3, x_ic 40, x_iclt 4, x_lda 0, x_lda 0, x_ldi 3, x_ic 40, x_isub, x_ldi 1, x_calv MO_qPartOf 3 11, x_call MO_qClip 1, x_calv0 MO_qPuts 2 11, x_go 7]
def k_MO_qTold_4 : List AI := [x_ldi 3, x_ic 13, x_icne 5, x_lda 0, x_lc 1, x_calv0 MO_qPuts 2 11, x_go 7]
def k_MO_qTold_5 : List AI := [x_ldi 3, x_ic 12, x_icne 6, x_lda 0, x_ga 93 11, x_lda 0, x_gi 94 11, x_ic 1, x_isub, x_lc 1, x_lda 0, x_ga 93 11, x_lda 0, x_gi 94 11, x_ic 1, x_isub, x_all, x_lsub, x_asl, x_go 7]
def k_MO_qTold_6 : List AI := [x_lda 0, x_ldi 3, x_calv0 MO_qJoins 2 11, x_fall 7]
def k_MO_qTold_7 : List AI := [x_inc 2 1, x_go 1]
def k_MO_qTold_8 : List AI := [x_lda 0, x_ga 93 11, x_ic 0, x_all, x_rl]
def kb_MO_qTold : List (List AI) := [k_MO_qTold_0, k_MO_qTold_1, k_MO_qTold_2, k_MO_qTold_3, k_MO_qTold_4, k_MO_qTold_5, k_MO_qTold_6, k_MO_qTold_7, k_MO_qTold_8]
def k_MO_qKind_0 : List AI := [x_lda 0, x_lda 0, x_ga 70 11, x_calv MO_takes 2 11, x_ifeq 1, x_ic 0, x_go 6]
def k_MO_qKind_1 : List AI := [x_lda 0, x_lda 0, x_ga 71 11, x_calv MO_takes 2 11, x_ifeq 2, x_ic 1, x_go 6]
def k_MO_qKind_2 : List AI := [x_lda 0, x_lda 0, x_ga 72 11, x_calv MO_takes 2 11, x_ifeq 3, x_ic 2, x_go 6]
def k_MO_qKind_3 : List AI := [x_lda 0, x_lda 0, x_ga 73 11, x_calv MO_takes 2 11, x_ifeq 4, x_ic 3, x_go 6]
def k_MO_qKind_4 : List AI := [x_lda 0, x_lda 0, x_ga 74 11, x_calv MO_takes 2 11, x_ifeq 5, x_ic 4, x_go 6]
def k_MO_qKind_5 : List AI := [x_ic 5, x_fall 6]
def k_MO_qKind_6 : List AI := [x_s1i 1, x_ldi 1, x_ic 5, x_icne 7, x_lda 0, x_lda 0, x_ga 75 11, x_calv0 MO_asks 2 11, x_fall 7]
def k_MO_qKind_7 : List AI := [x_ldi 1, x_ri]
def kb_MO_qKind : List (List AI) := [k_MO_qKind_0, k_MO_qKind_1, k_MO_qKind_2, k_MO_qKind_3, k_MO_qKind_4, k_MO_qKind_5, k_MO_qKind_6, k_MO_qKind_7]
def k_MO_qTakes_0 : List AI := [x_ldi 1, x_ic 3, x_icge 1, x_ldl 2, x_lc 1, x_lcmp, x_ifne 1, x_ic 1, x_go 2]
def k_MO_qTakes_1 : List AI := [x_ic 0, x_fall 2]
def k_MO_qTakes_2 : List AI := [x_s1i 5, x_ldi 1, x_ifne 3, x_ldi 5, x_ifeq 3, x_lda 0, x_gl 95 11, x_lc (-1), x_lcmp, x_ifeq 4, x_fall 3]
def k_MO_qTakes_3 : List AI := [x_ldi 1, x_ic 1, x_icne 5, x_ldi 5, x_ifeq 5, x_fall 4]
def k_MO_qTakes_4 : List AI := [x_lda 0, x_ldi 4, x_i2l, x_pl 95 11, x_fall 5]
def k_MO_qTakes_5 : List AI := [x_ldi 1, x_ic 2, x_icne 6, x_ldi 5, x_ifeq 6, x_lda 0, x_dup, x_gl 95 11, x_lc 1, x_ladd, x_pl 95 11, x_fall 6]
def k_MO_qTakes_6 : List AI := [x_ldi 1, x_ic 3, x_icne 7, x_lda 0, x_dup, x_gl 95 11, x_ldl 2, x_ladd, x_pl 95 11, x_fall 7]
def k_MO_qTakes_7 : List AI := [x_ldi 1, x_ic 3, x_icle 10, x_lda 0, x_gi 96 11, x_ifne 9, x_ldi 1, x_ic 4, x_icne 8, x_ldl 2, x_lda 0, x_gl 95 11, x_lcmp, x_ifle 10, x_go 9]
def k_MO_qTakes_8 : List AI := [x_ldl 2, x_lda 0, x_gl 95 11, x_lcmp, x_ifge 10, x_fall 9]
def k_MO_qTakes_9 : List AI := [x_lda 0, x_ldl 2, x_pl 95 11, x_fall 10]
def k_MO_qTakes_10 : List AI := [x_lda 0, x_ic 0, x_pz 96 11, x_ret]
def kb_MO_qTakes : List (List AI) := [k_MO_qTakes_0, k_MO_qTakes_1, k_MO_qTakes_2, k_MO_qTakes_3, k_MO_qTakes_4, k_MO_qTakes_5, k_MO_qTakes_6, k_MO_qTakes_7, k_MO_qTakes_8, k_MO_qTakes_9, k_MO_qTakes_10]
def k_MO_ask_0 : List AI := [x_lda 0, x_lda 0, x_gi 1 11, x_pi 3 11, x_lda 0, x_ic 0, x_pi 1 11, x_lda 0, x_ic 0, x_pi 2 11, x_lda 0, x_ic (-1), x_pi 4 11, x_lda 0, x_ic 0, x_pi 5 11, x_lda 0, x_ic (-1), x_pi 6 11, x_lda 0, x_ic 0, x_pi 88 11, x_lda 0, x_ic 0, x_pi 90 11, x_lda 0, x_ic 0, x_pi 91 11, x_lda 0, x_ic 0, x_pi 92 11, x_lda 0, x_calv MO_qKind 1 11, x_s1i 1, x_lda 0, x_gi 5 11, x_ifne 1, x_ldi 1, x_ic 3, x_icge 1, x_lda 0, x_calv0 MO_qTest 1 11, x_go 2]
def k_MO_ask_1 : List AI := [x_lda 0, x_gi 5 11, x_ifne 2, x_lda 0, x_calv0 MO_qSums 1 11, x_fall 2]
def k_MO_ask_2 : List AI := [x_lda 0, x_gi 5 11, x_ifne 3, x_lda 0, x_calv MO_look 1 11, x_ic (-1), x_iceq 3, x_lda 0, x_ic 1, x_lda 0, x_gi 2 11, x_calv0 MO_fail 3 11, x_fall 3]
def k_MO_ask_3 : List AI := [x_lda 0, x_lda 0, x_gi 5 11, x_pi 7 11, x_lda 0, x_lda 0, x_gi 6 11, x_pi 8 11, x_lda 0, x_gi 5 11, x_ifeq 4, x_lc (-1000000000000000), x_rl]
def k_MO_ask_4 : List AI := [x_lda 0, x_ldi 1, x_ic 2, x_icge 5, x_lc (-1), x_go 6]
def k_MO_ask_5 : List AI := [x_lc 0, x_fall 6]
def k_MO_ask_6 : List AI := [x_pl 95 11, x_lda 0, x_ic 1, x_pz 96 11, x_lda 0, x_gi 47 11, x_ic 100, x_iadd, x_ic 9999, x_icle 7, x_ic 9999, x_go 8]
def k_MO_ask_7 : List AI := [x_lda 0, x_gi 47 11, x_ic 100, x_iadd, x_fall 8]
def k_MO_ask_8 : List AI := [x_s1i 2, x_lda 0, x_gi 47 11, x_s1i 3, x_fall 9]
def k_MO_ask_9 : List AI := [x_ldi 3, x_ldi 2, x_icgt 10, x_lda 0, x_ldi 1, x_lda 0, x_ldi 3, x_calv MO_qTold 2 11, x_ldi 3, x_calv0 MO_qTakes 4 11, x_inc 3 1, x_go 9]
def k_MO_ask_10 : List AI := [x_lda 0, x_gl 95 11, x_rl]
def kb_MO_ask : List (List AI) := [k_MO_ask_0, k_MO_ask_1, k_MO_ask_2, k_MO_ask_3, k_MO_ask_4, k_MO_ask_5, k_MO_ask_6, k_MO_ask_7, k_MO_ask_8, k_MO_ask_9, k_MO_ask_10]
def k_MO_qOffAt_0 : List AI := [x_lda 0, x_gi 47 11, x_s1i 2, x_lda 0, x_ldi 1, x_pi 47 11, x_lda 0, x_lda 0, x_gi 49 11, x_calv MO_offBy 2 11, x_s2 3, x_lda 0, x_ldi 2, x_pi 47 11, x_ldl 3, x_rl]
def kb_MO_qOffAt : List (List AI) := [k_MO_qOffAt_0]
def k_MO_qIsGoodAt_0 : List AI := [x_lda 0, x_gi 47 11, x_s1i 2, x_lda 0, x_ldi 1, x_pi 47 11, x_lda 0, x_lda 0, x_gi 49 11, x_calv MO_isGood 2 11, x_s1i 3, x_lda 0, x_ldi 2, x_pi 47 11, x_ldi 3, x_ifeq 1, x_lc 1, x_go 2]
def k_MO_qIsGoodAt_1 : List AI := [x_lc 0, x_fall 2]
def k_MO_qIsGoodAt_2 : List AI := [x_rl]
def kb_MO_qIsGoodAt : List (List AI) := [k_MO_qIsGoodAt_0, k_MO_qIsGoodAt_1, k_MO_qIsGoodAt_2]
def k_MO_checked_0 : List AI := [x_ic 107, x_s1i 2, x_ic 0, x_s1i 3, x_fall 1]
def k_MO_checked_1 : List AI := [x_ldi 3, x_ldi 1, x_icge 2, x_ic 5, x_ldi 2, x_imul, x_lda 0, x_ldi 3, x_ali, x_iadd, x_ic 251, x_irem, x_s1i 2, x_inc 3 1, x_go 1]
def k_MO_checked_2 : List AI := [x_ldi 2, x_ri]
def kb_MO_checked : List (List AI) := [k_MO_checked_0, k_MO_checked_1, k_MO_checked_2]
def k_MO_image_0 : List AI := [x_lda 0, x_ga 97 11, x_ic 0, x_lda 0, x_gi 47 11, x_ic 256, x_idiv, x_asi, x_lda 0, x_ga 97 11, x_ic 1, x_lda 0, x_gi 47 11, x_ic 256, x_irem, x_asi, x_ic 0, x_s1i 1, x_fall 1]
def k_MO_image_1 : List AI := [x_ldi 1, x_ic 8, x_icge 2, x_lda 0, x_ga 97 11, x_ic 2, x_ldi 1, x_iadd, x_lda 0, x_gl 48 11, x_ic 56, x_ic 8, x_ldi 1, x_imul, x_isub, x_lshr, x_lc 255, x_land, x_l2i, x_asi, x_inc 1 1, x_go 1]
def k_MO_image_2 : List AI := [x_lda 0, x_ic 10, x_pi 98 11, x_ic 0, x_s1i 1, x_fall 3]
def k_MO_image_3 : List AI := [x_ldi 1, x_lda 0, x_calv MO_seats 1 11, x_icge 4, x_lda 0, x_ga 97 11, x_lda 0, x_gi 98 11, x_lda 0, x_ga 50 11, x_ldi 1, x_ali, x_ic 1, x_iadd, x_asi, x_lda 0, x_ga 97 11, x_lda 0, x_gi 98 11, x_ic 1, x_iadd, x_lda 0, x_gi 49 11, x_ldi 1, x_ishr, x_ic 1, x_iand, x_asi, x_lda 0, x_dup, x_gi 98 11, x_ic 2, x_iadd, x_pi 98 11, x_inc 1 1, x_go 3]
def k_MO_image_4 : List AI := [x_lda 0, x_ga 97 11, x_lda 0, x_gi 98 11, x_lda 0, x_ga 97 11, x_lda 0, x_gi 98 11, x_call MO_checked 2, x_asi, x_lda 0, x_dup, x_gi 98 11, x_ic 1, x_iadd, x_pi 98 11, x_lda 0, x_gi 98 11, x_ri]
def kb_MO_image : List (List AI) := [k_MO_image_0, k_MO_image_1, k_MO_image_2, k_MO_image_3, k_MO_image_4]
def k_MO_octet_0 : List AI := [x_ldi 1, x_iflt 1, x_ldi 1, x_lda 0, x_gi 98 11, x_icge 1, x_lda 0, x_ga 97 11, x_ldi 1, x_ali, x_go 2]
def k_MO_octet_1 : List AI := [x_ic (-1), x_fall 2]
def k_MO_octet_2 : List AI := [x_ri]
def kb_MO_octet : List (List AI) := [k_MO_octet_0, k_MO_octet_1, k_MO_octet_2]
def k_MO_isImage_0 : List AI := [x_ldi 1, x_ic 11, x_ic 2, x_lda 0, x_calv MO_seats 1 11, x_imul, x_iadd, x_icne 1, x_lda 0, x_ga 0 11, x_ldi 1, x_ic 1, x_isub, x_ali, x_lda 0, x_ga 0 11, x_ldi 1, x_ic 1, x_isub, x_call MO_checked 2, x_icne 1, x_ic 256, x_lda 0, x_ga 0 11, x_ic 0, x_ali, x_imul, x_lda 0, x_ga 0 11, x_ic 1, x_ali, x_iadd, x_ic 9999, x_icle 2, x_fall 1]
def k_MO_isImage_1 : List AI := [x_ic 0, x_rz]
def k_MO_isImage_2 : List AI := [x_ic 0, x_s1i 2, x_ic 0, x_s1i 3, x_ic 0, x_s1i 4, x_fall 3]
def k_MO_isImage_3 : List AI := [x_ldi 4, x_lda 0, x_calv MO_seats 1 11, x_icge 8, x_lda 0, x_ga 0 11, x_ic 10, x_ic 2, x_ldi 4, x_imul, x_iadd, x_ali, x_s1i 5, x_ldi 5, x_ifle 4, x_inc 3 1, x_fall 4]
def k_MO_isImage_4 : List AI := [x_lda 0, x_ga 0 11, x_ic 11, x_ic 2, x_ldi 4, x_imul, x_iadd, x_ali, x_s1i 6, x_ldi 5, x_lda 0, x_calv MO_rowers 1 11, x_icgt 5, x_ldi 6, x_ic 1, x_icgt 5, x_ldi 5, x_ifle 6, x_ldi 2, x_ldi 5, x_ishr, x_ic 1, x_iand, x_ic 1, x_icne 6, x_fall 5]
def k_MO_isImage_5 : List AI := [x_ic 0, x_rz]
def k_MO_isImage_6 : List AI := [x_lda 0, x_ldi 4, x_calv MO_isFixed 2 11, x_ifeq 7, x_ldi 6, x_lda 0, x_ga 32 11, x_ic 12, x_ldi 4, x_iadd, x_ali, x_ic 1, x_isub, x_iceq 7, x_ic 0, x_rz]
def k_MO_isImage_7 : List AI := [x_ldi 2, x_ic 1, x_ldi 5, x_ishl, x_ior, x_s1i 2, x_inc 4 1, x_go 3]
def k_MO_isImage_8 : List AI := [x_ldi 3, x_lda 0, x_calv MO_seats 1 11, x_lda 0, x_calv MO_rowers 1 11, x_icge 9, x_lda 0, x_calv MO_seats 1 11, x_go 10]
def k_MO_isImage_9 : List AI := [x_lda 0, x_calv MO_rowers 1 11, x_fall 10]
def k_MO_isImage_10 : List AI := [x_icne 11, x_ic 1, x_go 12]
def k_MO_isImage_11 : List AI := [x_ic 0, x_fall 12]
def k_MO_isImage_12 : List AI := [x_rz]
def kb_MO_isImage : List (List AI) := [k_MO_isImage_0, k_MO_isImage_1, k_MO_isImage_2, k_MO_isImage_3, k_MO_isImage_4, k_MO_isImage_5, k_MO_isImage_6, k_MO_isImage_7, k_MO_isImage_8, k_MO_isImage_9, k_MO_isImage_10, k_MO_isImage_11, k_MO_isImage_12]
def k_MO_on_0 : List AI := [x_lda 0, x_gi 1 11, x_s1i 1, x_lda 0, x_ic 0, x_pi 1 11, x_lda 0, x_ldi 1, x_calv MO_isImage 2 11, x_ifne 1, x_lda 0, x_ga 9 11, x_ic 5, x_dup2, x_ali, x_ic 1, x_iadd, x_asi, x_ic 0, x_rz]
def k_MO_on_1 : List AI := [x_lda 0, x_ic 256, x_lda 0, x_ga 0 11, x_ic 0, x_ali, x_imul, x_lda 0, x_ga 0 11, x_ic 1, x_ali, x_iadd, x_pi 47 11, x_lda 0, x_lc 0, x_pl 48 11, x_ic 0, x_s1i 2, x_fall 2]
def k_MO_on_2 : List AI := [x_ldi 2, x_ic 8, x_icge 3, x_lda 0, x_lda 0, x_gl 48 11, x_ic 8, x_lshl, x_lda 0, x_ga 0 11, x_ic 2, x_ldi 2, x_iadd, x_ali, x_i2l, x_lor, x_pl 48 11, x_inc 2 1, x_go 2]
def k_MO_on_3 : List AI := [x_lda 0, x_ic 0, x_pi 49 11, x_ic 0, x_s1i 2, x_fall 4]
def k_MO_on_4 : List AI := [x_ldi 2, x_lda 0, x_calv MO_seats 1 11, x_icge 5, x_lda 0, x_ga 50 11, x_ldi 2, x_lda 0, x_ga 0 11, x_ic 10, x_ic 2, x_ldi 2, x_imul, x_iadd, x_ali, x_ic 1, x_isub, x_asi, x_lda 0, x_dup, x_gi 49 11, x_lda 0, x_ga 0 11, x_ic 11, x_ic 2, x_ldi 2, x_imul, x_iadd, x_ali, x_ldi 2, x_ishl, x_ior, x_pi 49 11, x_inc 2 1, x_go 4]
def k_MO_on_5 : List AI := [x_lda 0, x_ic 0, x_pi 55 11, x_ic 1, x_rz]
def kb_MO_on : List (List AI) := [k_MO_on_0, k_MO_on_1, k_MO_on_2, k_MO_on_3, k_MO_on_4, k_MO_on_5]
def k_MO_status_0 : List AI := [x_ldi 1, x_i2l, x_lc 0, x_lc 5, x_call MO_isIn 3, x_ifeq 1, x_lda 0, x_ga 9 11, x_ldi 1, x_ali, x_go 2]
def k_MO_status_1 : List AI := [x_ic (-1), x_fall 2]
def k_MO_status_2 : List AI := [x_ri]
def kb_MO_status : List (List AI) := [k_MO_status_0, k_MO_status_1, k_MO_status_2]
def k_LW_law_0 : List AI := [x_new 10, x_dup, x_cals0 EO_init 1 10, x_s1a 1, x_new 11, x_dup, x_cals0 MO_init 1 11, x_s1a 2, x_ic 0, x_s1i 3, x_fall 1]
def k_LW_law_1 : List AI := [x_ldi 3, x_lda 0, x_scn, x_ic 6, x_isub, x_icgt 47, x_lda 0, x_ldi 3, x_scl, x_ic 63, x_iand, x_sw 46 [(0, 2), (1, 3), (2, 4), (3, 5), (4, 6), (5, 7), (6, 8), (7, 9), (8, 10), (9, 11), (10, 12), (11, 13), (12, 14), (13, 15), (14, 16), (15, 17), (16, 18), (17, 19), (18, 20), (19, 21), (20, 22), (21, 23), (22, 24), (23, 25), (24, 26), (25, 27), (26, 28), (27, 29), (28, 30), (29, 31), (30, 32), (31, 33), (32, 34), (33, 35), (34, 36), (35, 41), (36, 42), (37, 43), (38, 44), (39, 45)]]
def k_LW_law_2 : List AI := [x_lda 1, x_lda 0, x_ldi 3, x_ic 1, x_iadd, x_scl, x_lda 0, x_ldi 3, x_ic 2, x_iadd, x_scl, x_lda 0, x_ldi 3, x_ic 3, x_iadd, x_scl, x_lda 0, x_ldi 3, x_ic 4, x_iadd, x_scl, x_lda 0, x_ldi 3, x_ic 5, x_iadd, x_scl, x_calv EO_feed 6 10, x_lda 2, x_lda 0, x_ldi 3, x_ic 1, x_iadd, x_scl, x_lda 0, x_ldi 3, x_ic 2, x_iadd, x_scl, x_lda 0, x_ldi 3, x_ic 3, x_iadd, x_scl, x_lda 0, x_ldi 3, x_ic 4, x_iadd, x_scl, x_lda 0, x_ldi 3, x_ic 5, x_iadd, x_scl, x_calv MO_feed 6 11, x_iceq 46, x_ic 0, x_rz]
def k_LW_law_3 : List AI := [x_lda 1, x_lda 0, x_ldi 3, x_ic 1, x_iadd, x_scl, x_calv EO_end 2 10, x_lda 2, x_lda 0, x_ldi 3, x_ic 1, x_iadd, x_scl, x_calv MO_end 2 11, x_iceq 46, x_ic 0, x_rz]
def k_LW_law_4 : List AI := [x_lda 1, x_calv EO_text 1 10, x_lda 2, x_calv MO_text 1 11, x_iceq 46, x_ic 0, x_rz]
def k_LW_law_5 : List AI := [x_lda 1, x_lda 0, x_ldi 3, x_ic 1, x_iadd, x_scl, x_calv EO_fault 2 10, x_lda 2, x_lda 0, x_ldi 3, x_ic 1, x_iadd, x_scl, x_calv MO_fault 2 11, x_iceq 46, x_ic 0, x_rz]
def k_LW_law_6 : List AI := [x_lda 1, x_lda 0, x_ldi 3, x_ic 1, x_iadd, x_scl, x_calv EO_boat 2 10, x_lda 2, x_lda 0, x_ldi 3, x_ic 1, x_iadd, x_scl, x_calv MO_boat 2 11, x_iceq 46, x_ic 0, x_rz]
def k_LW_law_7 : List AI := [x_lda 1, x_lda 0, x_ldi 3, x_ic 1, x_iadd, x_scl, x_lda 0, x_ldi 3, x_ic 2, x_iadd, x_scl, x_calv EO_letter 3 10, x_lda 2, x_lda 0, x_ldi 3, x_ic 1, x_iadd, x_scl, x_lda 0, x_ldi 3, x_ic 2, x_iadd, x_scl, x_calv MO_letter 3 11, x_iceq 46, x_ic 0, x_rz]
def k_LW_law_8 : List AI := [x_lda 1, x_lda 0, x_ldi 3, x_ic 1, x_iadd, x_scl, x_lda 0, x_ldi 3, x_ic 2, x_iadd, x_scl, x_calv EO_seat 3 10, x_lda 2, x_lda 0, x_ldi 3, x_ic 1, x_iadd, x_scl, x_lda 0, x_ldi 3, x_ic 2, x_iadd, x_scl, x_calv MO_seat 3 11, x_iceq 46, x_ic 0, x_rz]
def k_LW_law_9 : List AI := [x_lda 1, x_lda 0, x_ldi 3, x_ic 1, x_iadd, x_scl, x_lda 0, x_ldi 3, x_ic 2, x_iadd, x_scl, x_calv EO_rower 3 10, x_lda 2, x_lda 0, x_ldi 3, x_ic 1, x_iadd, x_scl, x_lda 0, x_ldi 3, x_ic 2, x_iadd, x_scl, x_calv MO_rower 3 11, x_iceq 46, x_ic 0, x_rz]
def k_LW_law_10 : List AI := [x_lda 1, x_lda 0, x_ldi 3, x_ic 1, x_iadd, x_scl, x_calv EO_want 2 10, x_lda 2, x_lda 0, x_ldi 3, x_ic 1, x_iadd, x_scl, x_calv MO_want 2 11, x_lcmp, x_ifeq 46, x_ic 0, x_rz]
def k_LW_law_11 : List AI := [x_lda 1, x_lda 0, x_ldi 3, x_ic 1, x_iadd, x_scl, x_lda 0, x_ldi 3, x_ic 2, x_iadd, x_scl, x_calv EO_swing 3 10, x_lda 2, x_lda 0, x_ldi 3, x_ic 1, x_iadd, x_scl, x_lda 0, x_ldi 3, x_ic 2, x_iadd, x_scl, x_calv MO_swing 3 11, x_lcmp, x_ifeq 46, x_ic 0, x_rz]
def k_LW_law_12 : List AI := [x_lda 1, x_calv EO_off 1 10, x_lda 2, x_calv MO_off 1 11, x_lcmp, x_ifeq 46, x_ic 0, x_rz]
def k_LW_law_13 : List AI := [x_lda 1, x_calv EO_good 1 10, x_lda 2, x_calv MO_good 1 11, x_iceq 46, x_ic 0, x_rz]
def k_LW_law_14 : List AI := [x_lda 1, x_calv EO_lawful 1 10, x_lda 2, x_calv MO_lawful 1 11, x_iceq 46, x_ic 0, x_rz]
def k_LW_law_15 : List AI := [x_lda 1, x_calv EO_heading 1 10, x_lda 2, x_calv MO_heading 1 11, x_lcmp, x_ifeq 46, x_ic 0, x_rz]
def k_LW_law_16 : List AI := [x_lda 1, x_lda 0, x_ldi 3, x_ic 1, x_iadd, x_scl, x_calv EO_turn 2 10, x_lda 2, x_lda 0, x_ldi 3, x_ic 1, x_iadd, x_scl, x_calv MO_turn 2 11, x_iceq 46, x_ic 0, x_rz]
def k_LW_law_17 : List AI := [x_lda 1, x_lda 0, x_ldi 3, x_ic 1, x_iadd, x_scl, x_lda 0, x_ldi 3, x_ic 2, x_iadd, x_scl, x_calv EO_swap 3 10, x_lda 2, x_lda 0, x_ldi 3, x_ic 1, x_iadd, x_scl, x_lda 0, x_ldi 3, x_ic 2, x_iadd, x_scl, x_calv MO_swap 3 11, x_iceq 46, x_ic 0, x_rz]
def k_LW_law_18 : List AI := [x_lda 1, x_lda 0, x_ldi 3, x_ic 1, x_iadd, x_scl, x_calv EO_stroke 2 10, x_lda 2, x_lda 0, x_ldi 3, x_ic 1, x_iadd, x_scl, x_calv MO_stroke 2 11, x_iceq 46, x_ic 0, x_rz]
def k_LW_law_19 : List AI := [x_lda 1, x_lda 0, x_ldi 3, x_ic 1, x_iadd, x_scl, x_calv EO_row 2 10, x_lda 2, x_lda 0, x_ldi 3, x_ic 1, x_iadd, x_scl, x_calv MO_row 2 11, x_lcmp, x_ifeq 46, x_ic 0, x_rz]
def k_LW_law_20 : List AI := [x_lda 1, x_calv EO_undo 1 10, x_lda 2, x_calv MO_undo 1 11, x_iceq 46, x_ic 0, x_rz]
def k_LW_law_21 : List AI := [x_lda 1, x_lda 0, x_ldi 3, x_ic 1, x_iadd, x_scl, x_calv EO_seed 2 10, x_lda 2, x_lda 0, x_ldi 3, x_ic 1, x_iadd, x_scl, x_calv MO_seed 2 11, x_iceq 46, x_ic 0, x_rz]
def k_LW_law_22 : List AI := [x_lda 1, x_lda 0, x_ldi 3, x_ic 1, x_iadd, x_scl, x_calv EO_ways 2 10, x_lda 2, x_lda 0, x_ldi 3, x_ic 1, x_iadd, x_scl, x_calv MO_ways 2 11, x_lcmp, x_ifeq 46, x_ic 0, x_rz]
def k_LW_law_23 : List AI := [x_lda 1, x_lda 0, x_ldi 3, x_ic 1, x_iadd, x_scl, x_lda 0, x_ldi 3, x_ic 2, x_iadd, x_scl, x_calv EO_made 3 10, x_lda 2, x_lda 0, x_ldi 3, x_ic 1, x_iadd, x_scl, x_lda 0, x_ldi 3, x_ic 2, x_iadd, x_scl, x_calv MO_made 3 11, x_iceq 46, x_ic 0, x_rz]
def k_LW_law_24 : List AI := [x_lda 1, x_lda 0, x_ldi 3, x_ic 1, x_iadd, x_scl, x_lda 0, x_ldi 3, x_ic 2, x_iadd, x_scl, x_calv EO_doubled 3 10, x_lda 2, x_lda 0, x_ldi 3, x_ic 1, x_iadd, x_scl, x_lda 0, x_ldi 3, x_ic 2, x_iadd, x_scl, x_calv MO_doubled 3 11, x_lcmp, x_ifeq 46, x_ic 0, x_rz]
def k_LW_law_25 : List AI := [x_lda 1, x_lda 0, x_ldi 3, x_ic 1, x_iadd, x_scl, x_lda 0, x_ldi 3, x_ic 2, x_iadd, x_scl, x_calv EO_still 3 10, x_lda 2, x_lda 0, x_ldi 3, x_ic 1, x_iadd, x_scl, x_lda 0, x_ldi 3, x_ic 2, x_iadd, x_scl, x_calv MO_still 3 11, x_iceq 46, x_ic 0, x_rz]
def k_LW_law_26 : List AI := [x_lda 1, x_lda 0, x_ldi 3, x_ic 1, x_iadd, x_scl, x_calv EO_nearest 2 10, x_lda 2, x_lda 0, x_ldi 3, x_ic 1, x_iadd, x_scl, x_calv MO_nearest 2 11, x_lcmp, x_ifeq 46, x_ic 0, x_rz]
def k_LW_law_27 : List AI := [x_lda 1, x_lda 0, x_ldi 3, x_ic 1, x_iadd, x_scl, x_calv EO_seated 2 10, x_lda 2, x_lda 0, x_ldi 3, x_ic 1, x_iadd, x_scl, x_calv MO_seated 2 11, x_lcmp, x_ifeq 46, x_ic 0, x_rz]
def k_LW_law_28 : List AI := [x_lda 1, x_calv EO_changes 1 10, x_lda 2, x_calv MO_changes 1 11, x_iceq 46, x_ic 0, x_rz]
def k_LW_law_29 : List AI := [x_lda 1, x_lda 0, x_ldi 3, x_ic 1, x_iadd, x_scl, x_calv EO_race 2 10, x_lda 2, x_lda 0, x_ldi 3, x_ic 1, x_iadd, x_scl, x_calv MO_race 2 11, x_lcmp, x_ifeq 46, x_ic 0, x_rz]
def k_LW_law_30 : List AI := [x_lda 1, x_lda 0, x_ldi 3, x_ic 1, x_iadd, x_scl, x_lda 0, x_ldi 3, x_ic 2, x_iadd, x_scl, x_calv EO_stillest 3 10, x_lda 2, x_lda 0, x_ldi 3, x_ic 1, x_iadd, x_scl, x_lda 0, x_ldi 3, x_ic 2, x_iadd, x_scl, x_calv MO_stillest 3 11, x_lcmp, x_ifeq 46, x_ic 0, x_rz]
def k_LW_law_31 : List AI := [x_lda 1, x_lda 0, x_ldi 3, x_ic 1, x_iadd, x_scl, x_lda 0, x_ldi 3, x_ic 2, x_iadd, x_scl, x_calv EO_under 3 10, x_lda 2, x_lda 0, x_ldi 3, x_ic 1, x_iadd, x_scl, x_lda 0, x_ldi 3, x_ic 2, x_iadd, x_scl, x_calv MO_under 3 11, x_lcmp, x_ifeq 46, x_ic 0, x_rz]
def k_LW_law_32 : List AI := [x_lda 1, x_calv EO_fits 1 10, x_lda 2, x_calv MO_fits 1 11, x_iceq 46, x_ic 0, x_rz]
def k_LW_law_33 : List AI := [x_lda 1, x_lda 0, x_ldi 3, x_ic 1, x_iadd, x_scl, x_lda 0, x_ldi 3, x_ic 2, x_iadd, x_scl, x_calv EO_strengths 3 10, x_lda 2, x_lda 0, x_ldi 3, x_ic 1, x_iadd, x_scl, x_lda 0, x_ldi 3, x_ic 2, x_iadd, x_scl, x_calv MO_strengths 3 11, x_iceq 46, x_ic 0, x_rz]
def k_LW_law_34 : List AI := [x_lda 1, x_calv EO_crooked 1 10, x_lda 2, x_calv MO_crooked 1 11, x_iceq 46, x_ic 0, x_rz]
def k_LW_law_35 : List AI := [x_lda 1, x_lda 0, x_ldi 3, x_ic 1, x_iadd, x_scl, x_calv EO_heirs 2 10, x_lda 2, x_lda 0, x_ldi 3, x_ic 1, x_iadd, x_scl, x_calv MO_heirs 2 11, x_iceq 46, x_ic 0, x_rz]
def k_LW_law_36 : List AI := [x_lda 1, x_lda 0, x_ldi 3, x_ic 1, x_iadd, x_scl, x_lda 0, x_ldi 3, x_ic 2, x_iadd, x_scl, x_ifeq 37, x_ic 1, x_go 38]
def k_LW_law_37 : List AI := [x_ic 0, x_fall 38]
def k_LW_law_38 : List AI := [x_calv EO_apart 3 10, x_lda 2, x_lda 0, x_ldi 3, x_ic 1, x_iadd, x_scl, x_lda 0, x_ldi 3, x_ic 2, x_iadd, x_scl, x_ifeq 39, x_ic 1, x_go 40]
def k_LW_law_39 : List AI := [x_ic 0, x_fall 40]
def k_LW_law_40 : List AI := [x_calv MO_apart 3 11, x_lcmp, x_ifeq 46, x_ic 0, x_rz]
def k_LW_law_41 : List AI := [x_lda 1, x_calv EO_ask 1 10, x_lda 2, x_calv MO_ask 1 11, x_lcmp, x_ifeq 46, x_ic 0, x_rz]
def k_LW_law_42 : List AI := [x_lda 1, x_calv EO_image 1 10, x_lda 2, x_calv MO_image 1 11, x_iceq 46, x_ic 0, x_rz]
def k_LW_law_43 : List AI := [x_lda 1, x_lda 0, x_ldi 3, x_ic 1, x_iadd, x_scl, x_calv EO_octet 2 10, x_lda 2, x_lda 0, x_ldi 3, x_ic 1, x_iadd, x_scl, x_calv MO_octet 2 11, x_iceq 46, x_ic 0, x_rz]
def k_LW_law_44 : List AI := [x_lda 1, x_calv EO_on 1 10, x_lda 2, x_calv MO_on 1 11, x_iceq 46, x_ic 0, x_rz]
def k_LW_law_45 : List AI := [x_lda 1, x_lda 0, x_ldi 3, x_ic 1, x_iadd, x_scl, x_calv EO_status 2 10, x_lda 2, x_lda 0, x_ldi 3, x_ic 1, x_iadd, x_scl, x_calv MO_status 2 11, x_iceq 46, x_ic 0, x_rz]
def k_LW_law_46 : List AI := [x_inc 3 6, x_go 1]
def k_LW_law_47 : List AI := [x_ic 1, x_rz]
def kb_LW_law : List (List AI) := [k_LW_law_0, k_LW_law_1, k_LW_law_2, k_LW_law_3, k_LW_law_4, k_LW_law_5, k_LW_law_6, k_LW_law_7, k_LW_law_8, k_LW_law_9, k_LW_law_10, k_LW_law_11, k_LW_law_12, k_LW_law_13, k_LW_law_14, k_LW_law_15, k_LW_law_16, k_LW_law_17, k_LW_law_18, k_LW_law_19, k_LW_law_20, k_LW_law_21, k_LW_law_22, k_LW_law_23, k_LW_law_24, k_LW_law_25, k_LW_law_26, k_LW_law_27, k_LW_law_28, k_LW_law_29, k_LW_law_30, k_LW_law_31, k_LW_law_32, k_LW_law_33, k_LW_law_34, k_LW_law_35, k_LW_law_36, k_LW_law_37, k_LW_law_38, k_LW_law_39, k_LW_law_40, k_LW_law_41, k_LW_law_42, k_LW_law_43, k_LW_law_44, k_LW_law_45, k_LW_law_46, k_LW_law_47]
def bkT : List (List (List AI)) := [kb_JK_bitCount, kb_JK_floorDiv, kb_JK_absI, kb_JK_absL, kb_JK_maxI, kb_JK_maxL, kb_JK_minI, kb_JK_minL, kb_JK_fillL, kb_JK_fillI, kb_BT_read, kb_BT_statement, kb_BT_isOneTooMany, kb_BT_seatTold, kb_BT_rowerTold, kb_BT_nameTold, kb_BT_isName, kb_BT_eachTold, kb_BT_fixTold, kb_BT_wantTold, kb_BT_nearTold, kb_BT_runTold, kb_BT_sidesTold, kb_BT_payTold, kb_CH_init, kb_CH_fewest, kb_CH_load, kb_CH_canBeLawful, kb_CH_bySwaps, kb_CH_byTurns, kb_CH_isGood, kb_CH_exchange, kb_CH_flip, kb_CW_init, kb_CW_board, kb_CW_seatOf, kb_CW_sides, kb_CW_strengthAt, kb_CW_forceIn, kb_CW_leverToSide, kb_CW_swingAt, kb_CW_offAt, kb_CW_isGoodAt, kb_CW_turnSeat, kb_CW_swapRowers, kb_CW_passBy, kb_CW_rowOn, kb_CW_undoAct, kb_CW_writeImage, kb_CW_takeImage, kb_CW_isImage, kb_CW_rowersCanSitSo, kb_CW_sidesCanBeSo, kb_CW_strokeIn, kb_CW_checkOn, kb_CW_writeOctet, kb_CW_noteAct, kb_CW_flip, kb_CW_exchange, kb_CW_drawnSwing, kb_CW_drawOfThree, kb_HV_init, kb_HV_waysFor, kb_HV_countWays, kb_HV_wayAt, kb_HV_choose, kb_HV_canBe, kb_HV_sumDoubled, kb_HV_stillUpTo, kb_HV_power, kb_HV_partPayments, kb_HV_addPayments, kb_HV_heirsApart, kb_LN_init, kb_LN_clear, kb_LN_add, kb_LN_advanceTo, kb_NE_init, kb_NE_findAsTheySit, kb_NE_findOrder, kb_NE_bestRower, kb_NE_arrange, kb_NE_keepOrder, kb_NE_scan, kb_NE_setLanes, kb_NE_weigh, kb_PL_init, kb_PL_clear, kb_PL_isSeat, kb_PL_isRower, kb_PL_isPower, kb_PL_isFixed, kb_PL_seatAtPlace, kb_PL_addSeat, kb_PL_fixSeat, kb_PL_addRower, kb_PL_wantSwing, kb_PL_addRun, kb_PL_setRunSide, kb_PL_addPayment, kb_PL_wants, kb_PL_leverOf, kb_PL_allows, kb_PL_sideAtFirst, kb_PL_seatedAtFirst, kb_PL_runLever, kb_PL_swungOf, kb_PL_payment, kb_QU_init, kb_QU_read, kb_QU_test, kb_QU_both, kb_QU_fact, kb_QU_comparison, kb_QU_sum, kb_QU_product, kb_QU_part, kb_QU_partOf, kb_QU_pair, kb_QU_mayOpen, kb_QU_code, kb_QU_keep, kb_QU_answer, kb_QU_answerTest, kb_QU_answerSum, kb_QU_valueAt, kb_QU_keepTen, kb_QU_apply, kb_QU_applyToTwo, kb_QU_swingOf, kb_QU_forceOf, kb_QU_joined, kb_QU_held, kb_QU_push, kb_QU_pop, kb_RA_init, kb_RA_greatest, kb_RA_findStillest, kb_RA_findUnderWay, kb_RA_sailAsTheySit, kb_RA_tryChange, kb_RA_setLanes, kb_RA_greatestOf, kb_RA_firstTen, kb_RA_lastTen, kb_TP_init, kb_TP_hasRoomForFive, kb_TP_put, kb_TP_cut, kb_TP_clear, kb_TP_byteAt, kb_TP_begin, kb_TP_fail, kb_TP_failHere, kb_TP_next, kb_TP_takeSign, kb_TP_wordHere, kb_TP_passWord, kb_TP_takeWord, kb_TP_anyWordEnd, kb_TP_placeIn, kb_TP_takeNumber, kb_TP_takeSignedNumber, kb_TP_wordEnd, kb_TP_isLetter, kb_TP_isDigit, kb_TP_isBlank, kb_TR_init, kb_TR_forget, kb_TR_firstUnfit, kb_TR_told, kb_TR_crookedSeats, kb_TR_gapAsTold, kb_TR_canBeCrooked, kb_TR_allFitWith, kb_TR_countRows, kb_TR_setBounds, kb_TR_rowsFrom, kb_TR_verdictFrom, kb_TR_allRowsFrom, kb_TR_rowsOfLast, kb_TR_tryMore, kb_TR_noteStrengths, kb_EO_init, kb_EO_feed, kb_EO_end, kb_EO_text, kb_EO_fault, kb_EO_boat, kb_EO_letter, kb_EO_seat, kb_EO_rower, kb_EO_want, kb_EO_swing, kb_EO_off, kb_EO_good, kb_EO_lawful, kb_EO_heading, kb_EO_turn, kb_EO_swap, kb_EO_stroke, kb_EO_row, kb_EO_undo, kb_EO_seed, kb_EO_ways, kb_EO_made, kb_EO_doubled, kb_EO_still, kb_EO_nearest, kb_EO_seated, kb_EO_changes, kb_EO_race, kb_EO_stillest, kb_EO_under, kb_EO_fits, kb_EO_strengths, kb_EO_crooked, kb_EO_heirs, kb_EO_apart, kb_EO_ask, kb_EO_image, kb_EO_octet, kb_EO_on, kb_EO_status, kb_EO_refuse, kb_EO_canGoBy, kb_EO_keepFault, kb_MO_init, kb_MO_isIn, kb_MO_feed, kb_MO_end, kb_MO_fail, kb_MO_isLetter, kb_MO_isDigit, kb_MO_look, kb_MO_isHere, kb_MO_takes, kb_MO_asks, kb_MO_takesSign, kb_MO_asksSign, kb_MO_number, kb_MO_signed, kb_MO_isOwnHere, kb_MO_name, kb_MO_isFull, kb_MO_seatAt, kb_MO_seatTold, kb_MO_rowerTold, kb_MO_fixTold, kb_MO_wantTold, kb_MO_sidesTold, kb_MO_runTold, kb_MO_payTold, kb_MO_statementTold, kb_MO_text, kb_MO_stands, kb_MO_fault, kb_MO_seats, kb_MO_rowers, kb_MO_runs, kb_MO_each, kb_MO_near, kb_MO_isSeat, kb_MO_isRower, kb_MO_isFixed, kb_MO_strengthAt, kb_MO_pullOf, kb_MO_raised, kb_MO_swingBy, kb_MO_size, kb_MO_isWantedOf, kb_MO_offBy, kb_MO_isGood, kb_MO_bits, kb_MO_isLawful, kb_MO_fixedMany, kb_MO_wants, kb_MO_boat, kb_MO_letter, kb_MO_seat, kb_MO_seatOf, kb_MO_rower, kb_MO_isPower, kb_MO_want, kb_MO_swing, kb_MO_off, kb_MO_good, kb_MO_lawful, kb_MO_heading, kb_MO_keeps, kb_MO_undo, kb_MO_turn, kb_MO_changesSeats, kb_MO_canSwap, kb_MO_swap, kb_MO_canGo, kb_MO_stroke, kb_MO_seed, kb_MO_drawOf, kb_MO_rows, kb_MO_row, kb_MO_ways, kb_MO_sumBy, kb_MO_made, kb_MO_doubled, kb_MO_still, kb_MO_isNearest, kb_MO_nearest, kb_MO_putsAside, kb_MO_takesBack, kb_MO_sitBy, kb_MO_seated, kb_MO_actMany, kb_MO_acts, kb_MO_isRight, kb_MO_isOneOff, kb_MO_isTwoOff, kb_MO_isThreeOff, kb_MO_changes, kb_MO_greater, kb_MO_greatest, kb_MO_race, kb_MO_stillest, kb_MO_underBy, kb_MO_under, kb_MO_triesTold, kb_MO_isFit, kb_MO_firstUnfit, kb_MO_fits, kb_MO_fittingRows, kb_MO_strengths, kb_MO_crooked, kb_MO_payments, kb_MO_apartBy, kb_MO_heirs, kb_MO_apart, kb_MO_qCode, kb_MO_qOpens, kb_MO_qIsOn, kb_MO_qDrops, kb_MO_qIsBracket, kb_MO_qBracket, kb_MO_qDropsToBracket, kb_MO_qWordHere, kb_MO_qWordOf, kb_MO_qAsksWord, kb_MO_qEndsPart, kb_MO_qPartTold, kb_MO_qGoesOn, kb_MO_qSums, kb_MO_qFact, kb_MO_qHasSquare, kb_MO_qDropsNots, kb_MO_qTest, kb_MO_qGoesOnTest, kb_MO_qClip, kb_MO_qFloor, kb_MO_qPuts, kb_MO_qJoins, kb_MO_qPartOf, kb_MO_qOf, kb_MO_qTold, kb_MO_qKind, kb_MO_qTakes, kb_MO_ask, kb_MO_qOffAt, kb_MO_qIsGoodAt, kb_MO_checked, kb_MO_image, kb_MO_octet, kb_MO_isImage, kb_MO_on, kb_MO_status, kb_LW_law]
def blk (m n : Nat) : List AI := (bkT.getD m []).getD n []
def mxT : List Nat := [1, 6, 1, 2, 2, 4, 2, 4, 5, 4, 3, 4, 2, 3, 3, 6, 6, 2, 4, 3, 2, 3, 6, 3, 1, 4, 6, 4, 8, 6, 3, 7, 4, 1, 3, 3, 3, 3, 3, 5, 6, 5, 3, 2, 3, 2, 3, 2, 3, 3, 5, 5, 4, 1, 2, 2, 4, 2, 4, 5, 1, 1, 2, 5, 3, 6, 3, 7, 8, 6, 5, 5, 8, 1, 1, 8, 4, 1, 4, 4, 2, 7, 1, 5, 5, 10, 1, 1, 2, 2, 1, 2, 3, 6, 4, 3, 3, 3, 3, 3, 3, 3, 2, 2, 1, 3, 2, 3, 1, 3, 4, 4, 5, 5, 5, 5, 5, 5, 5, 2, 2, 2, 4, 8, 13, 5, 4, 4, 6, 3, 4, 5, 2, 3, 1, 1, 5, 10, 5, 7, 18, 6, 4, 1, 2, 1, 1, 3, 2, 1, 2, 1, 3, 1, 1, 2, 2, 1, 3, 1, 8, 5, 4, 2, 1, 1, 1, 1, 1, 2, 4, 4, 5, 5, 4, 3, 7, 7, 12, 5, 14, 5, 4, 1, 6, 2, 3, 2, 3, 3, 4, 4, 2, 3, 1, 1, 1, 1, 2, 3, 2, 2, 1, 2, 2, 3, 3, 3, 2, 3, 1, 2, 3, 3, 1, 3, 1, 2, 3, 2, 1, 2, 2, 2, 2, 2, 1, 1, 6, 8, 2, 3, 1, 1, 1, 4, 2, 2, 2, 2, 5, 5, 2, 3, 4, 3, 5, 7, 4, 3, 5, 5, 4, 2, 2, 3, 2, 1, 1, 1, 1, 1, 2, 2, 2, 4, 3, 5, 9, 2, 2, 5, 3, 3, 3, 3, 3, 2, 8, 3, 3, 3, 1, 2, 3, 1, 1, 1, 1, 2, 2, 2, 4, 3, 3, 2, 2, 2, 2, 5, 3, 7, 6, 5, 6, 4, 4, 4, 2, 2, 5, 9, 1, 5, 1, 4, 4, 4, 1, 4, 7, 2, 9, 11, 5, 2, 8, 2, 1, 7, 4, 4, 1, 8, 4, 3, 2, 3, 2, 1, 1, 2, 1, 1, 4, 2, 1, 6, 2, 3, 2, 2, 1, 3, 1, 2, 6, 3, 6, 3, 5, 4, 2, 6, 4, 5, 4, 4, 2, 2, 7, 3, 2, 4]
def mxl (m : Nat) : Nat := mxT.getD m 0
theorem e_JK_bitCount_0 : blk JK_bitCount 0 = k_JK_bitCount_0 := sorry
theorem e_JK_floorDiv_0 : blk JK_floorDiv 0 = k_JK_floorDiv_0 := sorry
theorem e_JK_floorDiv_1 : blk JK_floorDiv 1 = k_JK_floorDiv_1 := sorry
theorem e_JK_absI_0 : blk JK_absI 0 = k_JK_absI_0 := sorry
theorem e_JK_absI_1 : blk JK_absI 1 = k_JK_absI_1 := sorry
theorem e_JK_absI_2 : blk JK_absI 2 = k_JK_absI_2 := sorry
theorem e_JK_absL_0 : blk JK_absL 0 = k_JK_absL_0 := sorry
theorem e_JK_absL_1 : blk JK_absL 1 = k_JK_absL_1 := sorry
theorem e_JK_absL_2 : blk JK_absL 2 = k_JK_absL_2 := sorry
theorem e_JK_maxI_0 : blk JK_maxI 0 = k_JK_maxI_0 := sorry
theorem e_JK_maxI_1 : blk JK_maxI 1 = k_JK_maxI_1 := sorry
theorem e_JK_maxI_2 : blk JK_maxI 2 = k_JK_maxI_2 := sorry
theorem e_JK_maxL_0 : blk JK_maxL 0 = k_JK_maxL_0 := sorry
theorem e_JK_maxL_1 : blk JK_maxL 1 = k_JK_maxL_1 := sorry
theorem e_JK_maxL_2 : blk JK_maxL 2 = k_JK_maxL_2 := sorry
theorem e_JK_minI_0 : blk JK_minI 0 = k_JK_minI_0 := sorry
theorem e_JK_minI_1 : blk JK_minI 1 = k_JK_minI_1 := sorry
theorem e_JK_minI_2 : blk JK_minI 2 = k_JK_minI_2 := sorry
theorem e_JK_minL_0 : blk JK_minL 0 = k_JK_minL_0 := sorry
theorem e_JK_minL_1 : blk JK_minL 1 = k_JK_minL_1 := sorry
theorem e_JK_minL_2 : blk JK_minL 2 = k_JK_minL_2 := sorry
theorem e_JK_fillL_0 : blk JK_fillL 0 = k_JK_fillL_0 := sorry
theorem e_JK_fillL_1 : blk JK_fillL 1 = k_JK_fillL_1 := sorry
theorem e_JK_fillL_2 : blk JK_fillL 2 = k_JK_fillL_2 := sorry
theorem e_JK_fillI_0 : blk JK_fillI 0 = k_JK_fillI_0 := sorry
theorem e_JK_fillI_1 : blk JK_fillI 1 = k_JK_fillI_1 := sorry
theorem e_JK_fillI_2 : blk JK_fillI 2 = k_JK_fillI_2 := sorry
theorem e_BT_read_0 : blk BT_read 0 = k_BT_read_0 := sorry
theorem e_BT_read_1 : blk BT_read 1 = k_BT_read_1 := sorry
theorem e_BT_read_2 : blk BT_read 2 = k_BT_read_2 := sorry
theorem e_BT_read_3 : blk BT_read 3 = k_BT_read_3 := sorry
theorem e_BT_read_4 : blk BT_read 4 = k_BT_read_4 := sorry
theorem e_BT_read_5 : blk BT_read 5 = k_BT_read_5 := sorry
theorem e_BT_read_6 : blk BT_read 6 = k_BT_read_6 := sorry
theorem e_BT_statement_0 : blk BT_statement 0 = k_BT_statement_0 := sorry
theorem e_BT_statement_1 : blk BT_statement 1 = k_BT_statement_1 := sorry
theorem e_BT_statement_2 : blk BT_statement 2 = k_BT_statement_2 := sorry
theorem e_BT_statement_3 : blk BT_statement 3 = k_BT_statement_3 := sorry
theorem e_BT_statement_4 : blk BT_statement 4 = k_BT_statement_4 := sorry
theorem e_BT_statement_5 : blk BT_statement 5 = k_BT_statement_5 := sorry
theorem e_BT_statement_6 : blk BT_statement 6 = k_BT_statement_6 := sorry
theorem e_BT_statement_7 : blk BT_statement 7 = k_BT_statement_7 := sorry
theorem e_BT_statement_8 : blk BT_statement 8 = k_BT_statement_8 := sorry
theorem e_BT_statement_9 : blk BT_statement 9 = k_BT_statement_9 := sorry
theorem e_BT_statement_10 : blk BT_statement 10 = k_BT_statement_10 := sorry
theorem e_BT_statement_11 : blk BT_statement 11 = k_BT_statement_11 := sorry
theorem e_BT_isOneTooMany_0 : blk BT_isOneTooMany 0 = k_BT_isOneTooMany_0 := sorry
theorem e_BT_isOneTooMany_1 : blk BT_isOneTooMany 1 = k_BT_isOneTooMany_1 := sorry
theorem e_BT_isOneTooMany_2 : blk BT_isOneTooMany 2 = k_BT_isOneTooMany_2 := sorry
theorem e_BT_isOneTooMany_3 : blk BT_isOneTooMany 3 = k_BT_isOneTooMany_3 := sorry
theorem e_BT_isOneTooMany_4 : blk BT_isOneTooMany 4 = k_BT_isOneTooMany_4 := sorry
theorem e_BT_isOneTooMany_5 : blk BT_isOneTooMany 5 = k_BT_isOneTooMany_5 := sorry
theorem e_BT_isOneTooMany_6 : blk BT_isOneTooMany 6 = k_BT_isOneTooMany_6 := sorry
theorem e_BT_isOneTooMany_7 : blk BT_isOneTooMany 7 = k_BT_isOneTooMany_7 := sorry
theorem e_BT_isOneTooMany_8 : blk BT_isOneTooMany 8 = k_BT_isOneTooMany_8 := sorry
theorem e_BT_isOneTooMany_9 : blk BT_isOneTooMany 9 = k_BT_isOneTooMany_9 := sorry
theorem e_BT_isOneTooMany_10 : blk BT_isOneTooMany 10 = k_BT_isOneTooMany_10 := sorry
theorem e_BT_isOneTooMany_11 : blk BT_isOneTooMany 11 = k_BT_isOneTooMany_11 := sorry
theorem e_BT_isOneTooMany_12 : blk BT_isOneTooMany 12 = k_BT_isOneTooMany_12 := sorry
theorem e_BT_isOneTooMany_13 : blk BT_isOneTooMany 13 = k_BT_isOneTooMany_13 := sorry
theorem e_BT_seatTold_0 : blk BT_seatTold 0 = k_BT_seatTold_0 := sorry
theorem e_BT_seatTold_1 : blk BT_seatTold 1 = k_BT_seatTold_1 := sorry
theorem e_BT_seatTold_2 : blk BT_seatTold 2 = k_BT_seatTold_2 := sorry
theorem e_BT_seatTold_3 : blk BT_seatTold 3 = k_BT_seatTold_3 := sorry
theorem e_BT_seatTold_4 : blk BT_seatTold 4 = k_BT_seatTold_4 := sorry
theorem e_BT_rowerTold_0 : blk BT_rowerTold 0 = k_BT_rowerTold_0 := sorry
theorem e_BT_rowerTold_1 : blk BT_rowerTold 1 = k_BT_rowerTold_1 := sorry
theorem e_BT_rowerTold_2 : blk BT_rowerTold 2 = k_BT_rowerTold_2 := sorry
theorem e_BT_rowerTold_3 : blk BT_rowerTold 3 = k_BT_rowerTold_3 := sorry
theorem e_BT_rowerTold_4 : blk BT_rowerTold 4 = k_BT_rowerTold_4 := sorry
theorem e_BT_nameTold_0 : blk BT_nameTold 0 = k_BT_nameTold_0 := sorry
theorem e_BT_nameTold_1 : blk BT_nameTold 1 = k_BT_nameTold_1 := sorry
theorem e_BT_nameTold_2 : blk BT_nameTold 2 = k_BT_nameTold_2 := sorry
theorem e_BT_nameTold_3 : blk BT_nameTold 3 = k_BT_nameTold_3 := sorry
theorem e_BT_nameTold_4 : blk BT_nameTold 4 = k_BT_nameTold_4 := sorry
theorem e_BT_nameTold_5 : blk BT_nameTold 5 = k_BT_nameTold_5 := sorry
theorem e_BT_nameTold_6 : blk BT_nameTold 6 = k_BT_nameTold_6 := sorry
theorem e_BT_nameTold_7 : blk BT_nameTold 7 = k_BT_nameTold_7 := sorry
theorem e_BT_nameTold_8 : blk BT_nameTold 8 = k_BT_nameTold_8 := sorry
theorem e_BT_isName_0 : blk BT_isName 0 = k_BT_isName_0 := sorry
theorem e_BT_isName_1 : blk BT_isName 1 = k_BT_isName_1 := sorry
theorem e_BT_isName_2 : blk BT_isName 2 = k_BT_isName_2 := sorry
theorem e_BT_isName_3 : blk BT_isName 3 = k_BT_isName_3 := sorry
theorem e_BT_isName_4 : blk BT_isName 4 = k_BT_isName_4 := sorry
theorem e_BT_isName_5 : blk BT_isName 5 = k_BT_isName_5 := sorry
theorem e_BT_eachTold_0 : blk BT_eachTold 0 = k_BT_eachTold_0 := sorry
theorem e_BT_eachTold_1 : blk BT_eachTold 1 = k_BT_eachTold_1 := sorry
theorem e_BT_fixTold_0 : blk BT_fixTold 0 = k_BT_fixTold_0 := sorry
theorem e_BT_fixTold_1 : blk BT_fixTold 1 = k_BT_fixTold_1 := sorry
theorem e_BT_fixTold_2 : blk BT_fixTold 2 = k_BT_fixTold_2 := sorry
theorem e_BT_fixTold_3 : blk BT_fixTold 3 = k_BT_fixTold_3 := sorry
theorem e_BT_fixTold_4 : blk BT_fixTold 4 = k_BT_fixTold_4 := sorry
theorem e_BT_fixTold_5 : blk BT_fixTold 5 = k_BT_fixTold_5 := sorry
theorem e_BT_fixTold_6 : blk BT_fixTold 6 = k_BT_fixTold_6 := sorry
theorem e_BT_fixTold_7 : blk BT_fixTold 7 = k_BT_fixTold_7 := sorry
theorem e_BT_wantTold_0 : blk BT_wantTold 0 = k_BT_wantTold_0 := sorry
theorem e_BT_wantTold_1 : blk BT_wantTold 1 = k_BT_wantTold_1 := sorry
theorem e_BT_wantTold_2 : blk BT_wantTold 2 = k_BT_wantTold_2 := sorry
theorem e_BT_wantTold_3 : blk BT_wantTold 3 = k_BT_wantTold_3 := sorry
theorem e_BT_nearTold_0 : blk BT_nearTold 0 = k_BT_nearTold_0 := sorry
theorem e_BT_nearTold_1 : blk BT_nearTold 1 = k_BT_nearTold_1 := sorry
theorem e_BT_runTold_0 : blk BT_runTold 0 = k_BT_runTold_0 := sorry
theorem e_BT_runTold_1 : blk BT_runTold 1 = k_BT_runTold_1 := sorry
theorem e_BT_runTold_2 : blk BT_runTold 2 = k_BT_runTold_2 := sorry
theorem e_BT_runTold_3 : blk BT_runTold 3 = k_BT_runTold_3 := sorry
theorem e_BT_runTold_4 : blk BT_runTold 4 = k_BT_runTold_4 := sorry
theorem e_BT_sidesTold_0 : blk BT_sidesTold 0 = k_BT_sidesTold_0 := sorry
theorem e_BT_sidesTold_1 : blk BT_sidesTold 1 = k_BT_sidesTold_1 := sorry
theorem e_BT_sidesTold_2 : blk BT_sidesTold 2 = k_BT_sidesTold_2 := sorry
theorem e_BT_sidesTold_3 : blk BT_sidesTold 3 = k_BT_sidesTold_3 := sorry
theorem e_BT_sidesTold_4 : blk BT_sidesTold 4 = k_BT_sidesTold_4 := sorry
theorem e_BT_sidesTold_5 : blk BT_sidesTold 5 = k_BT_sidesTold_5 := sorry
theorem e_BT_sidesTold_6 : blk BT_sidesTold 6 = k_BT_sidesTold_6 := sorry
theorem e_BT_sidesTold_7 : blk BT_sidesTold 7 = k_BT_sidesTold_7 := sorry
theorem e_BT_sidesTold_8 : blk BT_sidesTold 8 = k_BT_sidesTold_8 := sorry
theorem e_BT_sidesTold_9 : blk BT_sidesTold 9 = k_BT_sidesTold_9 := sorry
theorem e_BT_payTold_0 : blk BT_payTold 0 = k_BT_payTold_0 := sorry
theorem e_BT_payTold_1 : blk BT_payTold 1 = k_BT_payTold_1 := sorry
theorem e_BT_payTold_2 : blk BT_payTold 2 = k_BT_payTold_2 := sorry
theorem e_BT_payTold_3 : blk BT_payTold 3 = k_BT_payTold_3 := sorry
theorem e_CH_init_0 : blk CH_init 0 = k_CH_init_0 := sorry
theorem e_CH_fewest_0 : blk CH_fewest 0 = k_CH_fewest_0 := sorry
theorem e_CH_fewest_1 : blk CH_fewest 1 = k_CH_fewest_1 := sorry
theorem e_CH_fewest_2 : blk CH_fewest 2 = k_CH_fewest_2 := sorry
theorem e_CH_fewest_3 : blk CH_fewest 3 = k_CH_fewest_3 := sorry
theorem e_CH_fewest_4 : blk CH_fewest 4 = k_CH_fewest_4 := sorry
theorem e_CH_fewest_5 : blk CH_fewest 5 = k_CH_fewest_5 := sorry
theorem e_CH_load_0 : blk CH_load 0 = k_CH_load_0 := sorry
theorem e_CH_load_1 : blk CH_load 1 = k_CH_load_1 := sorry
theorem e_CH_load_2 : blk CH_load 2 = k_CH_load_2 := sorry
theorem e_CH_load_3 : blk CH_load 3 = k_CH_load_3 := sorry
theorem e_CH_load_4 : blk CH_load 4 = k_CH_load_4 := sorry
theorem e_CH_load_5 : blk CH_load 5 = k_CH_load_5 := sorry
theorem e_CH_load_6 : blk CH_load 6 = k_CH_load_6 := sorry
theorem e_CH_load_7 : blk CH_load 7 = k_CH_load_7 := sorry
theorem e_CH_canBeLawful_0 : blk CH_canBeLawful 0 = k_CH_canBeLawful_0 := sorry
theorem e_CH_canBeLawful_1 : blk CH_canBeLawful 1 = k_CH_canBeLawful_1 := sorry
theorem e_CH_canBeLawful_2 : blk CH_canBeLawful 2 = k_CH_canBeLawful_2 := sorry
theorem e_CH_canBeLawful_3 : blk CH_canBeLawful 3 = k_CH_canBeLawful_3 := sorry
theorem e_CH_bySwaps_0 : blk CH_bySwaps 0 = k_CH_bySwaps_0 := sorry
theorem e_CH_bySwaps_1 : blk CH_bySwaps 1 = k_CH_bySwaps_1 := sorry
theorem e_CH_bySwaps_2 : blk CH_bySwaps 2 = k_CH_bySwaps_2 := sorry
theorem e_CH_bySwaps_3 : blk CH_bySwaps 3 = k_CH_bySwaps_3 := sorry
theorem e_CH_bySwaps_4 : blk CH_bySwaps 4 = k_CH_bySwaps_4 := sorry
theorem e_CH_bySwaps_5 : blk CH_bySwaps 5 = k_CH_bySwaps_5 := sorry
theorem e_CH_bySwaps_6 : blk CH_bySwaps 6 = k_CH_bySwaps_6 := sorry
theorem e_CH_byTurns_0 : blk CH_byTurns 0 = k_CH_byTurns_0 := sorry
theorem e_CH_byTurns_1 : blk CH_byTurns 1 = k_CH_byTurns_1 := sorry
theorem e_CH_byTurns_2 : blk CH_byTurns 2 = k_CH_byTurns_2 := sorry
theorem e_CH_byTurns_3 : blk CH_byTurns 3 = k_CH_byTurns_3 := sorry
theorem e_CH_byTurns_4 : blk CH_byTurns 4 = k_CH_byTurns_4 := sorry
theorem e_CH_byTurns_5 : blk CH_byTurns 5 = k_CH_byTurns_5 := sorry
theorem e_CH_byTurns_6 : blk CH_byTurns 6 = k_CH_byTurns_6 := sorry
theorem e_CH_isGood_0 : blk CH_isGood 0 = k_CH_isGood_0 := sorry
theorem e_CH_isGood_1 : blk CH_isGood 1 = k_CH_isGood_1 := sorry
theorem e_CH_isGood_2 : blk CH_isGood 2 = k_CH_isGood_2 := sorry
theorem e_CH_isGood_3 : blk CH_isGood 3 = k_CH_isGood_3 := sorry
theorem e_CH_exchange_0 : blk CH_exchange 0 = k_CH_exchange_0 := sorry
theorem e_CH_exchange_1 : blk CH_exchange 1 = k_CH_exchange_1 := sorry
theorem e_CH_exchange_2 : blk CH_exchange 2 = k_CH_exchange_2 := sorry
theorem e_CH_flip_0 : blk CH_flip 0 = k_CH_flip_0 := sorry
theorem e_CH_flip_1 : blk CH_flip 1 = k_CH_flip_1 := sorry
theorem e_CH_flip_2 : blk CH_flip 2 = k_CH_flip_2 := sorry
theorem e_CW_init_0 : blk CW_init 0 = k_CW_init_0 := sorry
theorem e_CW_board_0 : blk CW_board 0 = k_CW_board_0 := sorry
theorem e_CW_board_1 : blk CW_board 1 = k_CW_board_1 := sorry
theorem e_CW_board_2 : blk CW_board 2 = k_CW_board_2 := sorry
theorem e_CW_board_3 : blk CW_board 3 = k_CW_board_3 := sorry
theorem e_CW_board_4 : blk CW_board 4 = k_CW_board_4 := sorry
theorem e_CW_seatOf_0 : blk CW_seatOf 0 = k_CW_seatOf_0 := sorry
theorem e_CW_seatOf_1 : blk CW_seatOf 1 = k_CW_seatOf_1 := sorry
theorem e_CW_seatOf_2 : blk CW_seatOf 2 = k_CW_seatOf_2 := sorry
theorem e_CW_seatOf_3 : blk CW_seatOf 3 = k_CW_seatOf_3 := sorry
theorem e_CW_sides_0 : blk CW_sides 0 = k_CW_sides_0 := sorry
theorem e_CW_sides_1 : blk CW_sides 1 = k_CW_sides_1 := sorry
theorem e_CW_sides_2 : blk CW_sides 2 = k_CW_sides_2 := sorry
theorem e_CW_strengthAt_0 : blk CW_strengthAt 0 = k_CW_strengthAt_0 := sorry
theorem e_CW_strengthAt_1 : blk CW_strengthAt 1 = k_CW_strengthAt_1 := sorry
theorem e_CW_forceIn_0 : blk CW_forceIn 0 = k_CW_forceIn_0 := sorry
theorem e_CW_forceIn_1 : blk CW_forceIn 1 = k_CW_forceIn_1 := sorry
theorem e_CW_forceIn_2 : blk CW_forceIn 2 = k_CW_forceIn_2 := sorry
theorem e_CW_leverToSide_0 : blk CW_leverToSide 0 = k_CW_leverToSide_0 := sorry
theorem e_CW_leverToSide_1 : blk CW_leverToSide 1 = k_CW_leverToSide_1 := sorry
theorem e_CW_leverToSide_2 : blk CW_leverToSide 2 = k_CW_leverToSide_2 := sorry
theorem e_CW_leverToSide_3 : blk CW_leverToSide 3 = k_CW_leverToSide_3 := sorry
theorem e_CW_swingAt_0 : blk CW_swingAt 0 = k_CW_swingAt_0 := sorry
theorem e_CW_swingAt_1 : blk CW_swingAt 1 = k_CW_swingAt_1 := sorry
theorem e_CW_swingAt_2 : blk CW_swingAt 2 = k_CW_swingAt_2 := sorry
theorem e_CW_offAt_0 : blk CW_offAt 0 = k_CW_offAt_0 := sorry
theorem e_CW_offAt_1 : blk CW_offAt 1 = k_CW_offAt_1 := sorry
theorem e_CW_offAt_2 : blk CW_offAt 2 = k_CW_offAt_2 := sorry
theorem e_CW_offAt_3 : blk CW_offAt 3 = k_CW_offAt_3 := sorry
theorem e_CW_isGoodAt_0 : blk CW_isGoodAt 0 = k_CW_isGoodAt_0 := sorry
theorem e_CW_isGoodAt_1 : blk CW_isGoodAt 1 = k_CW_isGoodAt_1 := sorry
theorem e_CW_isGoodAt_2 : blk CW_isGoodAt 2 = k_CW_isGoodAt_2 := sorry
theorem e_CW_isGoodAt_3 : blk CW_isGoodAt 3 = k_CW_isGoodAt_3 := sorry
theorem e_CW_turnSeat_0 : blk CW_turnSeat 0 = k_CW_turnSeat_0 := sorry
theorem e_CW_turnSeat_1 : blk CW_turnSeat 1 = k_CW_turnSeat_1 := sorry
theorem e_CW_turnSeat_2 : blk CW_turnSeat 2 = k_CW_turnSeat_2 := sorry
theorem e_CW_swapRowers_0 : blk CW_swapRowers 0 = k_CW_swapRowers_0 := sorry
theorem e_CW_swapRowers_1 : blk CW_swapRowers 1 = k_CW_swapRowers_1 := sorry
theorem e_CW_swapRowers_2 : blk CW_swapRowers 2 = k_CW_swapRowers_2 := sorry
theorem e_CW_swapRowers_3 : blk CW_swapRowers 3 = k_CW_swapRowers_3 := sorry
theorem e_CW_passBy_0 : blk CW_passBy 0 = k_CW_passBy_0 := sorry
theorem e_CW_rowOn_0 : blk CW_rowOn 0 = k_CW_rowOn_0 := sorry
theorem e_CW_rowOn_1 : blk CW_rowOn 1 = k_CW_rowOn_1 := sorry
theorem e_CW_rowOn_2 : blk CW_rowOn 2 = k_CW_rowOn_2 := sorry
theorem e_CW_undoAct_0 : blk CW_undoAct 0 = k_CW_undoAct_0 := sorry
theorem e_CW_undoAct_1 : blk CW_undoAct 1 = k_CW_undoAct_1 := sorry
theorem e_CW_undoAct_2 : blk CW_undoAct 2 = k_CW_undoAct_2 := sorry
theorem e_CW_undoAct_3 : blk CW_undoAct 3 = k_CW_undoAct_3 := sorry
theorem e_CW_undoAct_4 : blk CW_undoAct 4 = k_CW_undoAct_4 := sorry
theorem e_CW_undoAct_5 : blk CW_undoAct 5 = k_CW_undoAct_5 := sorry
theorem e_CW_writeImage_0 : blk CW_writeImage 0 = k_CW_writeImage_0 := sorry
theorem e_CW_writeImage_1 : blk CW_writeImage 1 = k_CW_writeImage_1 := sorry
theorem e_CW_writeImage_2 : blk CW_writeImage 2 = k_CW_writeImage_2 := sorry
theorem e_CW_writeImage_3 : blk CW_writeImage 3 = k_CW_writeImage_3 := sorry
theorem e_CW_writeImage_4 : blk CW_writeImage 4 = k_CW_writeImage_4 := sorry
theorem e_CW_writeImage_5 : blk CW_writeImage 5 = k_CW_writeImage_5 := sorry
theorem e_CW_writeImage_6 : blk CW_writeImage 6 = k_CW_writeImage_6 := sorry
theorem e_CW_takeImage_0 : blk CW_takeImage 0 = k_CW_takeImage_0 := sorry
theorem e_CW_takeImage_1 : blk CW_takeImage 1 = k_CW_takeImage_1 := sorry
theorem e_CW_takeImage_2 : blk CW_takeImage 2 = k_CW_takeImage_2 := sorry
theorem e_CW_takeImage_3 : blk CW_takeImage 3 = k_CW_takeImage_3 := sorry
theorem e_CW_takeImage_4 : blk CW_takeImage 4 = k_CW_takeImage_4 := sorry
theorem e_CW_takeImage_5 : blk CW_takeImage 5 = k_CW_takeImage_5 := sorry
theorem e_CW_isImage_0 : blk CW_isImage 0 = k_CW_isImage_0 := sorry
theorem e_CW_isImage_1 : blk CW_isImage 1 = k_CW_isImage_1 := sorry
theorem e_CW_isImage_2 : blk CW_isImage 2 = k_CW_isImage_2 := sorry
theorem e_CW_isImage_3 : blk CW_isImage 3 = k_CW_isImage_3 := sorry
theorem e_CW_isImage_4 : blk CW_isImage 4 = k_CW_isImage_4 := sorry
theorem e_CW_isImage_5 : blk CW_isImage 5 = k_CW_isImage_5 := sorry
theorem e_CW_rowersCanSitSo_0 : blk CW_rowersCanSitSo 0 = k_CW_rowersCanSitSo_0 := sorry
theorem e_CW_rowersCanSitSo_1 : blk CW_rowersCanSitSo 1 = k_CW_rowersCanSitSo_1 := sorry
theorem e_CW_rowersCanSitSo_2 : blk CW_rowersCanSitSo 2 = k_CW_rowersCanSitSo_2 := sorry
theorem e_CW_rowersCanSitSo_3 : blk CW_rowersCanSitSo 3 = k_CW_rowersCanSitSo_3 := sorry
theorem e_CW_rowersCanSitSo_4 : blk CW_rowersCanSitSo 4 = k_CW_rowersCanSitSo_4 := sorry
theorem e_CW_rowersCanSitSo_5 : blk CW_rowersCanSitSo 5 = k_CW_rowersCanSitSo_5 := sorry
theorem e_CW_rowersCanSitSo_6 : blk CW_rowersCanSitSo 6 = k_CW_rowersCanSitSo_6 := sorry
theorem e_CW_rowersCanSitSo_7 : blk CW_rowersCanSitSo 7 = k_CW_rowersCanSitSo_7 := sorry
theorem e_CW_sidesCanBeSo_0 : blk CW_sidesCanBeSo 0 = k_CW_sidesCanBeSo_0 := sorry
theorem e_CW_sidesCanBeSo_1 : blk CW_sidesCanBeSo 1 = k_CW_sidesCanBeSo_1 := sorry
theorem e_CW_sidesCanBeSo_2 : blk CW_sidesCanBeSo 2 = k_CW_sidesCanBeSo_2 := sorry
theorem e_CW_sidesCanBeSo_3 : blk CW_sidesCanBeSo 3 = k_CW_sidesCanBeSo_3 := sorry
theorem e_CW_sidesCanBeSo_4 : blk CW_sidesCanBeSo 4 = k_CW_sidesCanBeSo_4 := sorry
theorem e_CW_strokeIn_0 : blk CW_strokeIn 0 = k_CW_strokeIn_0 := sorry
theorem e_CW_checkOn_0 : blk CW_checkOn 0 = k_CW_checkOn_0 := sorry
theorem e_CW_writeOctet_0 : blk CW_writeOctet 0 = k_CW_writeOctet_0 := sorry
theorem e_CW_writeOctet_1 : blk CW_writeOctet 1 = k_CW_writeOctet_1 := sorry
theorem e_CW_noteAct_0 : blk CW_noteAct 0 = k_CW_noteAct_0 := sorry
theorem e_CW_flip_0 : blk CW_flip 0 = k_CW_flip_0 := sorry
theorem e_CW_flip_1 : blk CW_flip 1 = k_CW_flip_1 := sorry
theorem e_CW_exchange_0 : blk CW_exchange 0 = k_CW_exchange_0 := sorry
theorem e_CW_exchange_1 : blk CW_exchange 1 = k_CW_exchange_1 := sorry
theorem e_CW_drawnSwing_0 : blk CW_drawnSwing 0 = k_CW_drawnSwing_0 := sorry
theorem e_CW_drawnSwing_1 : blk CW_drawnSwing 1 = k_CW_drawnSwing_1 := sorry
theorem e_CW_drawnSwing_2 : blk CW_drawnSwing 2 = k_CW_drawnSwing_2 := sorry
theorem e_CW_drawnSwing_3 : blk CW_drawnSwing 3 = k_CW_drawnSwing_3 := sorry
theorem e_CW_drawOfThree_0 : blk CW_drawOfThree 0 = k_CW_drawOfThree_0 := sorry
theorem e_HV_init_0 : blk HV_init 0 = k_HV_init_0 := sorry
theorem e_HV_waysFor_0 : blk HV_waysFor 0 = k_HV_waysFor_0 := sorry
theorem e_HV_waysFor_1 : blk HV_waysFor 1 = k_HV_waysFor_1 := sorry
theorem e_HV_waysFor_2 : blk HV_waysFor 2 = k_HV_waysFor_2 := sorry
theorem e_HV_waysFor_3 : blk HV_waysFor 3 = k_HV_waysFor_3 := sorry
theorem e_HV_countWays_0 : blk HV_countWays 0 = k_HV_countWays_0 := sorry
theorem e_HV_countWays_1 : blk HV_countWays 1 = k_HV_countWays_1 := sorry
theorem e_HV_countWays_2 : blk HV_countWays 2 = k_HV_countWays_2 := sorry
theorem e_HV_countWays_3 : blk HV_countWays 3 = k_HV_countWays_3 := sorry
theorem e_HV_countWays_4 : blk HV_countWays 4 = k_HV_countWays_4 := sorry
theorem e_HV_countWays_5 : blk HV_countWays 5 = k_HV_countWays_5 := sorry
theorem e_HV_countWays_6 : blk HV_countWays 6 = k_HV_countWays_6 := sorry
theorem e_HV_countWays_7 : blk HV_countWays 7 = k_HV_countWays_7 := sorry
theorem e_HV_wayAt_0 : blk HV_wayAt 0 = k_HV_wayAt_0 := sorry
theorem e_HV_wayAt_1 : blk HV_wayAt 1 = k_HV_wayAt_1 := sorry
theorem e_HV_wayAt_2 : blk HV_wayAt 2 = k_HV_wayAt_2 := sorry
theorem e_HV_choose_0 : blk HV_choose 0 = k_HV_choose_0 := sorry
theorem e_HV_choose_1 : blk HV_choose 1 = k_HV_choose_1 := sorry
theorem e_HV_choose_2 : blk HV_choose 2 = k_HV_choose_2 := sorry
theorem e_HV_choose_3 : blk HV_choose 3 = k_HV_choose_3 := sorry
theorem e_HV_choose_4 : blk HV_choose 4 = k_HV_choose_4 := sorry
theorem e_HV_choose_5 : blk HV_choose 5 = k_HV_choose_5 := sorry
theorem e_HV_canBe_0 : blk HV_canBe 0 = k_HV_canBe_0 := sorry
theorem e_HV_canBe_1 : blk HV_canBe 1 = k_HV_canBe_1 := sorry
theorem e_HV_canBe_2 : blk HV_canBe 2 = k_HV_canBe_2 := sorry
theorem e_HV_sumDoubled_0 : blk HV_sumDoubled 0 = k_HV_sumDoubled_0 := sorry
theorem e_HV_sumDoubled_1 : blk HV_sumDoubled 1 = k_HV_sumDoubled_1 := sorry
theorem e_HV_sumDoubled_2 : blk HV_sumDoubled 2 = k_HV_sumDoubled_2 := sorry
theorem e_HV_sumDoubled_3 : blk HV_sumDoubled 3 = k_HV_sumDoubled_3 := sorry
theorem e_HV_sumDoubled_4 : blk HV_sumDoubled 4 = k_HV_sumDoubled_4 := sorry
theorem e_HV_sumDoubled_5 : blk HV_sumDoubled 5 = k_HV_sumDoubled_5 := sorry
theorem e_HV_sumDoubled_6 : blk HV_sumDoubled 6 = k_HV_sumDoubled_6 := sorry
theorem e_HV_stillUpTo_0 : blk HV_stillUpTo 0 = k_HV_stillUpTo_0 := sorry
theorem e_HV_stillUpTo_1 : blk HV_stillUpTo 1 = k_HV_stillUpTo_1 := sorry
theorem e_HV_stillUpTo_2 : blk HV_stillUpTo 2 = k_HV_stillUpTo_2 := sorry
theorem e_HV_stillUpTo_3 : blk HV_stillUpTo 3 = k_HV_stillUpTo_3 := sorry
theorem e_HV_stillUpTo_4 : blk HV_stillUpTo 4 = k_HV_stillUpTo_4 := sorry
theorem e_HV_stillUpTo_5 : blk HV_stillUpTo 5 = k_HV_stillUpTo_5 := sorry
theorem e_HV_stillUpTo_6 : blk HV_stillUpTo 6 = k_HV_stillUpTo_6 := sorry
theorem e_HV_stillUpTo_7 : blk HV_stillUpTo 7 = k_HV_stillUpTo_7 := sorry
theorem e_HV_stillUpTo_8 : blk HV_stillUpTo 8 = k_HV_stillUpTo_8 := sorry
theorem e_HV_stillUpTo_9 : blk HV_stillUpTo 9 = k_HV_stillUpTo_9 := sorry
theorem e_HV_power_0 : blk HV_power 0 = k_HV_power_0 := sorry
theorem e_HV_power_1 : blk HV_power 1 = k_HV_power_1 := sorry
theorem e_HV_power_2 : blk HV_power 2 = k_HV_power_2 := sorry
theorem e_HV_partPayments_0 : blk HV_partPayments 0 = k_HV_partPayments_0 := sorry
theorem e_HV_partPayments_1 : blk HV_partPayments 1 = k_HV_partPayments_1 := sorry
theorem e_HV_partPayments_2 : blk HV_partPayments 2 = k_HV_partPayments_2 := sorry
theorem e_HV_partPayments_3 : blk HV_partPayments 3 = k_HV_partPayments_3 := sorry
theorem e_HV_partPayments_4 : blk HV_partPayments 4 = k_HV_partPayments_4 := sorry
theorem e_HV_partPayments_5 : blk HV_partPayments 5 = k_HV_partPayments_5 := sorry
theorem e_HV_partPayments_6 : blk HV_partPayments 6 = k_HV_partPayments_6 := sorry
theorem e_HV_addPayments_0 : blk HV_addPayments 0 = k_HV_addPayments_0 := sorry
theorem e_HV_addPayments_1 : blk HV_addPayments 1 = k_HV_addPayments_1 := sorry
theorem e_HV_addPayments_2 : blk HV_addPayments 2 = k_HV_addPayments_2 := sorry
theorem e_HV_heirsApart_0 : blk HV_heirsApart 0 = k_HV_heirsApart_0 := sorry
theorem e_HV_heirsApart_1 : blk HV_heirsApart 1 = k_HV_heirsApart_1 := sorry
theorem e_HV_heirsApart_2 : blk HV_heirsApart 2 = k_HV_heirsApart_2 := sorry
theorem e_HV_heirsApart_3 : blk HV_heirsApart 3 = k_HV_heirsApart_3 := sorry
theorem e_HV_heirsApart_4 : blk HV_heirsApart 4 = k_HV_heirsApart_4 := sorry
theorem e_HV_heirsApart_5 : blk HV_heirsApart 5 = k_HV_heirsApart_5 := sorry
theorem e_HV_heirsApart_6 : blk HV_heirsApart 6 = k_HV_heirsApart_6 := sorry
theorem e_LN_init_0 : blk LN_init 0 = k_LN_init_0 := sorry
theorem e_LN_clear_0 : blk LN_clear 0 = k_LN_clear_0 := sorry
theorem e_LN_add_0 : blk LN_add 0 = k_LN_add_0 := sorry
theorem e_LN_add_1 : blk LN_add 1 = k_LN_add_1 := sorry
theorem e_LN_add_2 : blk LN_add 2 = k_LN_add_2 := sorry
theorem e_LN_add_3 : blk LN_add 3 = k_LN_add_3 := sorry
theorem e_LN_add_4 : blk LN_add 4 = k_LN_add_4 := sorry
theorem e_LN_advanceTo_0 : blk LN_advanceTo 0 = k_LN_advanceTo_0 := sorry
theorem e_LN_advanceTo_1 : blk LN_advanceTo 1 = k_LN_advanceTo_1 := sorry
theorem e_LN_advanceTo_2 : blk LN_advanceTo 2 = k_LN_advanceTo_2 := sorry
theorem e_LN_advanceTo_3 : blk LN_advanceTo 3 = k_LN_advanceTo_3 := sorry
theorem e_NE_init_0 : blk NE_init 0 = k_NE_init_0 := sorry
theorem e_NE_findAsTheySit_0 : blk NE_findAsTheySit 0 = k_NE_findAsTheySit_0 := sorry
theorem e_NE_findAsTheySit_1 : blk NE_findAsTheySit 1 = k_NE_findAsTheySit_1 := sorry
theorem e_NE_findAsTheySit_2 : blk NE_findAsTheySit 2 = k_NE_findAsTheySit_2 := sorry
theorem e_NE_findOrder_0 : blk NE_findOrder 0 = k_NE_findOrder_0 := sorry
theorem e_NE_findOrder_1 : blk NE_findOrder 1 = k_NE_findOrder_1 := sorry
theorem e_NE_bestRower_0 : blk NE_bestRower 0 = k_NE_bestRower_0 := sorry
theorem e_NE_bestRower_1 : blk NE_bestRower 1 = k_NE_bestRower_1 := sorry
theorem e_NE_bestRower_2 : blk NE_bestRower 2 = k_NE_bestRower_2 := sorry
theorem e_NE_arrange_0 : blk NE_arrange 0 = k_NE_arrange_0 := sorry
theorem e_NE_arrange_1 : blk NE_arrange 1 = k_NE_arrange_1 := sorry
theorem e_NE_arrange_2 : blk NE_arrange 2 = k_NE_arrange_2 := sorry
theorem e_NE_arrange_3 : blk NE_arrange 3 = k_NE_arrange_3 := sorry
theorem e_NE_arrange_4 : blk NE_arrange 4 = k_NE_arrange_4 := sorry
theorem e_NE_arrange_5 : blk NE_arrange 5 = k_NE_arrange_5 := sorry
theorem e_NE_arrange_6 : blk NE_arrange 6 = k_NE_arrange_6 := sorry
theorem e_NE_arrange_7 : blk NE_arrange 7 = k_NE_arrange_7 := sorry
theorem e_NE_keepOrder_0 : blk NE_keepOrder 0 = k_NE_keepOrder_0 := sorry
theorem e_NE_scan_0 : blk NE_scan 0 = k_NE_scan_0 := sorry
theorem e_NE_scan_1 : blk NE_scan 1 = k_NE_scan_1 := sorry
theorem e_NE_scan_2 : blk NE_scan 2 = k_NE_scan_2 := sorry
theorem e_NE_scan_3 : blk NE_scan 3 = k_NE_scan_3 := sorry
theorem e_NE_scan_4 : blk NE_scan 4 = k_NE_scan_4 := sorry
theorem e_NE_setLanes_0 : blk NE_setLanes 0 = k_NE_setLanes_0 := sorry
theorem e_NE_setLanes_1 : blk NE_setLanes 1 = k_NE_setLanes_1 := sorry
theorem e_NE_setLanes_2 : blk NE_setLanes 2 = k_NE_setLanes_2 := sorry
theorem e_NE_setLanes_3 : blk NE_setLanes 3 = k_NE_setLanes_3 := sorry
theorem e_NE_setLanes_4 : blk NE_setLanes 4 = k_NE_setLanes_4 := sorry
theorem e_NE_setLanes_5 : blk NE_setLanes 5 = k_NE_setLanes_5 := sorry
theorem e_NE_weigh_0 : blk NE_weigh 0 = k_NE_weigh_0 := sorry
theorem e_NE_weigh_1 : blk NE_weigh 1 = k_NE_weigh_1 := sorry
theorem e_NE_weigh_2 : blk NE_weigh 2 = k_NE_weigh_2 := sorry
theorem e_NE_weigh_3 : blk NE_weigh 3 = k_NE_weigh_3 := sorry
theorem e_NE_weigh_4 : blk NE_weigh 4 = k_NE_weigh_4 := sorry
theorem e_NE_weigh_5 : blk NE_weigh 5 = k_NE_weigh_5 := sorry
theorem e_NE_weigh_6 : blk NE_weigh 6 = k_NE_weigh_6 := sorry
theorem e_NE_weigh_7 : blk NE_weigh 7 = k_NE_weigh_7 := sorry
theorem e_PL_init_0 : blk PL_init 0 = k_PL_init_0 := sorry
theorem e_PL_clear_0 : blk PL_clear 0 = k_PL_clear_0 := sorry
theorem e_PL_isSeat_0 : blk PL_isSeat 0 = k_PL_isSeat_0 := sorry
theorem e_PL_isSeat_1 : blk PL_isSeat 1 = k_PL_isSeat_1 := sorry
theorem e_PL_isSeat_2 : blk PL_isSeat 2 = k_PL_isSeat_2 := sorry
theorem e_PL_isRower_0 : blk PL_isRower 0 = k_PL_isRower_0 := sorry
theorem e_PL_isRower_1 : blk PL_isRower 1 = k_PL_isRower_1 := sorry
theorem e_PL_isRower_2 : blk PL_isRower 2 = k_PL_isRower_2 := sorry
theorem e_PL_isPower_0 : blk PL_isPower 0 = k_PL_isPower_0 := sorry
theorem e_PL_isPower_1 : blk PL_isPower 1 = k_PL_isPower_1 := sorry
theorem e_PL_isPower_2 : blk PL_isPower 2 = k_PL_isPower_2 := sorry
theorem e_PL_isFixed_0 : blk PL_isFixed 0 = k_PL_isFixed_0 := sorry
theorem e_PL_isFixed_1 : blk PL_isFixed 1 = k_PL_isFixed_1 := sorry
theorem e_PL_isFixed_2 : blk PL_isFixed 2 = k_PL_isFixed_2 := sorry
theorem e_PL_seatAtPlace_0 : blk PL_seatAtPlace 0 = k_PL_seatAtPlace_0 := sorry
theorem e_PL_seatAtPlace_1 : blk PL_seatAtPlace 1 = k_PL_seatAtPlace_1 := sorry
theorem e_PL_seatAtPlace_2 : blk PL_seatAtPlace 2 = k_PL_seatAtPlace_2 := sorry
theorem e_PL_seatAtPlace_3 : blk PL_seatAtPlace 3 = k_PL_seatAtPlace_3 := sorry
theorem e_PL_addSeat_0 : blk PL_addSeat 0 = k_PL_addSeat_0 := sorry
theorem e_PL_addSeat_1 : blk PL_addSeat 1 = k_PL_addSeat_1 := sorry
theorem e_PL_addSeat_2 : blk PL_addSeat 2 = k_PL_addSeat_2 := sorry
theorem e_PL_addSeat_3 : blk PL_addSeat 3 = k_PL_addSeat_3 := sorry
theorem e_PL_fixSeat_0 : blk PL_fixSeat 0 = k_PL_fixSeat_0 := sorry
theorem e_PL_fixSeat_1 : blk PL_fixSeat 1 = k_PL_fixSeat_1 := sorry
theorem e_PL_fixSeat_2 : blk PL_fixSeat 2 = k_PL_fixSeat_2 := sorry
theorem e_PL_fixSeat_3 : blk PL_fixSeat 3 = k_PL_fixSeat_3 := sorry
theorem e_PL_fixSeat_4 : blk PL_fixSeat 4 = k_PL_fixSeat_4 := sorry
theorem e_PL_addRower_0 : blk PL_addRower 0 = k_PL_addRower_0 := sorry
theorem e_PL_addRower_1 : blk PL_addRower 1 = k_PL_addRower_1 := sorry
theorem e_PL_wantSwing_0 : blk PL_wantSwing 0 = k_PL_wantSwing_0 := sorry
theorem e_PL_wantSwing_1 : blk PL_wantSwing 1 = k_PL_wantSwing_1 := sorry
theorem e_PL_addRun_0 : blk PL_addRun 0 = k_PL_addRun_0 := sorry
theorem e_PL_addRun_1 : blk PL_addRun 1 = k_PL_addRun_1 := sorry
theorem e_PL_setRunSide_0 : blk PL_setRunSide 0 = k_PL_setRunSide_0 := sorry
theorem e_PL_setRunSide_1 : blk PL_setRunSide 1 = k_PL_setRunSide_1 := sorry
theorem e_PL_addPayment_0 : blk PL_addPayment 0 = k_PL_addPayment_0 := sorry
theorem e_PL_addPayment_1 : blk PL_addPayment 1 = k_PL_addPayment_1 := sorry
theorem e_PL_wants_0 : blk PL_wants 0 = k_PL_wants_0 := sorry
theorem e_PL_wants_1 : blk PL_wants 1 = k_PL_wants_1 := sorry
theorem e_PL_wants_2 : blk PL_wants 2 = k_PL_wants_2 := sorry
theorem e_PL_wants_3 : blk PL_wants 3 = k_PL_wants_3 := sorry
theorem e_PL_leverOf_0 : blk PL_leverOf 0 = k_PL_leverOf_0 := sorry
theorem e_PL_leverOf_1 : blk PL_leverOf 1 = k_PL_leverOf_1 := sorry
theorem e_PL_leverOf_2 : blk PL_leverOf 2 = k_PL_leverOf_2 := sorry
theorem e_PL_allows_0 : blk PL_allows 0 = k_PL_allows_0 := sorry
theorem e_PL_allows_1 : blk PL_allows 1 = k_PL_allows_1 := sorry
theorem e_PL_allows_2 : blk PL_allows 2 = k_PL_allows_2 := sorry
theorem e_PL_allows_3 : blk PL_allows 3 = k_PL_allows_3 := sorry
theorem e_PL_sideAtFirst_0 : blk PL_sideAtFirst 0 = k_PL_sideAtFirst_0 := sorry
theorem e_PL_sideAtFirst_1 : blk PL_sideAtFirst 1 = k_PL_sideAtFirst_1 := sorry
theorem e_PL_seatedAtFirst_0 : blk PL_seatedAtFirst 0 = k_PL_seatedAtFirst_0 := sorry
theorem e_PL_runLever_0 : blk PL_runLever 0 = k_PL_runLever_0 := sorry
theorem e_PL_runLever_1 : blk PL_runLever 1 = k_PL_runLever_1 := sorry
theorem e_PL_runLever_2 : blk PL_runLever 2 = k_PL_runLever_2 := sorry
theorem e_PL_swungOf_0 : blk PL_swungOf 0 = k_PL_swungOf_0 := sorry
theorem e_PL_swungOf_1 : blk PL_swungOf 1 = k_PL_swungOf_1 := sorry
theorem e_PL_swungOf_2 : blk PL_swungOf 2 = k_PL_swungOf_2 := sorry
theorem e_PL_payment_0 : blk PL_payment 0 = k_PL_payment_0 := sorry
theorem e_PL_payment_1 : blk PL_payment 1 = k_PL_payment_1 := sorry
theorem e_PL_payment_2 : blk PL_payment 2 = k_PL_payment_2 := sorry
theorem e_PL_payment_3 : blk PL_payment 3 = k_PL_payment_3 := sorry
theorem e_PL_payment_4 : blk PL_payment 4 = k_PL_payment_4 := sorry
theorem e_QU_init_0 : blk QU_init 0 = k_QU_init_0 := sorry
theorem e_QU_read_0 : blk QU_read 0 = k_QU_read_0 := sorry
theorem e_QU_read_1 : blk QU_read 1 = k_QU_read_1 := sorry
theorem e_QU_read_2 : blk QU_read 2 = k_QU_read_2 := sorry
theorem e_QU_read_3 : blk QU_read 3 = k_QU_read_3 := sorry
theorem e_QU_read_4 : blk QU_read 4 = k_QU_read_4 := sorry
theorem e_QU_read_5 : blk QU_read 5 = k_QU_read_5 := sorry
theorem e_QU_read_6 : blk QU_read 6 = k_QU_read_6 := sorry
theorem e_QU_read_7 : blk QU_read 7 = k_QU_read_7 := sorry
theorem e_QU_test_0 : blk QU_test 0 = k_QU_test_0 := sorry
theorem e_QU_test_1 : blk QU_test 1 = k_QU_test_1 := sorry
theorem e_QU_test_2 : blk QU_test 2 = k_QU_test_2 := sorry
theorem e_QU_test_3 : blk QU_test 3 = k_QU_test_3 := sorry
theorem e_QU_test_4 : blk QU_test 4 = k_QU_test_4 := sorry
theorem e_QU_both_0 : blk QU_both 0 = k_QU_both_0 := sorry
theorem e_QU_both_1 : blk QU_both 1 = k_QU_both_1 := sorry
theorem e_QU_both_2 : blk QU_both 2 = k_QU_both_2 := sorry
theorem e_QU_both_3 : blk QU_both 3 = k_QU_both_3 := sorry
theorem e_QU_both_4 : blk QU_both 4 = k_QU_both_4 := sorry
theorem e_QU_fact_0 : blk QU_fact 0 = k_QU_fact_0 := sorry
theorem e_QU_fact_1 : blk QU_fact 1 = k_QU_fact_1 := sorry
theorem e_QU_fact_2 : blk QU_fact 2 = k_QU_fact_2 := sorry
theorem e_QU_fact_3 : blk QU_fact 3 = k_QU_fact_3 := sorry
theorem e_QU_fact_4 : blk QU_fact 4 = k_QU_fact_4 := sorry
theorem e_QU_fact_5 : blk QU_fact 5 = k_QU_fact_5 := sorry
theorem e_QU_fact_6 : blk QU_fact 6 = k_QU_fact_6 := sorry
theorem e_QU_comparison_0 : blk QU_comparison 0 = k_QU_comparison_0 := sorry
theorem e_QU_comparison_1 : blk QU_comparison 1 = k_QU_comparison_1 := sorry
theorem e_QU_comparison_2 : blk QU_comparison 2 = k_QU_comparison_2 := sorry
theorem e_QU_comparison_3 : blk QU_comparison 3 = k_QU_comparison_3 := sorry
theorem e_QU_comparison_4 : blk QU_comparison 4 = k_QU_comparison_4 := sorry
theorem e_QU_comparison_5 : blk QU_comparison 5 = k_QU_comparison_5 := sorry
theorem e_QU_comparison_6 : blk QU_comparison 6 = k_QU_comparison_6 := sorry
theorem e_QU_sum_0 : blk QU_sum 0 = k_QU_sum_0 := sorry
theorem e_QU_sum_1 : blk QU_sum 1 = k_QU_sum_1 := sorry
theorem e_QU_sum_2 : blk QU_sum 2 = k_QU_sum_2 := sorry
theorem e_QU_sum_3 : blk QU_sum 3 = k_QU_sum_3 := sorry
theorem e_QU_sum_4 : blk QU_sum 4 = k_QU_sum_4 := sorry
theorem e_QU_sum_5 : blk QU_sum 5 = k_QU_sum_5 := sorry
theorem e_QU_sum_6 : blk QU_sum 6 = k_QU_sum_6 := sorry
theorem e_QU_sum_7 : blk QU_sum 7 = k_QU_sum_7 := sorry
theorem e_QU_sum_8 : blk QU_sum 8 = k_QU_sum_8 := sorry
theorem e_QU_product_0 : blk QU_product 0 = k_QU_product_0 := sorry
theorem e_QU_product_1 : blk QU_product 1 = k_QU_product_1 := sorry
theorem e_QU_product_2 : blk QU_product 2 = k_QU_product_2 := sorry
theorem e_QU_product_3 : blk QU_product 3 = k_QU_product_3 := sorry
theorem e_QU_product_4 : blk QU_product 4 = k_QU_product_4 := sorry
theorem e_QU_product_5 : blk QU_product 5 = k_QU_product_5 := sorry
theorem e_QU_product_6 : blk QU_product 6 = k_QU_product_6 := sorry
theorem e_QU_product_7 : blk QU_product 7 = k_QU_product_7 := sorry
theorem e_QU_product_8 : blk QU_product 8 = k_QU_product_8 := sorry
theorem e_QU_part_0 : blk QU_part 0 = k_QU_part_0 := sorry
theorem e_QU_part_1 : blk QU_part 1 = k_QU_part_1 := sorry
theorem e_QU_part_2 : blk QU_part 2 = k_QU_part_2 := sorry
theorem e_QU_part_3 : blk QU_part 3 = k_QU_part_3 := sorry
theorem e_QU_part_4 : blk QU_part 4 = k_QU_part_4 := sorry
theorem e_QU_part_5 : blk QU_part 5 = k_QU_part_5 := sorry
theorem e_QU_part_6 : blk QU_part 6 = k_QU_part_6 := sorry
theorem e_QU_part_7 : blk QU_part 7 = k_QU_part_7 := sorry
theorem e_QU_part_8 : blk QU_part 8 = k_QU_part_8 := sorry
theorem e_QU_partOf_0 : blk QU_partOf 0 = k_QU_partOf_0 := sorry
theorem e_QU_partOf_1 : blk QU_partOf 1 = k_QU_partOf_1 := sorry
theorem e_QU_pair_0 : blk QU_pair 0 = k_QU_pair_0 := sorry
theorem e_QU_pair_1 : blk QU_pair 1 = k_QU_pair_1 := sorry
theorem e_QU_pair_2 : blk QU_pair 2 = k_QU_pair_2 := sorry
theorem e_QU_pair_3 : blk QU_pair 3 = k_QU_pair_3 := sorry
theorem e_QU_mayOpen_0 : blk QU_mayOpen 0 = k_QU_mayOpen_0 := sorry
theorem e_QU_mayOpen_1 : blk QU_mayOpen 1 = k_QU_mayOpen_1 := sorry
theorem e_QU_mayOpen_2 : blk QU_mayOpen 2 = k_QU_mayOpen_2 := sorry
theorem e_QU_mayOpen_3 : blk QU_mayOpen 3 = k_QU_mayOpen_3 := sorry
theorem e_QU_code_0 : blk QU_code 0 = k_QU_code_0 := sorry
theorem e_QU_keep_0 : blk QU_keep 0 = k_QU_keep_0 := sorry
theorem e_QU_keep_1 : blk QU_keep 1 = k_QU_keep_1 := sorry
theorem e_QU_answer_0 : blk QU_answer 0 = k_QU_answer_0 := sorry
theorem e_QU_answer_1 : blk QU_answer 1 = k_QU_answer_1 := sorry
theorem e_QU_answer_2 : blk QU_answer 2 = k_QU_answer_2 := sorry
theorem e_QU_answerTest_0 : blk QU_answerTest 0 = k_QU_answerTest_0 := sorry
theorem e_QU_answerTest_1 : blk QU_answerTest 1 = k_QU_answerTest_1 := sorry
theorem e_QU_answerTest_2 : blk QU_answerTest 2 = k_QU_answerTest_2 := sorry
theorem e_QU_answerTest_3 : blk QU_answerTest 3 = k_QU_answerTest_3 := sorry
theorem e_QU_answerTest_4 : blk QU_answerTest 4 = k_QU_answerTest_4 := sorry
theorem e_QU_answerTest_5 : blk QU_answerTest 5 = k_QU_answerTest_5 := sorry
theorem e_QU_answerTest_6 : blk QU_answerTest 6 = k_QU_answerTest_6 := sorry
theorem e_QU_answerTest_7 : blk QU_answerTest 7 = k_QU_answerTest_7 := sorry
theorem e_QU_answerTest_8 : blk QU_answerTest 8 = k_QU_answerTest_8 := sorry
theorem e_QU_answerSum_0 : blk QU_answerSum 0 = k_QU_answerSum_0 := sorry
theorem e_QU_answerSum_1 : blk QU_answerSum 1 = k_QU_answerSum_1 := sorry
theorem e_QU_answerSum_2 : blk QU_answerSum 2 = k_QU_answerSum_2 := sorry
theorem e_QU_answerSum_3 : blk QU_answerSum 3 = k_QU_answerSum_3 := sorry
theorem e_QU_answerSum_4 : blk QU_answerSum 4 = k_QU_answerSum_4 := sorry
theorem e_QU_answerSum_5 : blk QU_answerSum 5 = k_QU_answerSum_5 := sorry
theorem e_QU_valueAt_0 : blk QU_valueAt 0 = k_QU_valueAt_0 := sorry
theorem e_QU_valueAt_1 : blk QU_valueAt 1 = k_QU_valueAt_1 := sorry
theorem e_QU_valueAt_2 : blk QU_valueAt 2 = k_QU_valueAt_2 := sorry
theorem e_QU_valueAt_3 : blk QU_valueAt 3 = k_QU_valueAt_3 := sorry
theorem e_QU_valueAt_4 : blk QU_valueAt 4 = k_QU_valueAt_4 := sorry
theorem e_QU_keepTen_0 : blk QU_keepTen 0 = k_QU_keepTen_0 := sorry
theorem e_QU_keepTen_1 : blk QU_keepTen 1 = k_QU_keepTen_1 := sorry
theorem e_QU_keepTen_2 : blk QU_keepTen 2 = k_QU_keepTen_2 := sorry
theorem e_QU_keepTen_3 : blk QU_keepTen 3 = k_QU_keepTen_3 := sorry
theorem e_QU_keepTen_4 : blk QU_keepTen 4 = k_QU_keepTen_4 := sorry
theorem e_QU_keepTen_5 : blk QU_keepTen 5 = k_QU_keepTen_5 := sorry
theorem e_QU_apply_0 : blk QU_apply 0 = k_QU_apply_0 := sorry
theorem e_QU_apply_1 : blk QU_apply 1 = k_QU_apply_1 := sorry
theorem e_QU_apply_2 : blk QU_apply 2 = k_QU_apply_2 := sorry
theorem e_QU_apply_3 : blk QU_apply 3 = k_QU_apply_3 := sorry
theorem e_QU_apply_4 : blk QU_apply 4 = k_QU_apply_4 := sorry
theorem e_QU_apply_5 : blk QU_apply 5 = k_QU_apply_5 := sorry
theorem e_QU_apply_6 : blk QU_apply 6 = k_QU_apply_6 := sorry
theorem e_QU_apply_7 : blk QU_apply 7 = k_QU_apply_7 := sorry
theorem e_QU_apply_8 : blk QU_apply 8 = k_QU_apply_8 := sorry
theorem e_QU_apply_9 : blk QU_apply 9 = k_QU_apply_9 := sorry
theorem e_QU_apply_10 : blk QU_apply 10 = k_QU_apply_10 := sorry
theorem e_QU_apply_11 : blk QU_apply 11 = k_QU_apply_11 := sorry
theorem e_QU_applyToTwo_0 : blk QU_applyToTwo 0 = k_QU_applyToTwo_0 := sorry
theorem e_QU_swingOf_0 : blk QU_swingOf 0 = k_QU_swingOf_0 := sorry
theorem e_QU_swingOf_1 : blk QU_swingOf 1 = k_QU_swingOf_1 := sorry
theorem e_QU_swingOf_2 : blk QU_swingOf 2 = k_QU_swingOf_2 := sorry
theorem e_QU_forceOf_0 : blk QU_forceOf 0 = k_QU_forceOf_0 := sorry
theorem e_QU_forceOf_1 : blk QU_forceOf 1 = k_QU_forceOf_1 := sorry
theorem e_QU_forceOf_2 : blk QU_forceOf 2 = k_QU_forceOf_2 := sorry
theorem e_QU_joined_0 : blk QU_joined 0 = k_QU_joined_0 := sorry
theorem e_QU_joined_1 : blk QU_joined 1 = k_QU_joined_1 := sorry
theorem e_QU_joined_2 : blk QU_joined 2 = k_QU_joined_2 := sorry
theorem e_QU_joined_3 : blk QU_joined 3 = k_QU_joined_3 := sorry
theorem e_QU_joined_4 : blk QU_joined 4 = k_QU_joined_4 := sorry
theorem e_QU_joined_5 : blk QU_joined 5 = k_QU_joined_5 := sorry
theorem e_QU_joined_6 : blk QU_joined 6 = k_QU_joined_6 := sorry
theorem e_QU_joined_7 : blk QU_joined 7 = k_QU_joined_7 := sorry
theorem e_QU_joined_8 : blk QU_joined 8 = k_QU_joined_8 := sorry
theorem e_QU_joined_9 : blk QU_joined 9 = k_QU_joined_9 := sorry
theorem e_QU_joined_10 : blk QU_joined 10 = k_QU_joined_10 := sorry
theorem e_QU_joined_11 : blk QU_joined 11 = k_QU_joined_11 := sorry
theorem e_QU_joined_12 : blk QU_joined 12 = k_QU_joined_12 := sorry
theorem e_QU_joined_13 : blk QU_joined 13 = k_QU_joined_13 := sorry
theorem e_QU_joined_14 : blk QU_joined 14 = k_QU_joined_14 := sorry
theorem e_QU_joined_15 : blk QU_joined 15 = k_QU_joined_15 := sorry
theorem e_QU_joined_16 : blk QU_joined 16 = k_QU_joined_16 := sorry
theorem e_QU_joined_17 : blk QU_joined 17 = k_QU_joined_17 := sorry
theorem e_QU_joined_18 : blk QU_joined 18 = k_QU_joined_18 := sorry
theorem e_QU_joined_19 : blk QU_joined 19 = k_QU_joined_19 := sorry
theorem e_QU_held_0 : blk QU_held 0 = k_QU_held_0 := sorry
theorem e_QU_push_0 : blk QU_push 0 = k_QU_push_0 := sorry
theorem e_QU_push_1 : blk QU_push 1 = k_QU_push_1 := sorry
theorem e_QU_pop_0 : blk QU_pop 0 = k_QU_pop_0 := sorry
theorem e_QU_pop_1 : blk QU_pop 1 = k_QU_pop_1 := sorry
theorem e_RA_init_0 : blk RA_init 0 = k_RA_init_0 := sorry
theorem e_RA_greatest_0 : blk RA_greatest 0 = k_RA_greatest_0 := sorry
theorem e_RA_greatest_1 : blk RA_greatest 1 = k_RA_greatest_1 := sorry
theorem e_RA_greatest_2 : blk RA_greatest 2 = k_RA_greatest_2 := sorry
theorem e_RA_findStillest_0 : blk RA_findStillest 0 = k_RA_findStillest_0 := sorry
theorem e_RA_findStillest_1 : blk RA_findStillest 1 = k_RA_findStillest_1 := sorry
theorem e_RA_findStillest_2 : blk RA_findStillest 2 = k_RA_findStillest_2 := sorry
theorem e_RA_findStillest_3 : blk RA_findStillest 3 = k_RA_findStillest_3 := sorry
theorem e_RA_findStillest_4 : blk RA_findStillest 4 = k_RA_findStillest_4 := sorry
theorem e_RA_findStillest_5 : blk RA_findStillest 5 = k_RA_findStillest_5 := sorry
theorem e_RA_findUnderWay_0 : blk RA_findUnderWay 0 = k_RA_findUnderWay_0 := sorry
theorem e_RA_findUnderWay_1 : blk RA_findUnderWay 1 = k_RA_findUnderWay_1 := sorry
theorem e_RA_findUnderWay_2 : blk RA_findUnderWay 2 = k_RA_findUnderWay_2 := sorry
theorem e_RA_findUnderWay_3 : blk RA_findUnderWay 3 = k_RA_findUnderWay_3 := sorry
theorem e_RA_findUnderWay_4 : blk RA_findUnderWay 4 = k_RA_findUnderWay_4 := sorry
theorem e_RA_findUnderWay_5 : blk RA_findUnderWay 5 = k_RA_findUnderWay_5 := sorry
theorem e_RA_sailAsTheySit_0 : blk RA_sailAsTheySit 0 = k_RA_sailAsTheySit_0 := sorry
theorem e_RA_sailAsTheySit_1 : blk RA_sailAsTheySit 1 = k_RA_sailAsTheySit_1 := sorry
theorem e_RA_sailAsTheySit_2 : blk RA_sailAsTheySit 2 = k_RA_sailAsTheySit_2 := sorry
theorem e_RA_tryChange_0 : blk RA_tryChange 0 = k_RA_tryChange_0 := sorry
theorem e_RA_tryChange_1 : blk RA_tryChange 1 = k_RA_tryChange_1 := sorry
theorem e_RA_tryChange_2 : blk RA_tryChange 2 = k_RA_tryChange_2 := sorry
theorem e_RA_tryChange_3 : blk RA_tryChange 3 = k_RA_tryChange_3 := sorry
theorem e_RA_tryChange_4 : blk RA_tryChange 4 = k_RA_tryChange_4 := sorry
theorem e_RA_setLanes_0 : blk RA_setLanes 0 = k_RA_setLanes_0 := sorry
theorem e_RA_setLanes_1 : blk RA_setLanes 1 = k_RA_setLanes_1 := sorry
theorem e_RA_setLanes_2 : blk RA_setLanes 2 = k_RA_setLanes_2 := sorry
theorem e_RA_setLanes_3 : blk RA_setLanes 3 = k_RA_setLanes_3 := sorry
theorem e_RA_setLanes_4 : blk RA_setLanes 4 = k_RA_setLanes_4 := sorry
theorem e_RA_greatestOf_0 : blk RA_greatestOf 0 = k_RA_greatestOf_0 := sorry
theorem e_RA_greatestOf_1 : blk RA_greatestOf 1 = k_RA_greatestOf_1 := sorry
theorem e_RA_greatestOf_2 : blk RA_greatestOf 2 = k_RA_greatestOf_2 := sorry
theorem e_RA_firstTen_0 : blk RA_firstTen 0 = k_RA_firstTen_0 := sorry
theorem e_RA_lastTen_0 : blk RA_lastTen 0 = k_RA_lastTen_0 := sorry
theorem e_TP_init_0 : blk TP_init 0 = k_TP_init_0 := sorry
theorem e_TP_hasRoomForFive_0 : blk TP_hasRoomForFive 0 = k_TP_hasRoomForFive_0 := sorry
theorem e_TP_hasRoomForFive_1 : blk TP_hasRoomForFive 1 = k_TP_hasRoomForFive_1 := sorry
theorem e_TP_hasRoomForFive_2 : blk TP_hasRoomForFive 2 = k_TP_hasRoomForFive_2 := sorry
theorem e_TP_put_0 : blk TP_put 0 = k_TP_put_0 := sorry
theorem e_TP_put_1 : blk TP_put 1 = k_TP_put_1 := sorry
theorem e_TP_put_2 : blk TP_put 2 = k_TP_put_2 := sorry
theorem e_TP_cut_0 : blk TP_cut 0 = k_TP_cut_0 := sorry
theorem e_TP_cut_1 : blk TP_cut 1 = k_TP_cut_1 := sorry
theorem e_TP_cut_2 : blk TP_cut 2 = k_TP_cut_2 := sorry
theorem e_TP_clear_0 : blk TP_clear 0 = k_TP_clear_0 := sorry
theorem e_TP_byteAt_0 : blk TP_byteAt 0 = k_TP_byteAt_0 := sorry
theorem e_TP_byteAt_1 : blk TP_byteAt 1 = k_TP_byteAt_1 := sorry
theorem e_TP_byteAt_2 : blk TP_byteAt 2 = k_TP_byteAt_2 := sorry
theorem e_TP_begin_0 : blk TP_begin 0 = k_TP_begin_0 := sorry
theorem e_TP_fail_0 : blk TP_fail 0 = k_TP_fail_0 := sorry
theorem e_TP_failHere_0 : blk TP_failHere 0 = k_TP_failHere_0 := sorry
theorem e_TP_next_0 : blk TP_next 0 = k_TP_next_0 := sorry
theorem e_TP_next_1 : blk TP_next 1 = k_TP_next_1 := sorry
theorem e_TP_takeSign_0 : blk TP_takeSign 0 = k_TP_takeSign_0 := sorry
theorem e_TP_takeSign_1 : blk TP_takeSign 1 = k_TP_takeSign_1 := sorry
theorem e_TP_wordHere_0 : blk TP_wordHere 0 = k_TP_wordHere_0 := sorry
theorem e_TP_wordHere_1 : blk TP_wordHere 1 = k_TP_wordHere_1 := sorry
theorem e_TP_wordHere_2 : blk TP_wordHere 2 = k_TP_wordHere_2 := sorry
theorem e_TP_passWord_0 : blk TP_passWord 0 = k_TP_passWord_0 := sorry
theorem e_TP_takeWord_0 : blk TP_takeWord 0 = k_TP_takeWord_0 := sorry
theorem e_TP_takeWord_1 : blk TP_takeWord 1 = k_TP_takeWord_1 := sorry
theorem e_TP_anyWordEnd_0 : blk TP_anyWordEnd 0 = k_TP_anyWordEnd_0 := sorry
theorem e_TP_anyWordEnd_1 : blk TP_anyWordEnd 1 = k_TP_anyWordEnd_1 := sorry
theorem e_TP_anyWordEnd_2 : blk TP_anyWordEnd 2 = k_TP_anyWordEnd_2 := sorry
theorem e_TP_placeIn_0 : blk TP_placeIn 0 = k_TP_placeIn_0 := sorry
theorem e_TP_placeIn_1 : blk TP_placeIn 1 = k_TP_placeIn_1 := sorry
theorem e_TP_placeIn_2 : blk TP_placeIn 2 = k_TP_placeIn_2 := sorry
theorem e_TP_placeIn_3 : blk TP_placeIn 3 = k_TP_placeIn_3 := sorry
theorem e_TP_placeIn_4 : blk TP_placeIn 4 = k_TP_placeIn_4 := sorry
theorem e_TP_placeIn_5 : blk TP_placeIn 5 = k_TP_placeIn_5 := sorry
theorem e_TP_placeIn_6 : blk TP_placeIn 6 = k_TP_placeIn_6 := sorry
theorem e_TP_placeIn_7 : blk TP_placeIn 7 = k_TP_placeIn_7 := sorry
theorem e_TP_takeNumber_0 : blk TP_takeNumber 0 = k_TP_takeNumber_0 := sorry
theorem e_TP_takeNumber_1 : blk TP_takeNumber 1 = k_TP_takeNumber_1 := sorry
theorem e_TP_takeNumber_2 : blk TP_takeNumber 2 = k_TP_takeNumber_2 := sorry
theorem e_TP_takeNumber_3 : blk TP_takeNumber 3 = k_TP_takeNumber_3 := sorry
theorem e_TP_takeNumber_4 : blk TP_takeNumber 4 = k_TP_takeNumber_4 := sorry
theorem e_TP_takeNumber_5 : blk TP_takeNumber 5 = k_TP_takeNumber_5 := sorry
theorem e_TP_takeNumber_6 : blk TP_takeNumber 6 = k_TP_takeNumber_6 := sorry
theorem e_TP_takeNumber_7 : blk TP_takeNumber 7 = k_TP_takeNumber_7 := sorry
theorem e_TP_takeNumber_8 : blk TP_takeNumber 8 = k_TP_takeNumber_8 := sorry
theorem e_TP_takeNumber_9 : blk TP_takeNumber 9 = k_TP_takeNumber_9 := sorry
theorem e_TP_takeNumber_10 : blk TP_takeNumber 10 = k_TP_takeNumber_10 := sorry
theorem e_TP_takeSignedNumber_0 : blk TP_takeSignedNumber 0 = k_TP_takeSignedNumber_0 := sorry
theorem e_TP_takeSignedNumber_1 : blk TP_takeSignedNumber 1 = k_TP_takeSignedNumber_1 := sorry
theorem e_TP_takeSignedNumber_2 : blk TP_takeSignedNumber 2 = k_TP_takeSignedNumber_2 := sorry
theorem e_TP_takeSignedNumber_3 : blk TP_takeSignedNumber 3 = k_TP_takeSignedNumber_3 := sorry
theorem e_TP_takeSignedNumber_4 : blk TP_takeSignedNumber 4 = k_TP_takeSignedNumber_4 := sorry
theorem e_TP_takeSignedNumber_5 : blk TP_takeSignedNumber 5 = k_TP_takeSignedNumber_5 := sorry
theorem e_TP_takeSignedNumber_6 : blk TP_takeSignedNumber 6 = k_TP_takeSignedNumber_6 := sorry
theorem e_TP_takeSignedNumber_7 : blk TP_takeSignedNumber 7 = k_TP_takeSignedNumber_7 := sorry
theorem e_TP_takeSignedNumber_8 : blk TP_takeSignedNumber 8 = k_TP_takeSignedNumber_8 := sorry
theorem e_TP_wordEnd_0 : blk TP_wordEnd 0 = k_TP_wordEnd_0 := sorry
theorem e_TP_wordEnd_1 : blk TP_wordEnd 1 = k_TP_wordEnd_1 := sorry
theorem e_TP_wordEnd_2 : blk TP_wordEnd 2 = k_TP_wordEnd_2 := sorry
theorem e_TP_isLetter_0 : blk TP_isLetter 0 = k_TP_isLetter_0 := sorry
theorem e_TP_isLetter_1 : blk TP_isLetter 1 = k_TP_isLetter_1 := sorry
theorem e_TP_isLetter_2 : blk TP_isLetter 2 = k_TP_isLetter_2 := sorry
theorem e_TP_isDigit_0 : blk TP_isDigit 0 = k_TP_isDigit_0 := sorry
theorem e_TP_isDigit_1 : blk TP_isDigit 1 = k_TP_isDigit_1 := sorry
theorem e_TP_isDigit_2 : blk TP_isDigit 2 = k_TP_isDigit_2 := sorry
theorem e_TP_isBlank_0 : blk TP_isBlank 0 = k_TP_isBlank_0 := sorry
theorem e_TP_isBlank_1 : blk TP_isBlank 1 = k_TP_isBlank_1 := sorry
theorem e_TP_isBlank_2 : blk TP_isBlank 2 = k_TP_isBlank_2 := sorry
theorem e_TP_isBlank_3 : blk TP_isBlank 3 = k_TP_isBlank_3 := sorry
theorem e_TR_init_0 : blk TR_init 0 = k_TR_init_0 := sorry
theorem e_TR_forget_0 : blk TR_forget 0 = k_TR_forget_0 := sorry
theorem e_TR_firstUnfit_0 : blk TR_firstUnfit 0 = k_TR_firstUnfit_0 := sorry
theorem e_TR_firstUnfit_1 : blk TR_firstUnfit 1 = k_TR_firstUnfit_1 := sorry
theorem e_TR_firstUnfit_2 : blk TR_firstUnfit 2 = k_TR_firstUnfit_2 := sorry
theorem e_TR_firstUnfit_3 : blk TR_firstUnfit 3 = k_TR_firstUnfit_3 := sorry
theorem e_TR_told_0 : blk TR_told 0 = k_TR_told_0 := sorry
theorem e_TR_told_1 : blk TR_told 1 = k_TR_told_1 := sorry
theorem e_TR_told_2 : blk TR_told 2 = k_TR_told_2 := sorry
theorem e_TR_told_3 : blk TR_told 3 = k_TR_told_3 := sorry
theorem e_TR_told_4 : blk TR_told 4 = k_TR_told_4 := sorry
theorem e_TR_told_5 : blk TR_told 5 = k_TR_told_5 := sorry
theorem e_TR_told_6 : blk TR_told 6 = k_TR_told_6 := sorry
theorem e_TR_told_7 : blk TR_told 7 = k_TR_told_7 := sorry
theorem e_TR_crookedSeats_0 : blk TR_crookedSeats 0 = k_TR_crookedSeats_0 := sorry
theorem e_TR_crookedSeats_1 : blk TR_crookedSeats 1 = k_TR_crookedSeats_1 := sorry
theorem e_TR_crookedSeats_2 : blk TR_crookedSeats 2 = k_TR_crookedSeats_2 := sorry
theorem e_TR_crookedSeats_3 : blk TR_crookedSeats 3 = k_TR_crookedSeats_3 := sorry
theorem e_TR_crookedSeats_4 : blk TR_crookedSeats 4 = k_TR_crookedSeats_4 := sorry
theorem e_TR_crookedSeats_5 : blk TR_crookedSeats 5 = k_TR_crookedSeats_5 := sorry
theorem e_TR_crookedSeats_6 : blk TR_crookedSeats 6 = k_TR_crookedSeats_6 := sorry
theorem e_TR_gapAsTold_0 : blk TR_gapAsTold 0 = k_TR_gapAsTold_0 := sorry
theorem e_TR_gapAsTold_1 : blk TR_gapAsTold 1 = k_TR_gapAsTold_1 := sorry
theorem e_TR_gapAsTold_2 : blk TR_gapAsTold 2 = k_TR_gapAsTold_2 := sorry
theorem e_TR_canBeCrooked_0 : blk TR_canBeCrooked 0 = k_TR_canBeCrooked_0 := sorry
theorem e_TR_canBeCrooked_1 : blk TR_canBeCrooked 1 = k_TR_canBeCrooked_1 := sorry
theorem e_TR_canBeCrooked_2 : blk TR_canBeCrooked 2 = k_TR_canBeCrooked_2 := sorry
theorem e_TR_canBeCrooked_3 : blk TR_canBeCrooked 3 = k_TR_canBeCrooked_3 := sorry
theorem e_TR_canBeCrooked_4 : blk TR_canBeCrooked 4 = k_TR_canBeCrooked_4 := sorry
theorem e_TR_canBeCrooked_5 : blk TR_canBeCrooked 5 = k_TR_canBeCrooked_5 := sorry
theorem e_TR_canBeCrooked_6 : blk TR_canBeCrooked 6 = k_TR_canBeCrooked_6 := sorry
theorem e_TR_canBeCrooked_7 : blk TR_canBeCrooked 7 = k_TR_canBeCrooked_7 := sorry
theorem e_TR_allFitWith_0 : blk TR_allFitWith 0 = k_TR_allFitWith_0 := sorry
theorem e_TR_allFitWith_1 : blk TR_allFitWith 1 = k_TR_allFitWith_1 := sorry
theorem e_TR_allFitWith_2 : blk TR_allFitWith 2 = k_TR_allFitWith_2 := sorry
theorem e_TR_allFitWith_3 : blk TR_allFitWith 3 = k_TR_allFitWith_3 := sorry
theorem e_TR_countRows_0 : blk TR_countRows 0 = k_TR_countRows_0 := sorry
theorem e_TR_countRows_1 : blk TR_countRows 1 = k_TR_countRows_1 := sorry
theorem e_TR_countRows_2 : blk TR_countRows 2 = k_TR_countRows_2 := sorry
theorem e_TR_setBounds_0 : blk TR_setBounds 0 = k_TR_setBounds_0 := sorry
theorem e_TR_setBounds_1 : blk TR_setBounds 1 = k_TR_setBounds_1 := sorry
theorem e_TR_setBounds_2 : blk TR_setBounds 2 = k_TR_setBounds_2 := sorry
theorem e_TR_rowsFrom_0 : blk TR_rowsFrom 0 = k_TR_rowsFrom_0 := sorry
theorem e_TR_rowsFrom_1 : blk TR_rowsFrom 1 = k_TR_rowsFrom_1 := sorry
theorem e_TR_rowsFrom_2 : blk TR_rowsFrom 2 = k_TR_rowsFrom_2 := sorry
theorem e_TR_rowsFrom_3 : blk TR_rowsFrom 3 = k_TR_rowsFrom_3 := sorry
theorem e_TR_rowsFrom_4 : blk TR_rowsFrom 4 = k_TR_rowsFrom_4 := sorry
theorem e_TR_rowsFrom_5 : blk TR_rowsFrom 5 = k_TR_rowsFrom_5 := sorry
theorem e_TR_rowsFrom_6 : blk TR_rowsFrom 6 = k_TR_rowsFrom_6 := sorry
theorem e_TR_verdictFrom_0 : blk TR_verdictFrom 0 = k_TR_verdictFrom_0 := sorry
theorem e_TR_verdictFrom_1 : blk TR_verdictFrom 1 = k_TR_verdictFrom_1 := sorry
theorem e_TR_verdictFrom_2 : blk TR_verdictFrom 2 = k_TR_verdictFrom_2 := sorry
theorem e_TR_verdictFrom_3 : blk TR_verdictFrom 3 = k_TR_verdictFrom_3 := sorry
theorem e_TR_verdictFrom_4 : blk TR_verdictFrom 4 = k_TR_verdictFrom_4 := sorry
theorem e_TR_verdictFrom_5 : blk TR_verdictFrom 5 = k_TR_verdictFrom_5 := sorry
theorem e_TR_verdictFrom_6 : blk TR_verdictFrom 6 = k_TR_verdictFrom_6 := sorry
theorem e_TR_allRowsFrom_0 : blk TR_allRowsFrom 0 = k_TR_allRowsFrom_0 := sorry
theorem e_TR_allRowsFrom_1 : blk TR_allRowsFrom 1 = k_TR_allRowsFrom_1 := sorry
theorem e_TR_allRowsFrom_2 : blk TR_allRowsFrom 2 = k_TR_allRowsFrom_2 := sorry
theorem e_TR_rowsOfLast_0 : blk TR_rowsOfLast 0 = k_TR_rowsOfLast_0 := sorry
theorem e_TR_rowsOfLast_1 : blk TR_rowsOfLast 1 = k_TR_rowsOfLast_1 := sorry
theorem e_TR_rowsOfLast_2 : blk TR_rowsOfLast 2 = k_TR_rowsOfLast_2 := sorry
theorem e_TR_rowsOfLast_3 : blk TR_rowsOfLast 3 = k_TR_rowsOfLast_3 := sorry
theorem e_TR_rowsOfLast_4 : blk TR_rowsOfLast 4 = k_TR_rowsOfLast_4 := sorry
theorem e_TR_rowsOfLast_5 : blk TR_rowsOfLast 5 = k_TR_rowsOfLast_5 := sorry
theorem e_TR_rowsOfLast_6 : blk TR_rowsOfLast 6 = k_TR_rowsOfLast_6 := sorry
theorem e_TR_tryMore_0 : blk TR_tryMore 0 = k_TR_tryMore_0 := sorry
theorem e_TR_tryMore_1 : blk TR_tryMore 1 = k_TR_tryMore_1 := sorry
theorem e_TR_tryMore_2 : blk TR_tryMore 2 = k_TR_tryMore_2 := sorry
theorem e_TR_noteStrengths_0 : blk TR_noteStrengths 0 = k_TR_noteStrengths_0 := sorry
theorem e_TR_noteStrengths_1 : blk TR_noteStrengths 1 = k_TR_noteStrengths_1 := sorry
theorem e_EO_init_0 : blk EO_init 0 = k_EO_init_0 := sorry
theorem e_EO_feed_0 : blk EO_feed 0 = k_EO_feed_0 := sorry
theorem e_EO_feed_1 : blk EO_feed 1 = k_EO_feed_1 := sorry
theorem e_EO_end_0 : blk EO_end 0 = k_EO_end_0 := sorry
theorem e_EO_end_1 : blk EO_end 1 = k_EO_end_1 := sorry
theorem e_EO_end_2 : blk EO_end 2 = k_EO_end_2 := sorry
theorem e_EO_end_3 : blk EO_end 3 = k_EO_end_3 := sorry
theorem e_EO_text_0 : blk EO_text 0 = k_EO_text_0 := sorry
theorem e_EO_text_1 : blk EO_text 1 = k_EO_text_1 := sorry
theorem e_EO_fault_0 : blk EO_fault 0 = k_EO_fault_0 := sorry
theorem e_EO_fault_1 : blk EO_fault 1 = k_EO_fault_1 := sorry
theorem e_EO_fault_2 : blk EO_fault 2 = k_EO_fault_2 := sorry
theorem e_EO_fault_3 : blk EO_fault 3 = k_EO_fault_3 := sorry
theorem e_EO_boat_0 : blk EO_boat 0 = k_EO_boat_0 := sorry
theorem e_EO_boat_1 : blk EO_boat 1 = k_EO_boat_1 := sorry
theorem e_EO_boat_2 : blk EO_boat 2 = k_EO_boat_2 := sorry
theorem e_EO_boat_3 : blk EO_boat 3 = k_EO_boat_3 := sorry
theorem e_EO_boat_4 : blk EO_boat 4 = k_EO_boat_4 := sorry
theorem e_EO_boat_5 : blk EO_boat 5 = k_EO_boat_5 := sorry
theorem e_EO_boat_6 : blk EO_boat 6 = k_EO_boat_6 := sorry
theorem e_EO_boat_7 : blk EO_boat 7 = k_EO_boat_7 := sorry
theorem e_EO_boat_8 : blk EO_boat 8 = k_EO_boat_8 := sorry
theorem e_EO_boat_9 : blk EO_boat 9 = k_EO_boat_9 := sorry
theorem e_EO_boat_10 : blk EO_boat 10 = k_EO_boat_10 := sorry
theorem e_EO_boat_11 : blk EO_boat 11 = k_EO_boat_11 := sorry
theorem e_EO_boat_12 : blk EO_boat 12 = k_EO_boat_12 := sorry
theorem e_EO_letter_0 : blk EO_letter 0 = k_EO_letter_0 := sorry
theorem e_EO_letter_1 : blk EO_letter 1 = k_EO_letter_1 := sorry
theorem e_EO_letter_2 : blk EO_letter 2 = k_EO_letter_2 := sorry
theorem e_EO_seat_0 : blk EO_seat 0 = k_EO_seat_0 := sorry
theorem e_EO_seat_1 : blk EO_seat 1 = k_EO_seat_1 := sorry
theorem e_EO_seat_2 : blk EO_seat 2 = k_EO_seat_2 := sorry
theorem e_EO_seat_3 : blk EO_seat 3 = k_EO_seat_3 := sorry
theorem e_EO_seat_4 : blk EO_seat 4 = k_EO_seat_4 := sorry
theorem e_EO_seat_5 : blk EO_seat 5 = k_EO_seat_5 := sorry
theorem e_EO_seat_6 : blk EO_seat 6 = k_EO_seat_6 := sorry
theorem e_EO_seat_7 : blk EO_seat 7 = k_EO_seat_7 := sorry
theorem e_EO_seat_8 : blk EO_seat 8 = k_EO_seat_8 := sorry
theorem e_EO_seat_9 : blk EO_seat 9 = k_EO_seat_9 := sorry
theorem e_EO_seat_10 : blk EO_seat 10 = k_EO_seat_10 := sorry
theorem e_EO_rower_0 : blk EO_rower 0 = k_EO_rower_0 := sorry
theorem e_EO_rower_1 : blk EO_rower 1 = k_EO_rower_1 := sorry
theorem e_EO_rower_2 : blk EO_rower 2 = k_EO_rower_2 := sorry
theorem e_EO_rower_3 : blk EO_rower 3 = k_EO_rower_3 := sorry
theorem e_EO_rower_4 : blk EO_rower 4 = k_EO_rower_4 := sorry
theorem e_EO_rower_5 : blk EO_rower 5 = k_EO_rower_5 := sorry
theorem e_EO_rower_6 : blk EO_rower 6 = k_EO_rower_6 := sorry
theorem e_EO_want_0 : blk EO_want 0 = k_EO_want_0 := sorry
theorem e_EO_want_1 : blk EO_want 1 = k_EO_want_1 := sorry
theorem e_EO_want_2 : blk EO_want 2 = k_EO_want_2 := sorry
theorem e_EO_swing_0 : blk EO_swing 0 = k_EO_swing_0 := sorry
theorem e_EO_swing_1 : blk EO_swing 1 = k_EO_swing_1 := sorry
theorem e_EO_swing_2 : blk EO_swing 2 = k_EO_swing_2 := sorry
theorem e_EO_off_0 : blk EO_off 0 = k_EO_off_0 := sorry
theorem e_EO_good_0 : blk EO_good 0 = k_EO_good_0 := sorry
theorem e_EO_good_1 : blk EO_good 1 = k_EO_good_1 := sorry
theorem e_EO_good_2 : blk EO_good 2 = k_EO_good_2 := sorry
theorem e_EO_lawful_0 : blk EO_lawful 0 = k_EO_lawful_0 := sorry
theorem e_EO_lawful_1 : blk EO_lawful 1 = k_EO_lawful_1 := sorry
theorem e_EO_lawful_2 : blk EO_lawful 2 = k_EO_lawful_2 := sorry
theorem e_EO_heading_0 : blk EO_heading 0 = k_EO_heading_0 := sorry
theorem e_EO_turn_0 : blk EO_turn 0 = k_EO_turn_0 := sorry
theorem e_EO_turn_1 : blk EO_turn 1 = k_EO_turn_1 := sorry
theorem e_EO_turn_2 : blk EO_turn 2 = k_EO_turn_2 := sorry
theorem e_EO_turn_3 : blk EO_turn 3 = k_EO_turn_3 := sorry
theorem e_EO_swap_0 : blk EO_swap 0 = k_EO_swap_0 := sorry
theorem e_EO_swap_1 : blk EO_swap 1 = k_EO_swap_1 := sorry
theorem e_EO_swap_2 : blk EO_swap 2 = k_EO_swap_2 := sorry
theorem e_EO_swap_3 : blk EO_swap 3 = k_EO_swap_3 := sorry
theorem e_EO_stroke_0 : blk EO_stroke 0 = k_EO_stroke_0 := sorry
theorem e_EO_stroke_1 : blk EO_stroke 1 = k_EO_stroke_1 := sorry
theorem e_EO_row_0 : blk EO_row 0 = k_EO_row_0 := sorry
theorem e_EO_row_1 : blk EO_row 1 = k_EO_row_1 := sorry
theorem e_EO_undo_0 : blk EO_undo 0 = k_EO_undo_0 := sorry
theorem e_EO_undo_1 : blk EO_undo 1 = k_EO_undo_1 := sorry
theorem e_EO_undo_2 : blk EO_undo 2 = k_EO_undo_2 := sorry
theorem e_EO_undo_3 : blk EO_undo 3 = k_EO_undo_3 := sorry
theorem e_EO_seed_0 : blk EO_seed 0 = k_EO_seed_0 := sorry
theorem e_EO_seed_1 : blk EO_seed 1 = k_EO_seed_1 := sorry
theorem e_EO_ways_0 : blk EO_ways 0 = k_EO_ways_0 := sorry
theorem e_EO_made_0 : blk EO_made 0 = k_EO_made_0 := sorry
theorem e_EO_doubled_0 : blk EO_doubled 0 = k_EO_doubled_0 := sorry
theorem e_EO_still_0 : blk EO_still 0 = k_EO_still_0 := sorry
theorem e_EO_nearest_0 : blk EO_nearest 0 = k_EO_nearest_0 := sorry
theorem e_EO_nearest_1 : blk EO_nearest 1 = k_EO_nearest_1 := sorry
theorem e_EO_nearest_2 : blk EO_nearest 2 = k_EO_nearest_2 := sorry
theorem e_EO_nearest_3 : blk EO_nearest 3 = k_EO_nearest_3 := sorry
theorem e_EO_nearest_4 : blk EO_nearest 4 = k_EO_nearest_4 := sorry
theorem e_EO_nearest_5 : blk EO_nearest 5 = k_EO_nearest_5 := sorry
theorem e_EO_seated_0 : blk EO_seated 0 = k_EO_seated_0 := sorry
theorem e_EO_seated_1 : blk EO_seated 1 = k_EO_seated_1 := sorry
theorem e_EO_seated_2 : blk EO_seated 2 = k_EO_seated_2 := sorry
theorem e_EO_seated_3 : blk EO_seated 3 = k_EO_seated_3 := sorry
theorem e_EO_seated_4 : blk EO_seated 4 = k_EO_seated_4 := sorry
theorem e_EO_seated_5 : blk EO_seated 5 = k_EO_seated_5 := sorry
theorem e_EO_seated_6 : blk EO_seated 6 = k_EO_seated_6 := sorry
theorem e_EO_seated_7 : blk EO_seated 7 = k_EO_seated_7 := sorry
theorem e_EO_seated_8 : blk EO_seated 8 = k_EO_seated_8 := sorry
theorem e_EO_changes_0 : blk EO_changes 0 = k_EO_changes_0 := sorry
theorem e_EO_race_0 : blk EO_race 0 = k_EO_race_0 := sorry
theorem e_EO_race_1 : blk EO_race 1 = k_EO_race_1 := sorry
theorem e_EO_race_2 : blk EO_race 2 = k_EO_race_2 := sorry
theorem e_EO_race_3 : blk EO_race 3 = k_EO_race_3 := sorry
theorem e_EO_stillest_0 : blk EO_stillest 0 = k_EO_stillest_0 := sorry
theorem e_EO_stillest_1 : blk EO_stillest 1 = k_EO_stillest_1 := sorry
theorem e_EO_stillest_2 : blk EO_stillest 2 = k_EO_stillest_2 := sorry
theorem e_EO_stillest_3 : blk EO_stillest 3 = k_EO_stillest_3 := sorry
theorem e_EO_stillest_4 : blk EO_stillest 4 = k_EO_stillest_4 := sorry
theorem e_EO_under_0 : blk EO_under 0 = k_EO_under_0 := sorry
theorem e_EO_under_1 : blk EO_under 1 = k_EO_under_1 := sorry
theorem e_EO_under_2 : blk EO_under 2 = k_EO_under_2 := sorry
theorem e_EO_under_3 : blk EO_under 3 = k_EO_under_3 := sorry
theorem e_EO_under_4 : blk EO_under 4 = k_EO_under_4 := sorry
theorem e_EO_under_5 : blk EO_under 5 = k_EO_under_5 := sorry
theorem e_EO_under_6 : blk EO_under 6 = k_EO_under_6 := sorry
theorem e_EO_fits_0 : blk EO_fits 0 = k_EO_fits_0 := sorry
theorem e_EO_strengths_0 : blk EO_strengths 0 = k_EO_strengths_0 := sorry
theorem e_EO_crooked_0 : blk EO_crooked 0 = k_EO_crooked_0 := sorry
theorem e_EO_heirs_0 : blk EO_heirs 0 = k_EO_heirs_0 := sorry
theorem e_EO_heirs_1 : blk EO_heirs 1 = k_EO_heirs_1 := sorry
theorem e_EO_heirs_2 : blk EO_heirs 2 = k_EO_heirs_2 := sorry
theorem e_EO_heirs_3 : blk EO_heirs 3 = k_EO_heirs_3 := sorry
theorem e_EO_heirs_4 : blk EO_heirs 4 = k_EO_heirs_4 := sorry
theorem e_EO_apart_0 : blk EO_apart 0 = k_EO_apart_0 := sorry
theorem e_EO_ask_0 : blk EO_ask 0 = k_EO_ask_0 := sorry
theorem e_EO_ask_1 : blk EO_ask 1 = k_EO_ask_1 := sorry
theorem e_EO_ask_2 : blk EO_ask 2 = k_EO_ask_2 := sorry
theorem e_EO_image_0 : blk EO_image 0 = k_EO_image_0 := sorry
theorem e_EO_octet_0 : blk EO_octet 0 = k_EO_octet_0 := sorry
theorem e_EO_octet_1 : blk EO_octet 1 = k_EO_octet_1 := sorry
theorem e_EO_octet_2 : blk EO_octet 2 = k_EO_octet_2 := sorry
theorem e_EO_on_0 : blk EO_on 0 = k_EO_on_0 := sorry
theorem e_EO_on_1 : blk EO_on 1 = k_EO_on_1 := sorry
theorem e_EO_on_2 : blk EO_on 2 = k_EO_on_2 := sorry
theorem e_EO_on_3 : blk EO_on 3 = k_EO_on_3 := sorry
theorem e_EO_status_0 : blk EO_status 0 = k_EO_status_0 := sorry
theorem e_EO_status_1 : blk EO_status 1 = k_EO_status_1 := sorry
theorem e_EO_status_2 : blk EO_status 2 = k_EO_status_2 := sorry
theorem e_EO_refuse_0 : blk EO_refuse 0 = k_EO_refuse_0 := sorry
theorem e_EO_refuse_1 : blk EO_refuse 1 = k_EO_refuse_1 := sorry
theorem e_EO_canGoBy_0 : blk EO_canGoBy 0 = k_EO_canGoBy_0 := sorry
theorem e_EO_canGoBy_1 : blk EO_canGoBy 1 = k_EO_canGoBy_1 := sorry
theorem e_EO_canGoBy_2 : blk EO_canGoBy 2 = k_EO_canGoBy_2 := sorry
theorem e_EO_keepFault_0 : blk EO_keepFault 0 = k_EO_keepFault_0 := sorry
theorem e_MO_init_0 : blk MO_init 0 = k_MO_init_0 := sorry
theorem e_MO_isIn_0 : blk MO_isIn 0 = k_MO_isIn_0 := sorry
theorem e_MO_isIn_1 : blk MO_isIn 1 = k_MO_isIn_1 := sorry
theorem e_MO_isIn_2 : blk MO_isIn 2 = k_MO_isIn_2 := sorry
theorem e_MO_feed_0 : blk MO_feed 0 = k_MO_feed_0 := sorry
theorem e_MO_feed_1 : blk MO_feed 1 = k_MO_feed_1 := sorry
theorem e_MO_feed_2 : blk MO_feed 2 = k_MO_feed_2 := sorry
theorem e_MO_feed_3 : blk MO_feed 3 = k_MO_feed_3 := sorry
theorem e_MO_feed_4 : blk MO_feed 4 = k_MO_feed_4 := sorry
theorem e_MO_feed_5 : blk MO_feed 5 = k_MO_feed_5 := sorry
theorem e_MO_feed_6 : blk MO_feed 6 = k_MO_feed_6 := sorry
theorem e_MO_feed_7 : blk MO_feed 7 = k_MO_feed_7 := sorry
theorem e_MO_feed_8 : blk MO_feed 8 = k_MO_feed_8 := sorry
theorem e_MO_end_0 : blk MO_end 0 = k_MO_end_0 := sorry
theorem e_MO_end_1 : blk MO_end 1 = k_MO_end_1 := sorry
theorem e_MO_end_2 : blk MO_end 2 = k_MO_end_2 := sorry
theorem e_MO_fail_0 : blk MO_fail 0 = k_MO_fail_0 := sorry
theorem e_MO_fail_1 : blk MO_fail 1 = k_MO_fail_1 := sorry
theorem e_MO_isLetter_0 : blk MO_isLetter 0 = k_MO_isLetter_0 := sorry
theorem e_MO_isLetter_1 : blk MO_isLetter 1 = k_MO_isLetter_1 := sorry
theorem e_MO_isLetter_2 : blk MO_isLetter 2 = k_MO_isLetter_2 := sorry
theorem e_MO_isDigit_0 : blk MO_isDigit 0 = k_MO_isDigit_0 := sorry
theorem e_MO_isDigit_1 : blk MO_isDigit 1 = k_MO_isDigit_1 := sorry
theorem e_MO_isDigit_2 : blk MO_isDigit 2 = k_MO_isDigit_2 := sorry
theorem e_MO_look_0 : blk MO_look 0 = k_MO_look_0 := sorry
theorem e_MO_look_1 : blk MO_look 1 = k_MO_look_1 := sorry
theorem e_MO_look_2 : blk MO_look 2 = k_MO_look_2 := sorry
theorem e_MO_look_3 : blk MO_look 3 = k_MO_look_3 := sorry
theorem e_MO_look_4 : blk MO_look 4 = k_MO_look_4 := sorry
theorem e_MO_isHere_0 : blk MO_isHere 0 = k_MO_isHere_0 := sorry
theorem e_MO_isHere_1 : blk MO_isHere 1 = k_MO_isHere_1 := sorry
theorem e_MO_isHere_2 : blk MO_isHere 2 = k_MO_isHere_2 := sorry
theorem e_MO_isHere_3 : blk MO_isHere 3 = k_MO_isHere_3 := sorry
theorem e_MO_isHere_4 : blk MO_isHere 4 = k_MO_isHere_4 := sorry
theorem e_MO_isHere_5 : blk MO_isHere 5 = k_MO_isHere_5 := sorry
theorem e_MO_isHere_6 : blk MO_isHere 6 = k_MO_isHere_6 := sorry
theorem e_MO_isHere_7 : blk MO_isHere 7 = k_MO_isHere_7 := sorry
theorem e_MO_isHere_8 : blk MO_isHere 8 = k_MO_isHere_8 := sorry
theorem e_MO_takes_0 : blk MO_takes 0 = k_MO_takes_0 := sorry
theorem e_MO_takes_1 : blk MO_takes 1 = k_MO_takes_1 := sorry
theorem e_MO_asks_0 : blk MO_asks 0 = k_MO_asks_0 := sorry
theorem e_MO_asks_1 : blk MO_asks 1 = k_MO_asks_1 := sorry
theorem e_MO_takesSign_0 : blk MO_takesSign 0 = k_MO_takesSign_0 := sorry
theorem e_MO_takesSign_1 : blk MO_takesSign 1 = k_MO_takesSign_1 := sorry
theorem e_MO_takesSign_2 : blk MO_takesSign 2 = k_MO_takesSign_2 := sorry
theorem e_MO_asksSign_0 : blk MO_asksSign 0 = k_MO_asksSign_0 := sorry
theorem e_MO_asksSign_1 : blk MO_asksSign 1 = k_MO_asksSign_1 := sorry
theorem e_MO_number_0 : blk MO_number 0 = k_MO_number_0 := sorry
theorem e_MO_number_1 : blk MO_number 1 = k_MO_number_1 := sorry
theorem e_MO_number_2 : blk MO_number 2 = k_MO_number_2 := sorry
theorem e_MO_number_3 : blk MO_number 3 = k_MO_number_3 := sorry
theorem e_MO_number_4 : blk MO_number 4 = k_MO_number_4 := sorry
theorem e_MO_number_5 : blk MO_number 5 = k_MO_number_5 := sorry
theorem e_MO_number_6 : blk MO_number 6 = k_MO_number_6 := sorry
theorem e_MO_number_7 : blk MO_number 7 = k_MO_number_7 := sorry
theorem e_MO_signed_0 : blk MO_signed 0 = k_MO_signed_0 := sorry
theorem e_MO_signed_1 : blk MO_signed 1 = k_MO_signed_1 := sorry
theorem e_MO_signed_2 : blk MO_signed 2 = k_MO_signed_2 := sorry
theorem e_MO_signed_3 : blk MO_signed 3 = k_MO_signed_3 := sorry
theorem e_MO_signed_4 : blk MO_signed 4 = k_MO_signed_4 := sorry
theorem e_MO_signed_5 : blk MO_signed 5 = k_MO_signed_5 := sorry
theorem e_MO_signed_6 : blk MO_signed 6 = k_MO_signed_6 := sorry
theorem e_MO_signed_7 : blk MO_signed 7 = k_MO_signed_7 := sorry
theorem e_MO_isOwnHere_0 : blk MO_isOwnHere 0 = k_MO_isOwnHere_0 := sorry
theorem e_MO_isOwnHere_1 : blk MO_isOwnHere 1 = k_MO_isOwnHere_1 := sorry
theorem e_MO_isOwnHere_2 : blk MO_isOwnHere 2 = k_MO_isOwnHere_2 := sorry
theorem e_MO_isOwnHere_3 : blk MO_isOwnHere 3 = k_MO_isOwnHere_3 := sorry
theorem e_MO_isOwnHere_4 : blk MO_isOwnHere 4 = k_MO_isOwnHere_4 := sorry
theorem e_MO_isOwnHere_5 : blk MO_isOwnHere 5 = k_MO_isOwnHere_5 := sorry
theorem e_MO_isOwnHere_6 : blk MO_isOwnHere 6 = k_MO_isOwnHere_6 := sorry
theorem e_MO_isOwnHere_7 : blk MO_isOwnHere 7 = k_MO_isOwnHere_7 := sorry
theorem e_MO_isOwnHere_8 : blk MO_isOwnHere 8 = k_MO_isOwnHere_8 := sorry
theorem e_MO_isOwnHere_9 : blk MO_isOwnHere 9 = k_MO_isOwnHere_9 := sorry
theorem e_MO_name_0 : blk MO_name 0 = k_MO_name_0 := sorry
theorem e_MO_name_1 : blk MO_name 1 = k_MO_name_1 := sorry
theorem e_MO_name_2 : blk MO_name 2 = k_MO_name_2 := sorry
theorem e_MO_name_3 : blk MO_name 3 = k_MO_name_3 := sorry
theorem e_MO_name_4 : blk MO_name 4 = k_MO_name_4 := sorry
theorem e_MO_name_5 : blk MO_name 5 = k_MO_name_5 := sorry
theorem e_MO_name_6 : blk MO_name 6 = k_MO_name_6 := sorry
theorem e_MO_isFull_0 : blk MO_isFull 0 = k_MO_isFull_0 := sorry
theorem e_MO_isFull_1 : blk MO_isFull 1 = k_MO_isFull_1 := sorry
theorem e_MO_isFull_2 : blk MO_isFull 2 = k_MO_isFull_2 := sorry
theorem e_MO_isFull_3 : blk MO_isFull 3 = k_MO_isFull_3 := sorry
theorem e_MO_seatAt_0 : blk MO_seatAt 0 = k_MO_seatAt_0 := sorry
theorem e_MO_seatAt_1 : blk MO_seatAt 1 = k_MO_seatAt_1 := sorry
theorem e_MO_seatAt_2 : blk MO_seatAt 2 = k_MO_seatAt_2 := sorry
theorem e_MO_seatAt_3 : blk MO_seatAt 3 = k_MO_seatAt_3 := sorry
theorem e_MO_seatTold_0 : blk MO_seatTold 0 = k_MO_seatTold_0 := sorry
theorem e_MO_seatTold_1 : blk MO_seatTold 1 = k_MO_seatTold_1 := sorry
theorem e_MO_seatTold_2 : blk MO_seatTold 2 = k_MO_seatTold_2 := sorry
theorem e_MO_seatTold_3 : blk MO_seatTold 3 = k_MO_seatTold_3 := sorry
theorem e_MO_rowerTold_0 : blk MO_rowerTold 0 = k_MO_rowerTold_0 := sorry
theorem e_MO_rowerTold_1 : blk MO_rowerTold 1 = k_MO_rowerTold_1 := sorry
theorem e_MO_rowerTold_2 : blk MO_rowerTold 2 = k_MO_rowerTold_2 := sorry
theorem e_MO_rowerTold_3 : blk MO_rowerTold 3 = k_MO_rowerTold_3 := sorry
theorem e_MO_rowerTold_4 : blk MO_rowerTold 4 = k_MO_rowerTold_4 := sorry
theorem e_MO_rowerTold_5 : blk MO_rowerTold 5 = k_MO_rowerTold_5 := sorry
theorem e_MO_fixTold_0 : blk MO_fixTold 0 = k_MO_fixTold_0 := sorry
theorem e_MO_fixTold_1 : blk MO_fixTold 1 = k_MO_fixTold_1 := sorry
theorem e_MO_fixTold_2 : blk MO_fixTold 2 = k_MO_fixTold_2 := sorry
theorem e_MO_fixTold_3 : blk MO_fixTold 3 = k_MO_fixTold_3 := sorry
theorem e_MO_fixTold_4 : blk MO_fixTold 4 = k_MO_fixTold_4 := sorry
theorem e_MO_fixTold_5 : blk MO_fixTold 5 = k_MO_fixTold_5 := sorry
theorem e_MO_wantTold_0 : blk MO_wantTold 0 = k_MO_wantTold_0 := sorry
theorem e_MO_wantTold_1 : blk MO_wantTold 1 = k_MO_wantTold_1 := sorry
theorem e_MO_sidesTold_0 : blk MO_sidesTold 0 = k_MO_sidesTold_0 := sorry
theorem e_MO_sidesTold_1 : blk MO_sidesTold 1 = k_MO_sidesTold_1 := sorry
theorem e_MO_sidesTold_2 : blk MO_sidesTold 2 = k_MO_sidesTold_2 := sorry
theorem e_MO_sidesTold_3 : blk MO_sidesTold 3 = k_MO_sidesTold_3 := sorry
theorem e_MO_sidesTold_4 : blk MO_sidesTold 4 = k_MO_sidesTold_4 := sorry
theorem e_MO_sidesTold_5 : blk MO_sidesTold 5 = k_MO_sidesTold_5 := sorry
theorem e_MO_sidesTold_6 : blk MO_sidesTold 6 = k_MO_sidesTold_6 := sorry
theorem e_MO_sidesTold_7 : blk MO_sidesTold 7 = k_MO_sidesTold_7 := sorry
theorem e_MO_sidesTold_8 : blk MO_sidesTold 8 = k_MO_sidesTold_8 := sorry
theorem e_MO_sidesTold_9 : blk MO_sidesTold 9 = k_MO_sidesTold_9 := sorry
theorem e_MO_sidesTold_10 : blk MO_sidesTold 10 = k_MO_sidesTold_10 := sorry
theorem e_MO_sidesTold_11 : blk MO_sidesTold 11 = k_MO_sidesTold_11 := sorry
theorem e_MO_sidesTold_12 : blk MO_sidesTold 12 = k_MO_sidesTold_12 := sorry
theorem e_MO_sidesTold_13 : blk MO_sidesTold 13 = k_MO_sidesTold_13 := sorry
theorem e_MO_runTold_0 : blk MO_runTold 0 = k_MO_runTold_0 := sorry
theorem e_MO_runTold_1 : blk MO_runTold 1 = k_MO_runTold_1 := sorry
theorem e_MO_runTold_2 : blk MO_runTold 2 = k_MO_runTold_2 := sorry
theorem e_MO_payTold_0 : blk MO_payTold 0 = k_MO_payTold_0 := sorry
theorem e_MO_payTold_1 : blk MO_payTold 1 = k_MO_payTold_1 := sorry
theorem e_MO_payTold_2 : blk MO_payTold 2 = k_MO_payTold_2 := sorry
theorem e_MO_statementTold_0 : blk MO_statementTold 0 = k_MO_statementTold_0 := sorry
theorem e_MO_statementTold_1 : blk MO_statementTold 1 = k_MO_statementTold_1 := sorry
theorem e_MO_statementTold_2 : blk MO_statementTold 2 = k_MO_statementTold_2 := sorry
theorem e_MO_statementTold_3 : blk MO_statementTold 3 = k_MO_statementTold_3 := sorry
theorem e_MO_statementTold_4 : blk MO_statementTold 4 = k_MO_statementTold_4 := sorry
theorem e_MO_statementTold_5 : blk MO_statementTold 5 = k_MO_statementTold_5 := sorry
theorem e_MO_statementTold_6 : blk MO_statementTold 6 = k_MO_statementTold_6 := sorry
theorem e_MO_statementTold_7 : blk MO_statementTold 7 = k_MO_statementTold_7 := sorry
theorem e_MO_statementTold_8 : blk MO_statementTold 8 = k_MO_statementTold_8 := sorry
theorem e_MO_statementTold_9 : blk MO_statementTold 9 = k_MO_statementTold_9 := sorry
theorem e_MO_text_0 : blk MO_text 0 = k_MO_text_0 := sorry
theorem e_MO_text_1 : blk MO_text 1 = k_MO_text_1 := sorry
theorem e_MO_text_2 : blk MO_text 2 = k_MO_text_2 := sorry
theorem e_MO_text_3 : blk MO_text 3 = k_MO_text_3 := sorry
theorem e_MO_text_4 : blk MO_text 4 = k_MO_text_4 := sorry
theorem e_MO_text_5 : blk MO_text 5 = k_MO_text_5 := sorry
theorem e_MO_text_6 : blk MO_text 6 = k_MO_text_6 := sorry
theorem e_MO_stands_0 : blk MO_stands 0 = k_MO_stands_0 := sorry
theorem e_MO_stands_1 : blk MO_stands 1 = k_MO_stands_1 := sorry
theorem e_MO_stands_2 : blk MO_stands 2 = k_MO_stands_2 := sorry
theorem e_MO_stands_3 : blk MO_stands 3 = k_MO_stands_3 := sorry
theorem e_MO_stands_4 : blk MO_stands 4 = k_MO_stands_4 := sorry
theorem e_MO_stands_5 : blk MO_stands 5 = k_MO_stands_5 := sorry
theorem e_MO_stands_6 : blk MO_stands 6 = k_MO_stands_6 := sorry
theorem e_MO_stands_7 : blk MO_stands 7 = k_MO_stands_7 := sorry
theorem e_MO_stands_8 : blk MO_stands 8 = k_MO_stands_8 := sorry
theorem e_MO_stands_9 : blk MO_stands 9 = k_MO_stands_9 := sorry
theorem e_MO_stands_10 : blk MO_stands 10 = k_MO_stands_10 := sorry
theorem e_MO_stands_11 : blk MO_stands 11 = k_MO_stands_11 := sorry
theorem e_MO_stands_12 : blk MO_stands 12 = k_MO_stands_12 := sorry
theorem e_MO_stands_13 : blk MO_stands 13 = k_MO_stands_13 := sorry
theorem e_MO_stands_14 : blk MO_stands 14 = k_MO_stands_14 := sorry
theorem e_MO_stands_15 : blk MO_stands 15 = k_MO_stands_15 := sorry
theorem e_MO_stands_16 : blk MO_stands 16 = k_MO_stands_16 := sorry
theorem e_MO_stands_17 : blk MO_stands 17 = k_MO_stands_17 := sorry
theorem e_MO_stands_18 : blk MO_stands 18 = k_MO_stands_18 := sorry
theorem e_MO_stands_19 : blk MO_stands 19 = k_MO_stands_19 := sorry
theorem e_MO_fault_0 : blk MO_fault 0 = k_MO_fault_0 := sorry
theorem e_MO_fault_1 : blk MO_fault 1 = k_MO_fault_1 := sorry
theorem e_MO_fault_2 : blk MO_fault 2 = k_MO_fault_2 := sorry
theorem e_MO_fault_3 : blk MO_fault 3 = k_MO_fault_3 := sorry
theorem e_MO_seats_0 : blk MO_seats 0 = k_MO_seats_0 := sorry
theorem e_MO_rowers_0 : blk MO_rowers 0 = k_MO_rowers_0 := sorry
theorem e_MO_runs_0 : blk MO_runs 0 = k_MO_runs_0 := sorry
theorem e_MO_each_0 : blk MO_each 0 = k_MO_each_0 := sorry
theorem e_MO_each_1 : blk MO_each 1 = k_MO_each_1 := sorry
theorem e_MO_each_2 : blk MO_each 2 = k_MO_each_2 := sorry
theorem e_MO_near_0 : blk MO_near 0 = k_MO_near_0 := sorry
theorem e_MO_isSeat_0 : blk MO_isSeat 0 = k_MO_isSeat_0 := sorry
theorem e_MO_isRower_0 : blk MO_isRower 0 = k_MO_isRower_0 := sorry
theorem e_MO_isFixed_0 : blk MO_isFixed 0 = k_MO_isFixed_0 := sorry
theorem e_MO_isFixed_1 : blk MO_isFixed 1 = k_MO_isFixed_1 := sorry
theorem e_MO_isFixed_2 : blk MO_isFixed 2 = k_MO_isFixed_2 := sorry
theorem e_MO_strengthAt_0 : blk MO_strengthAt 0 = k_MO_strengthAt_0 := sorry
theorem e_MO_strengthAt_1 : blk MO_strengthAt 1 = k_MO_strengthAt_1 := sorry
theorem e_MO_strengthAt_2 : blk MO_strengthAt 2 = k_MO_strengthAt_2 := sorry
theorem e_MO_pullOf_0 : blk MO_pullOf 0 = k_MO_pullOf_0 := sorry
theorem e_MO_pullOf_1 : blk MO_pullOf 1 = k_MO_pullOf_1 := sorry
theorem e_MO_pullOf_2 : blk MO_pullOf 2 = k_MO_pullOf_2 := sorry
theorem e_MO_raised_0 : blk MO_raised 0 = k_MO_raised_0 := sorry
theorem e_MO_raised_1 : blk MO_raised 1 = k_MO_raised_1 := sorry
theorem e_MO_raised_2 : blk MO_raised 2 = k_MO_raised_2 := sorry
theorem e_MO_swingBy_0 : blk MO_swingBy 0 = k_MO_swingBy_0 := sorry
theorem e_MO_swingBy_1 : blk MO_swingBy 1 = k_MO_swingBy_1 := sorry
theorem e_MO_swingBy_2 : blk MO_swingBy 2 = k_MO_swingBy_2 := sorry
theorem e_MO_swingBy_3 : blk MO_swingBy 3 = k_MO_swingBy_3 := sorry
theorem e_MO_swingBy_4 : blk MO_swingBy 4 = k_MO_swingBy_4 := sorry
theorem e_MO_size_0 : blk MO_size 0 = k_MO_size_0 := sorry
theorem e_MO_size_1 : blk MO_size 1 = k_MO_size_1 := sorry
theorem e_MO_size_2 : blk MO_size 2 = k_MO_size_2 := sorry
theorem e_MO_isWantedOf_0 : blk MO_isWantedOf 0 = k_MO_isWantedOf_0 := sorry
theorem e_MO_isWantedOf_1 : blk MO_isWantedOf 1 = k_MO_isWantedOf_1 := sorry
theorem e_MO_isWantedOf_2 : blk MO_isWantedOf 2 = k_MO_isWantedOf_2 := sorry
theorem e_MO_offBy_0 : blk MO_offBy 0 = k_MO_offBy_0 := sorry
theorem e_MO_offBy_1 : blk MO_offBy 1 = k_MO_offBy_1 := sorry
theorem e_MO_offBy_2 : blk MO_offBy 2 = k_MO_offBy_2 := sorry
theorem e_MO_offBy_3 : blk MO_offBy 3 = k_MO_offBy_3 := sorry
theorem e_MO_isGood_0 : blk MO_isGood 0 = k_MO_isGood_0 := sorry
theorem e_MO_isGood_1 : blk MO_isGood 1 = k_MO_isGood_1 := sorry
theorem e_MO_isGood_2 : blk MO_isGood 2 = k_MO_isGood_2 := sorry
theorem e_MO_isGood_3 : blk MO_isGood 3 = k_MO_isGood_3 := sorry
theorem e_MO_bits_0 : blk MO_bits 0 = k_MO_bits_0 := sorry
theorem e_MO_bits_1 : blk MO_bits 1 = k_MO_bits_1 := sorry
theorem e_MO_bits_2 : blk MO_bits 2 = k_MO_bits_2 := sorry
theorem e_MO_isLawful_0 : blk MO_isLawful 0 = k_MO_isLawful_0 := sorry
theorem e_MO_isLawful_1 : blk MO_isLawful 1 = k_MO_isLawful_1 := sorry
theorem e_MO_isLawful_2 : blk MO_isLawful 2 = k_MO_isLawful_2 := sorry
theorem e_MO_isLawful_3 : blk MO_isLawful 3 = k_MO_isLawful_3 := sorry
theorem e_MO_isLawful_4 : blk MO_isLawful 4 = k_MO_isLawful_4 := sorry
theorem e_MO_fixedMany_0 : blk MO_fixedMany 0 = k_MO_fixedMany_0 := sorry
theorem e_MO_fixedMany_1 : blk MO_fixedMany 1 = k_MO_fixedMany_1 := sorry
theorem e_MO_fixedMany_2 : blk MO_fixedMany 2 = k_MO_fixedMany_2 := sorry
theorem e_MO_fixedMany_3 : blk MO_fixedMany 3 = k_MO_fixedMany_3 := sorry
theorem e_MO_wants_0 : blk MO_wants 0 = k_MO_wants_0 := sorry
theorem e_MO_wants_1 : blk MO_wants 1 = k_MO_wants_1 := sorry
theorem e_MO_wants_2 : blk MO_wants 2 = k_MO_wants_2 := sorry
theorem e_MO_wants_3 : blk MO_wants 3 = k_MO_wants_3 := sorry
theorem e_MO_boat_0 : blk MO_boat 0 = k_MO_boat_0 := sorry
theorem e_MO_boat_1 : blk MO_boat 1 = k_MO_boat_1 := sorry
theorem e_MO_boat_2 : blk MO_boat 2 = k_MO_boat_2 := sorry
theorem e_MO_boat_3 : blk MO_boat 3 = k_MO_boat_3 := sorry
theorem e_MO_boat_4 : blk MO_boat 4 = k_MO_boat_4 := sorry
theorem e_MO_boat_5 : blk MO_boat 5 = k_MO_boat_5 := sorry
theorem e_MO_boat_6 : blk MO_boat 6 = k_MO_boat_6 := sorry
theorem e_MO_boat_7 : blk MO_boat 7 = k_MO_boat_7 := sorry
theorem e_MO_boat_8 : blk MO_boat 8 = k_MO_boat_8 := sorry
theorem e_MO_boat_9 : blk MO_boat 9 = k_MO_boat_9 := sorry
theorem e_MO_boat_10 : blk MO_boat 10 = k_MO_boat_10 := sorry
theorem e_MO_boat_11 : blk MO_boat 11 = k_MO_boat_11 := sorry
theorem e_MO_boat_12 : blk MO_boat 12 = k_MO_boat_12 := sorry
theorem e_MO_letter_0 : blk MO_letter 0 = k_MO_letter_0 := sorry
theorem e_MO_letter_1 : blk MO_letter 1 = k_MO_letter_1 := sorry
theorem e_MO_letter_2 : blk MO_letter 2 = k_MO_letter_2 := sorry
theorem e_MO_letter_3 : blk MO_letter 3 = k_MO_letter_3 := sorry
theorem e_MO_letter_4 : blk MO_letter 4 = k_MO_letter_4 := sorry
theorem e_MO_letter_5 : blk MO_letter 5 = k_MO_letter_5 := sorry
theorem e_MO_letter_6 : blk MO_letter 6 = k_MO_letter_6 := sorry
theorem e_MO_letter_7 : blk MO_letter 7 = k_MO_letter_7 := sorry
theorem e_MO_seat_0 : blk MO_seat 0 = k_MO_seat_0 := sorry
theorem e_MO_seat_1 : blk MO_seat 1 = k_MO_seat_1 := sorry
theorem e_MO_seat_2 : blk MO_seat 2 = k_MO_seat_2 := sorry
theorem e_MO_seat_3 : blk MO_seat 3 = k_MO_seat_3 := sorry
theorem e_MO_seat_4 : blk MO_seat 4 = k_MO_seat_4 := sorry
theorem e_MO_seat_5 : blk MO_seat 5 = k_MO_seat_5 := sorry
theorem e_MO_seat_6 : blk MO_seat 6 = k_MO_seat_6 := sorry
theorem e_MO_seat_7 : blk MO_seat 7 = k_MO_seat_7 := sorry
theorem e_MO_seat_8 : blk MO_seat 8 = k_MO_seat_8 := sorry
theorem e_MO_seat_9 : blk MO_seat 9 = k_MO_seat_9 := sorry
theorem e_MO_seat_10 : blk MO_seat 10 = k_MO_seat_10 := sorry
theorem e_MO_seatOf_0 : blk MO_seatOf 0 = k_MO_seatOf_0 := sorry
theorem e_MO_seatOf_1 : blk MO_seatOf 1 = k_MO_seatOf_1 := sorry
theorem e_MO_seatOf_2 : blk MO_seatOf 2 = k_MO_seatOf_2 := sorry
theorem e_MO_seatOf_3 : blk MO_seatOf 3 = k_MO_seatOf_3 := sorry
theorem e_MO_rower_0 : blk MO_rower 0 = k_MO_rower_0 := sorry
theorem e_MO_rower_1 : blk MO_rower 1 = k_MO_rower_1 := sorry
theorem e_MO_rower_2 : blk MO_rower 2 = k_MO_rower_2 := sorry
theorem e_MO_rower_3 : blk MO_rower 3 = k_MO_rower_3 := sorry
theorem e_MO_rower_4 : blk MO_rower 4 = k_MO_rower_4 := sorry
theorem e_MO_rower_5 : blk MO_rower 5 = k_MO_rower_5 := sorry
theorem e_MO_rower_6 : blk MO_rower 6 = k_MO_rower_6 := sorry
theorem e_MO_isPower_0 : blk MO_isPower 0 = k_MO_isPower_0 := sorry
theorem e_MO_want_0 : blk MO_want 0 = k_MO_want_0 := sorry
theorem e_MO_want_1 : blk MO_want 1 = k_MO_want_1 := sorry
theorem e_MO_want_2 : blk MO_want 2 = k_MO_want_2 := sorry
theorem e_MO_swing_0 : blk MO_swing 0 = k_MO_swing_0 := sorry
theorem e_MO_swing_1 : blk MO_swing 1 = k_MO_swing_1 := sorry
theorem e_MO_swing_2 : blk MO_swing 2 = k_MO_swing_2 := sorry
theorem e_MO_off_0 : blk MO_off 0 = k_MO_off_0 := sorry
theorem e_MO_good_0 : blk MO_good 0 = k_MO_good_0 := sorry
theorem e_MO_good_1 : blk MO_good 1 = k_MO_good_1 := sorry
theorem e_MO_good_2 : blk MO_good 2 = k_MO_good_2 := sorry
theorem e_MO_lawful_0 : blk MO_lawful 0 = k_MO_lawful_0 := sorry
theorem e_MO_lawful_1 : blk MO_lawful 1 = k_MO_lawful_1 := sorry
theorem e_MO_lawful_2 : blk MO_lawful 2 = k_MO_lawful_2 := sorry
theorem e_MO_heading_0 : blk MO_heading 0 = k_MO_heading_0 := sorry
theorem e_MO_keeps_0 : blk MO_keeps 0 = k_MO_keeps_0 := sorry
theorem e_MO_keeps_1 : blk MO_keeps 1 = k_MO_keeps_1 := sorry
theorem e_MO_keeps_2 : blk MO_keeps 2 = k_MO_keeps_2 := sorry
theorem e_MO_keeps_3 : blk MO_keeps 3 = k_MO_keeps_3 := sorry
theorem e_MO_undo_0 : blk MO_undo 0 = k_MO_undo_0 := sorry
theorem e_MO_undo_1 : blk MO_undo 1 = k_MO_undo_1 := sorry
theorem e_MO_undo_2 : blk MO_undo 2 = k_MO_undo_2 := sorry
theorem e_MO_undo_3 : blk MO_undo 3 = k_MO_undo_3 := sorry
theorem e_MO_turn_0 : blk MO_turn 0 = k_MO_turn_0 := sorry
theorem e_MO_turn_1 : blk MO_turn 1 = k_MO_turn_1 := sorry
theorem e_MO_turn_2 : blk MO_turn 2 = k_MO_turn_2 := sorry
theorem e_MO_changesSeats_0 : blk MO_changesSeats 0 = k_MO_changesSeats_0 := sorry
theorem e_MO_canSwap_0 : blk MO_canSwap 0 = k_MO_canSwap_0 := sorry
theorem e_MO_canSwap_1 : blk MO_canSwap 1 = k_MO_canSwap_1 := sorry
theorem e_MO_canSwap_2 : blk MO_canSwap 2 = k_MO_canSwap_2 := sorry
theorem e_MO_canSwap_3 : blk MO_canSwap 3 = k_MO_canSwap_3 := sorry
theorem e_MO_swap_0 : blk MO_swap 0 = k_MO_swap_0 := sorry
theorem e_MO_swap_1 : blk MO_swap 1 = k_MO_swap_1 := sorry
theorem e_MO_canGo_0 : blk MO_canGo 0 = k_MO_canGo_0 := sorry
theorem e_MO_canGo_1 : blk MO_canGo 1 = k_MO_canGo_1 := sorry
theorem e_MO_canGo_2 : blk MO_canGo 2 = k_MO_canGo_2 := sorry
theorem e_MO_stroke_0 : blk MO_stroke 0 = k_MO_stroke_0 := sorry
theorem e_MO_stroke_1 : blk MO_stroke 1 = k_MO_stroke_1 := sorry
theorem e_MO_seed_0 : blk MO_seed 0 = k_MO_seed_0 := sorry
theorem e_MO_seed_1 : blk MO_seed 1 = k_MO_seed_1 := sorry
theorem e_MO_drawOf_0 : blk MO_drawOf 0 = k_MO_drawOf_0 := sorry
theorem e_MO_rows_0 : blk MO_rows 0 = k_MO_rows_0 := sorry
theorem e_MO_rows_1 : blk MO_rows 1 = k_MO_rows_1 := sorry
theorem e_MO_rows_2 : blk MO_rows 2 = k_MO_rows_2 := sorry
theorem e_MO_rows_3 : blk MO_rows 3 = k_MO_rows_3 := sorry
theorem e_MO_rows_4 : blk MO_rows 4 = k_MO_rows_4 := sorry
theorem e_MO_rows_5 : blk MO_rows 5 = k_MO_rows_5 := sorry
theorem e_MO_rows_6 : blk MO_rows 6 = k_MO_rows_6 := sorry
theorem e_MO_rows_7 : blk MO_rows 7 = k_MO_rows_7 := sorry
theorem e_MO_rows_8 : blk MO_rows 8 = k_MO_rows_8 := sorry
theorem e_MO_row_0 : blk MO_row 0 = k_MO_row_0 := sorry
theorem e_MO_row_1 : blk MO_row 1 = k_MO_row_1 := sorry
theorem e_MO_row_2 : blk MO_row 2 = k_MO_row_2 := sorry
theorem e_MO_row_3 : blk MO_row 3 = k_MO_row_3 := sorry
theorem e_MO_ways_0 : blk MO_ways 0 = k_MO_ways_0 := sorry
theorem e_MO_ways_1 : blk MO_ways 1 = k_MO_ways_1 := sorry
theorem e_MO_ways_2 : blk MO_ways 2 = k_MO_ways_2 := sorry
theorem e_MO_ways_3 : blk MO_ways 3 = k_MO_ways_3 := sorry
theorem e_MO_ways_4 : blk MO_ways 4 = k_MO_ways_4 := sorry
theorem e_MO_ways_5 : blk MO_ways 5 = k_MO_ways_5 := sorry
theorem e_MO_ways_6 : blk MO_ways 6 = k_MO_ways_6 := sorry
theorem e_MO_ways_7 : blk MO_ways 7 = k_MO_ways_7 := sorry
theorem e_MO_ways_8 : blk MO_ways 8 = k_MO_ways_8 := sorry
theorem e_MO_ways_9 : blk MO_ways 9 = k_MO_ways_9 := sorry
theorem e_MO_ways_10 : blk MO_ways 10 = k_MO_ways_10 := sorry
theorem e_MO_ways_11 : blk MO_ways 11 = k_MO_ways_11 := sorry
theorem e_MO_sumBy_0 : blk MO_sumBy 0 = k_MO_sumBy_0 := sorry
theorem e_MO_sumBy_1 : blk MO_sumBy 1 = k_MO_sumBy_1 := sorry
theorem e_MO_sumBy_2 : blk MO_sumBy 2 = k_MO_sumBy_2 := sorry
theorem e_MO_sumBy_3 : blk MO_sumBy 3 = k_MO_sumBy_3 := sorry
theorem e_MO_sumBy_4 : blk MO_sumBy 4 = k_MO_sumBy_4 := sorry
theorem e_MO_made_0 : blk MO_made 0 = k_MO_made_0 := sorry
theorem e_MO_made_1 : blk MO_made 1 = k_MO_made_1 := sorry
theorem e_MO_made_2 : blk MO_made 2 = k_MO_made_2 := sorry
theorem e_MO_made_3 : blk MO_made 3 = k_MO_made_3 := sorry
theorem e_MO_made_4 : blk MO_made 4 = k_MO_made_4 := sorry
theorem e_MO_made_5 : blk MO_made 5 = k_MO_made_5 := sorry
theorem e_MO_made_6 : blk MO_made 6 = k_MO_made_6 := sorry
theorem e_MO_made_7 : blk MO_made 7 = k_MO_made_7 := sorry
theorem e_MO_doubled_0 : blk MO_doubled 0 = k_MO_doubled_0 := sorry
theorem e_MO_doubled_1 : blk MO_doubled 1 = k_MO_doubled_1 := sorry
theorem e_MO_doubled_2 : blk MO_doubled 2 = k_MO_doubled_2 := sorry
theorem e_MO_doubled_3 : blk MO_doubled 3 = k_MO_doubled_3 := sorry
theorem e_MO_doubled_4 : blk MO_doubled 4 = k_MO_doubled_4 := sorry
theorem e_MO_doubled_5 : blk MO_doubled 5 = k_MO_doubled_5 := sorry
theorem e_MO_doubled_6 : blk MO_doubled 6 = k_MO_doubled_6 := sorry
theorem e_MO_still_0 : blk MO_still 0 = k_MO_still_0 := sorry
theorem e_MO_still_1 : blk MO_still 1 = k_MO_still_1 := sorry
theorem e_MO_still_2 : blk MO_still 2 = k_MO_still_2 := sorry
theorem e_MO_still_3 : blk MO_still 3 = k_MO_still_3 := sorry
theorem e_MO_still_4 : blk MO_still 4 = k_MO_still_4 := sorry
theorem e_MO_isNearest_0 : blk MO_isNearest 0 = k_MO_isNearest_0 := sorry
theorem e_MO_isNearest_1 : blk MO_isNearest 1 = k_MO_isNearest_1 := sorry
theorem e_MO_isNearest_2 : blk MO_isNearest 2 = k_MO_isNearest_2 := sorry
theorem e_MO_isNearest_3 : blk MO_isNearest 3 = k_MO_isNearest_3 := sorry
theorem e_MO_isNearest_4 : blk MO_isNearest 4 = k_MO_isNearest_4 := sorry
theorem e_MO_isNearest_5 : blk MO_isNearest 5 = k_MO_isNearest_5 := sorry
theorem e_MO_isNearest_6 : blk MO_isNearest 6 = k_MO_isNearest_6 := sorry
theorem e_MO_isNearest_7 : blk MO_isNearest 7 = k_MO_isNearest_7 := sorry
theorem e_MO_nearest_0 : blk MO_nearest 0 = k_MO_nearest_0 := sorry
theorem e_MO_nearest_1 : blk MO_nearest 1 = k_MO_nearest_1 := sorry
theorem e_MO_nearest_2 : blk MO_nearest 2 = k_MO_nearest_2 := sorry
theorem e_MO_nearest_3 : blk MO_nearest 3 = k_MO_nearest_3 := sorry
theorem e_MO_nearest_4 : blk MO_nearest 4 = k_MO_nearest_4 := sorry
theorem e_MO_nearest_5 : blk MO_nearest 5 = k_MO_nearest_5 := sorry
theorem e_MO_nearest_6 : blk MO_nearest 6 = k_MO_nearest_6 := sorry
theorem e_MO_nearest_7 : blk MO_nearest 7 = k_MO_nearest_7 := sorry
theorem e_MO_nearest_8 : blk MO_nearest 8 = k_MO_nearest_8 := sorry
theorem e_MO_putsAside_0 : blk MO_putsAside 0 = k_MO_putsAside_0 := sorry
theorem e_MO_putsAside_1 : blk MO_putsAside 1 = k_MO_putsAside_1 := sorry
theorem e_MO_putsAside_2 : blk MO_putsAside 2 = k_MO_putsAside_2 := sorry
theorem e_MO_takesBack_0 : blk MO_takesBack 0 = k_MO_takesBack_0 := sorry
theorem e_MO_takesBack_1 : blk MO_takesBack 1 = k_MO_takesBack_1 := sorry
theorem e_MO_takesBack_2 : blk MO_takesBack 2 = k_MO_takesBack_2 := sorry
theorem e_MO_sitBy_0 : blk MO_sitBy 0 = k_MO_sitBy_0 := sorry
theorem e_MO_sitBy_1 : blk MO_sitBy 1 = k_MO_sitBy_1 := sorry
theorem e_MO_sitBy_2 : blk MO_sitBy 2 = k_MO_sitBy_2 := sorry
theorem e_MO_sitBy_3 : blk MO_sitBy 3 = k_MO_sitBy_3 := sorry
theorem e_MO_sitBy_4 : blk MO_sitBy 4 = k_MO_sitBy_4 := sorry
theorem e_MO_seated_0 : blk MO_seated 0 = k_MO_seated_0 := sorry
theorem e_MO_seated_1 : blk MO_seated 1 = k_MO_seated_1 := sorry
theorem e_MO_seated_2 : blk MO_seated 2 = k_MO_seated_2 := sorry
theorem e_MO_seated_3 : blk MO_seated 3 = k_MO_seated_3 := sorry
theorem e_MO_seated_4 : blk MO_seated 4 = k_MO_seated_4 := sorry
theorem e_MO_seated_5 : blk MO_seated 5 = k_MO_seated_5 := sorry
theorem e_MO_seated_6 : blk MO_seated 6 = k_MO_seated_6 := sorry
theorem e_MO_seated_7 : blk MO_seated 7 = k_MO_seated_7 := sorry
theorem e_MO_seated_8 : blk MO_seated 8 = k_MO_seated_8 := sorry
theorem e_MO_seated_9 : blk MO_seated 9 = k_MO_seated_9 := sorry
theorem e_MO_seated_10 : blk MO_seated 10 = k_MO_seated_10 := sorry
theorem e_MO_seated_11 : blk MO_seated 11 = k_MO_seated_11 := sorry
theorem e_MO_seated_12 : blk MO_seated 12 = k_MO_seated_12 := sorry
theorem e_MO_seated_13 : blk MO_seated 13 = k_MO_seated_13 := sorry
theorem e_MO_actMany_0 : blk MO_actMany 0 = k_MO_actMany_0 := sorry
theorem e_MO_acts_0 : blk MO_acts 0 = k_MO_acts_0 := sorry
theorem e_MO_acts_1 : blk MO_acts 1 = k_MO_acts_1 := sorry
theorem e_MO_acts_2 : blk MO_acts 2 = k_MO_acts_2 := sorry
theorem e_MO_acts_3 : blk MO_acts 3 = k_MO_acts_3 := sorry
theorem e_MO_acts_4 : blk MO_acts 4 = k_MO_acts_4 := sorry
theorem e_MO_isRight_0 : blk MO_isRight 0 = k_MO_isRight_0 := sorry
theorem e_MO_isRight_1 : blk MO_isRight 1 = k_MO_isRight_1 := sorry
theorem e_MO_isRight_2 : blk MO_isRight 2 = k_MO_isRight_2 := sorry
theorem e_MO_isOneOff_0 : blk MO_isOneOff 0 = k_MO_isOneOff_0 := sorry
theorem e_MO_isOneOff_1 : blk MO_isOneOff 1 = k_MO_isOneOff_1 := sorry
theorem e_MO_isOneOff_2 : blk MO_isOneOff 2 = k_MO_isOneOff_2 := sorry
theorem e_MO_isOneOff_3 : blk MO_isOneOff 3 = k_MO_isOneOff_3 := sorry
theorem e_MO_isOneOff_4 : blk MO_isOneOff 4 = k_MO_isOneOff_4 := sorry
theorem e_MO_isTwoOff_0 : blk MO_isTwoOff 0 = k_MO_isTwoOff_0 := sorry
theorem e_MO_isTwoOff_1 : blk MO_isTwoOff 1 = k_MO_isTwoOff_1 := sorry
theorem e_MO_isTwoOff_2 : blk MO_isTwoOff 2 = k_MO_isTwoOff_2 := sorry
theorem e_MO_isTwoOff_3 : blk MO_isTwoOff 3 = k_MO_isTwoOff_3 := sorry
theorem e_MO_isTwoOff_4 : blk MO_isTwoOff 4 = k_MO_isTwoOff_4 := sorry
theorem e_MO_isThreeOff_0 : blk MO_isThreeOff 0 = k_MO_isThreeOff_0 := sorry
theorem e_MO_isThreeOff_1 : blk MO_isThreeOff 1 = k_MO_isThreeOff_1 := sorry
theorem e_MO_isThreeOff_2 : blk MO_isThreeOff 2 = k_MO_isThreeOff_2 := sorry
theorem e_MO_isThreeOff_3 : blk MO_isThreeOff 3 = k_MO_isThreeOff_3 := sorry
theorem e_MO_isThreeOff_4 : blk MO_isThreeOff 4 = k_MO_isThreeOff_4 := sorry
theorem e_MO_changes_0 : blk MO_changes 0 = k_MO_changes_0 := sorry
theorem e_MO_changes_1 : blk MO_changes 1 = k_MO_changes_1 := sorry
theorem e_MO_changes_2 : blk MO_changes 2 = k_MO_changes_2 := sorry
theorem e_MO_changes_3 : blk MO_changes 3 = k_MO_changes_3 := sorry
theorem e_MO_changes_4 : blk MO_changes 4 = k_MO_changes_4 := sorry
theorem e_MO_changes_5 : blk MO_changes 5 = k_MO_changes_5 := sorry
theorem e_MO_greater_0 : blk MO_greater 0 = k_MO_greater_0 := sorry
theorem e_MO_greater_1 : blk MO_greater 1 = k_MO_greater_1 := sorry
theorem e_MO_greater_2 : blk MO_greater 2 = k_MO_greater_2 := sorry
theorem e_MO_greatest_0 : blk MO_greatest 0 = k_MO_greatest_0 := sorry
theorem e_MO_greatest_1 : blk MO_greatest 1 = k_MO_greatest_1 := sorry
theorem e_MO_greatest_2 : blk MO_greatest 2 = k_MO_greatest_2 := sorry
theorem e_MO_race_0 : blk MO_race 0 = k_MO_race_0 := sorry
theorem e_MO_race_1 : blk MO_race 1 = k_MO_race_1 := sorry
theorem e_MO_race_2 : blk MO_race 2 = k_MO_race_2 := sorry
theorem e_MO_stillest_0 : blk MO_stillest 0 = k_MO_stillest_0 := sorry
theorem e_MO_stillest_1 : blk MO_stillest 1 = k_MO_stillest_1 := sorry
theorem e_MO_stillest_2 : blk MO_stillest 2 = k_MO_stillest_2 := sorry
theorem e_MO_stillest_3 : blk MO_stillest 3 = k_MO_stillest_3 := sorry
theorem e_MO_stillest_4 : blk MO_stillest 4 = k_MO_stillest_4 := sorry
theorem e_MO_stillest_5 : blk MO_stillest 5 = k_MO_stillest_5 := sorry
theorem e_MO_stillest_6 : blk MO_stillest 6 = k_MO_stillest_6 := sorry
theorem e_MO_stillest_7 : blk MO_stillest 7 = k_MO_stillest_7 := sorry
theorem e_MO_stillest_8 : blk MO_stillest 8 = k_MO_stillest_8 := sorry
theorem e_MO_stillest_9 : blk MO_stillest 9 = k_MO_stillest_9 := sorry
theorem e_MO_stillest_10 : blk MO_stillest 10 = k_MO_stillest_10 := sorry
theorem e_MO_underBy_0 : blk MO_underBy 0 = k_MO_underBy_0 := sorry
theorem e_MO_underBy_1 : blk MO_underBy 1 = k_MO_underBy_1 := sorry
theorem e_MO_underBy_2 : blk MO_underBy 2 = k_MO_underBy_2 := sorry
theorem e_MO_underBy_3 : blk MO_underBy 3 = k_MO_underBy_3 := sorry
theorem e_MO_underBy_4 : blk MO_underBy 4 = k_MO_underBy_4 := sorry
theorem e_MO_underBy_5 : blk MO_underBy 5 = k_MO_underBy_5 := sorry
theorem e_MO_underBy_6 : blk MO_underBy 6 = k_MO_underBy_6 := sorry
theorem e_MO_underBy_7 : blk MO_underBy 7 = k_MO_underBy_7 := sorry
theorem e_MO_under_0 : blk MO_under 0 = k_MO_under_0 := sorry
theorem e_MO_under_1 : blk MO_under 1 = k_MO_under_1 := sorry
theorem e_MO_under_2 : blk MO_under 2 = k_MO_under_2 := sorry
theorem e_MO_under_3 : blk MO_under 3 = k_MO_under_3 := sorry
theorem e_MO_under_4 : blk MO_under 4 = k_MO_under_4 := sorry
theorem e_MO_under_5 : blk MO_under 5 = k_MO_under_5 := sorry
theorem e_MO_under_6 : blk MO_under 6 = k_MO_under_6 := sorry
theorem e_MO_under_7 : blk MO_under 7 = k_MO_under_7 := sorry
theorem e_MO_under_8 : blk MO_under 8 = k_MO_under_8 := sorry
theorem e_MO_under_9 : blk MO_under 9 = k_MO_under_9 := sorry
theorem e_MO_under_10 : blk MO_under 10 = k_MO_under_10 := sorry
theorem e_MO_triesTold_0 : blk MO_triesTold 0 = k_MO_triesTold_0 := sorry
theorem e_MO_triesTold_1 : blk MO_triesTold 1 = k_MO_triesTold_1 := sorry
theorem e_MO_triesTold_2 : blk MO_triesTold 2 = k_MO_triesTold_2 := sorry
theorem e_MO_triesTold_3 : blk MO_triesTold 3 = k_MO_triesTold_3 := sorry
theorem e_MO_triesTold_4 : blk MO_triesTold 4 = k_MO_triesTold_4 := sorry
theorem e_MO_isFit_0 : blk MO_isFit 0 = k_MO_isFit_0 := sorry
theorem e_MO_isFit_1 : blk MO_isFit 1 = k_MO_isFit_1 := sorry
theorem e_MO_isFit_2 : blk MO_isFit 2 = k_MO_isFit_2 := sorry
theorem e_MO_isFit_3 : blk MO_isFit 3 = k_MO_isFit_3 := sorry
theorem e_MO_isFit_4 : blk MO_isFit 4 = k_MO_isFit_4 := sorry
theorem e_MO_isFit_5 : blk MO_isFit 5 = k_MO_isFit_5 := sorry
theorem e_MO_isFit_6 : blk MO_isFit 6 = k_MO_isFit_6 := sorry
theorem e_MO_isFit_7 : blk MO_isFit 7 = k_MO_isFit_7 := sorry
theorem e_MO_firstUnfit_0 : blk MO_firstUnfit 0 = k_MO_firstUnfit_0 := sorry
theorem e_MO_firstUnfit_1 : blk MO_firstUnfit 1 = k_MO_firstUnfit_1 := sorry
theorem e_MO_firstUnfit_2 : blk MO_firstUnfit 2 = k_MO_firstUnfit_2 := sorry
theorem e_MO_firstUnfit_3 : blk MO_firstUnfit 3 = k_MO_firstUnfit_3 := sorry
theorem e_MO_fits_0 : blk MO_fits 0 = k_MO_fits_0 := sorry
theorem e_MO_fittingRows_0 : blk MO_fittingRows 0 = k_MO_fittingRows_0 := sorry
theorem e_MO_fittingRows_1 : blk MO_fittingRows 1 = k_MO_fittingRows_1 := sorry
theorem e_MO_fittingRows_2 : blk MO_fittingRows 2 = k_MO_fittingRows_2 := sorry
theorem e_MO_fittingRows_3 : blk MO_fittingRows 3 = k_MO_fittingRows_3 := sorry
theorem e_MO_fittingRows_4 : blk MO_fittingRows 4 = k_MO_fittingRows_4 := sorry
theorem e_MO_fittingRows_5 : blk MO_fittingRows 5 = k_MO_fittingRows_5 := sorry
theorem e_MO_fittingRows_6 : blk MO_fittingRows 6 = k_MO_fittingRows_6 := sorry
theorem e_MO_fittingRows_7 : blk MO_fittingRows 7 = k_MO_fittingRows_7 := sorry
theorem e_MO_fittingRows_8 : blk MO_fittingRows 8 = k_MO_fittingRows_8 := sorry
theorem e_MO_fittingRows_9 : blk MO_fittingRows 9 = k_MO_fittingRows_9 := sorry
theorem e_MO_fittingRows_10 : blk MO_fittingRows 10 = k_MO_fittingRows_10 := sorry
theorem e_MO_fittingRows_11 : blk MO_fittingRows 11 = k_MO_fittingRows_11 := sorry
theorem e_MO_fittingRows_12 : blk MO_fittingRows 12 = k_MO_fittingRows_12 := sorry
theorem e_MO_fittingRows_13 : blk MO_fittingRows 13 = k_MO_fittingRows_13 := sorry
theorem e_MO_fittingRows_14 : blk MO_fittingRows 14 = k_MO_fittingRows_14 := sorry
theorem e_MO_strengths_0 : blk MO_strengths 0 = k_MO_strengths_0 := sorry
theorem e_MO_strengths_1 : blk MO_strengths 1 = k_MO_strengths_1 := sorry
theorem e_MO_strengths_2 : blk MO_strengths 2 = k_MO_strengths_2 := sorry
theorem e_MO_strengths_3 : blk MO_strengths 3 = k_MO_strengths_3 := sorry
theorem e_MO_strengths_4 : blk MO_strengths 4 = k_MO_strengths_4 := sorry
theorem e_MO_strengths_5 : blk MO_strengths 5 = k_MO_strengths_5 := sorry
theorem e_MO_strengths_6 : blk MO_strengths 6 = k_MO_strengths_6 := sorry
theorem e_MO_crooked_0 : blk MO_crooked 0 = k_MO_crooked_0 := sorry
theorem e_MO_crooked_1 : blk MO_crooked 1 = k_MO_crooked_1 := sorry
theorem e_MO_crooked_2 : blk MO_crooked 2 = k_MO_crooked_2 := sorry
theorem e_MO_crooked_3 : blk MO_crooked 3 = k_MO_crooked_3 := sorry
theorem e_MO_crooked_4 : blk MO_crooked 4 = k_MO_crooked_4 := sorry
theorem e_MO_crooked_5 : blk MO_crooked 5 = k_MO_crooked_5 := sorry
theorem e_MO_crooked_6 : blk MO_crooked 6 = k_MO_crooked_6 := sorry
theorem e_MO_payments_0 : blk MO_payments 0 = k_MO_payments_0 := sorry
theorem e_MO_apartBy_0 : blk MO_apartBy 0 = k_MO_apartBy_0 := sorry
theorem e_MO_apartBy_1 : blk MO_apartBy 1 = k_MO_apartBy_1 := sorry
theorem e_MO_apartBy_2 : blk MO_apartBy 2 = k_MO_apartBy_2 := sorry
theorem e_MO_apartBy_3 : blk MO_apartBy 3 = k_MO_apartBy_3 := sorry
theorem e_MO_apartBy_4 : blk MO_apartBy 4 = k_MO_apartBy_4 := sorry
theorem e_MO_apartBy_5 : blk MO_apartBy 5 = k_MO_apartBy_5 := sorry
theorem e_MO_apartBy_6 : blk MO_apartBy 6 = k_MO_apartBy_6 := sorry
theorem e_MO_heirs_0 : blk MO_heirs 0 = k_MO_heirs_0 := sorry
theorem e_MO_heirs_1 : blk MO_heirs 1 = k_MO_heirs_1 := sorry
theorem e_MO_heirs_2 : blk MO_heirs 2 = k_MO_heirs_2 := sorry
theorem e_MO_heirs_3 : blk MO_heirs 3 = k_MO_heirs_3 := sorry
theorem e_MO_heirs_4 : blk MO_heirs 4 = k_MO_heirs_4 := sorry
theorem e_MO_heirs_5 : blk MO_heirs 5 = k_MO_heirs_5 := sorry
theorem e_MO_heirs_6 : blk MO_heirs 6 = k_MO_heirs_6 := sorry
theorem e_MO_heirs_7 : blk MO_heirs 7 = k_MO_heirs_7 := sorry
theorem e_MO_heirs_8 : blk MO_heirs 8 = k_MO_heirs_8 := sorry
theorem e_MO_heirs_9 : blk MO_heirs 9 = k_MO_heirs_9 := sorry
theorem e_MO_apart_0 : blk MO_apart 0 = k_MO_apart_0 := sorry
theorem e_MO_apart_1 : blk MO_apart 1 = k_MO_apart_1 := sorry
theorem e_MO_apart_2 : blk MO_apart 2 = k_MO_apart_2 := sorry
theorem e_MO_qCode_0 : blk MO_qCode 0 = k_MO_qCode_0 := sorry
theorem e_MO_qOpens_0 : blk MO_qOpens 0 = k_MO_qOpens_0 := sorry
theorem e_MO_qOpens_1 : blk MO_qOpens 1 = k_MO_qOpens_1 := sorry
theorem e_MO_qOpens_2 : blk MO_qOpens 2 = k_MO_qOpens_2 := sorry
theorem e_MO_qIsOn_0 : blk MO_qIsOn 0 = k_MO_qIsOn_0 := sorry
theorem e_MO_qIsOn_1 : blk MO_qIsOn 1 = k_MO_qIsOn_1 := sorry
theorem e_MO_qIsOn_2 : blk MO_qIsOn 2 = k_MO_qIsOn_2 := sorry
theorem e_MO_qDrops_0 : blk MO_qDrops 0 = k_MO_qDrops_0 := sorry
theorem e_MO_qIsBracket_0 : blk MO_qIsBracket 0 = k_MO_qIsBracket_0 := sorry
theorem e_MO_qIsBracket_1 : blk MO_qIsBracket 1 = k_MO_qIsBracket_1 := sorry
theorem e_MO_qIsBracket_2 : blk MO_qIsBracket 2 = k_MO_qIsBracket_2 := sorry
theorem e_MO_qBracket_0 : blk MO_qBracket 0 = k_MO_qBracket_0 := sorry
theorem e_MO_qBracket_1 : blk MO_qBracket 1 = k_MO_qBracket_1 := sorry
theorem e_MO_qBracket_2 : blk MO_qBracket 2 = k_MO_qBracket_2 := sorry
theorem e_MO_qBracket_3 : blk MO_qBracket 3 = k_MO_qBracket_3 := sorry
theorem e_MO_qBracket_4 : blk MO_qBracket 4 = k_MO_qBracket_4 := sorry
theorem e_MO_qDropsToBracket_0 : blk MO_qDropsToBracket 0 = k_MO_qDropsToBracket_0 := sorry
theorem e_MO_qDropsToBracket_1 : blk MO_qDropsToBracket 1 = k_MO_qDropsToBracket_1 := sorry
theorem e_MO_qWordHere_0 : blk MO_qWordHere 0 = k_MO_qWordHere_0 := sorry
theorem e_MO_qWordHere_1 : blk MO_qWordHere 1 = k_MO_qWordHere_1 := sorry
theorem e_MO_qWordHere_2 : blk MO_qWordHere 2 = k_MO_qWordHere_2 := sorry
theorem e_MO_qWordHere_3 : blk MO_qWordHere 3 = k_MO_qWordHere_3 := sorry
theorem e_MO_qWordHere_4 : blk MO_qWordHere 4 = k_MO_qWordHere_4 := sorry
theorem e_MO_qWordHere_5 : blk MO_qWordHere 5 = k_MO_qWordHere_5 := sorry
theorem e_MO_qWordOf_0 : blk MO_qWordOf 0 = k_MO_qWordOf_0 := sorry
theorem e_MO_qWordOf_1 : blk MO_qWordOf 1 = k_MO_qWordOf_1 := sorry
theorem e_MO_qWordOf_2 : blk MO_qWordOf 2 = k_MO_qWordOf_2 := sorry
theorem e_MO_qAsksWord_0 : blk MO_qAsksWord 0 = k_MO_qAsksWord_0 := sorry
theorem e_MO_qAsksWord_1 : blk MO_qAsksWord 1 = k_MO_qAsksWord_1 := sorry
theorem e_MO_qAsksWord_2 : blk MO_qAsksWord 2 = k_MO_qAsksWord_2 := sorry
theorem e_MO_qAsksWord_3 : blk MO_qAsksWord 3 = k_MO_qAsksWord_3 := sorry
theorem e_MO_qAsksWord_4 : blk MO_qAsksWord 4 = k_MO_qAsksWord_4 := sorry
theorem e_MO_qAsksWord_5 : blk MO_qAsksWord 5 = k_MO_qAsksWord_5 := sorry
theorem e_MO_qAsksWord_6 : blk MO_qAsksWord 6 = k_MO_qAsksWord_6 := sorry
theorem e_MO_qEndsPart_0 : blk MO_qEndsPart 0 = k_MO_qEndsPart_0 := sorry
theorem e_MO_qEndsPart_1 : blk MO_qEndsPart 1 = k_MO_qEndsPart_1 := sorry
theorem e_MO_qPartTold_0 : blk MO_qPartTold 0 = k_MO_qPartTold_0 := sorry
theorem e_MO_qPartTold_1 : blk MO_qPartTold 1 = k_MO_qPartTold_1 := sorry
theorem e_MO_qPartTold_2 : blk MO_qPartTold 2 = k_MO_qPartTold_2 := sorry
theorem e_MO_qPartTold_3 : blk MO_qPartTold 3 = k_MO_qPartTold_3 := sorry
theorem e_MO_qPartTold_4 : blk MO_qPartTold 4 = k_MO_qPartTold_4 := sorry
theorem e_MO_qPartTold_5 : blk MO_qPartTold 5 = k_MO_qPartTold_5 := sorry
theorem e_MO_qPartTold_6 : blk MO_qPartTold 6 = k_MO_qPartTold_6 := sorry
theorem e_MO_qPartTold_7 : blk MO_qPartTold 7 = k_MO_qPartTold_7 := sorry
theorem e_MO_qPartTold_8 : blk MO_qPartTold 8 = k_MO_qPartTold_8 := sorry
theorem e_MO_qPartTold_9 : blk MO_qPartTold 9 = k_MO_qPartTold_9 := sorry
theorem e_MO_qPartTold_10 : blk MO_qPartTold 10 = k_MO_qPartTold_10 := sorry
theorem e_MO_qPartTold_11 : blk MO_qPartTold 11 = k_MO_qPartTold_11 := sorry
theorem e_MO_qPartTold_12 : blk MO_qPartTold 12 = k_MO_qPartTold_12 := sorry
theorem e_MO_qPartTold_13 : blk MO_qPartTold 13 = k_MO_qPartTold_13 := sorry
theorem e_MO_qPartTold_14 : blk MO_qPartTold 14 = k_MO_qPartTold_14 := sorry
theorem e_MO_qPartTold_15 : blk MO_qPartTold 15 = k_MO_qPartTold_15 := sorry
theorem e_MO_qPartTold_16 : blk MO_qPartTold 16 = k_MO_qPartTold_16 := sorry
theorem e_MO_qPartTold_17 : blk MO_qPartTold 17 = k_MO_qPartTold_17 := sorry
theorem e_MO_qGoesOn_0 : blk MO_qGoesOn 0 = k_MO_qGoesOn_0 := sorry
theorem e_MO_qGoesOn_1 : blk MO_qGoesOn 1 = k_MO_qGoesOn_1 := sorry
theorem e_MO_qGoesOn_2 : blk MO_qGoesOn 2 = k_MO_qGoesOn_2 := sorry
theorem e_MO_qGoesOn_3 : blk MO_qGoesOn 3 = k_MO_qGoesOn_3 := sorry
theorem e_MO_qGoesOn_4 : blk MO_qGoesOn 4 = k_MO_qGoesOn_4 := sorry
theorem e_MO_qGoesOn_5 : blk MO_qGoesOn 5 = k_MO_qGoesOn_5 := sorry
theorem e_MO_qGoesOn_6 : blk MO_qGoesOn 6 = k_MO_qGoesOn_6 := sorry
theorem e_MO_qGoesOn_7 : blk MO_qGoesOn 7 = k_MO_qGoesOn_7 := sorry
theorem e_MO_qGoesOn_8 : blk MO_qGoesOn 8 = k_MO_qGoesOn_8 := sorry
theorem e_MO_qGoesOn_9 : blk MO_qGoesOn 9 = k_MO_qGoesOn_9 := sorry
theorem e_MO_qGoesOn_10 : blk MO_qGoesOn 10 = k_MO_qGoesOn_10 := sorry
theorem e_MO_qGoesOn_11 : blk MO_qGoesOn 11 = k_MO_qGoesOn_11 := sorry
theorem e_MO_qGoesOn_12 : blk MO_qGoesOn 12 = k_MO_qGoesOn_12 := sorry
theorem e_MO_qGoesOn_13 : blk MO_qGoesOn 13 = k_MO_qGoesOn_13 := sorry
theorem e_MO_qGoesOn_14 : blk MO_qGoesOn 14 = k_MO_qGoesOn_14 := sorry
theorem e_MO_qGoesOn_15 : blk MO_qGoesOn 15 = k_MO_qGoesOn_15 := sorry
theorem e_MO_qGoesOn_16 : blk MO_qGoesOn 16 = k_MO_qGoesOn_16 := sorry
theorem e_MO_qGoesOn_17 : blk MO_qGoesOn 17 = k_MO_qGoesOn_17 := sorry
theorem e_MO_qGoesOn_18 : blk MO_qGoesOn 18 = k_MO_qGoesOn_18 := sorry
theorem e_MO_qGoesOn_19 : blk MO_qGoesOn 19 = k_MO_qGoesOn_19 := sorry
theorem e_MO_qGoesOn_20 : blk MO_qGoesOn 20 = k_MO_qGoesOn_20 := sorry
theorem e_MO_qGoesOn_21 : blk MO_qGoesOn 21 = k_MO_qGoesOn_21 := sorry
theorem e_MO_qGoesOn_22 : blk MO_qGoesOn 22 = k_MO_qGoesOn_22 := sorry
theorem e_MO_qGoesOn_23 : blk MO_qGoesOn 23 = k_MO_qGoesOn_23 := sorry
theorem e_MO_qSums_0 : blk MO_qSums 0 = k_MO_qSums_0 := sorry
theorem e_MO_qSums_1 : blk MO_qSums 1 = k_MO_qSums_1 := sorry
theorem e_MO_qSums_2 : blk MO_qSums 2 = k_MO_qSums_2 := sorry
theorem e_MO_qSums_3 : blk MO_qSums 3 = k_MO_qSums_3 := sorry
theorem e_MO_qSums_4 : blk MO_qSums 4 = k_MO_qSums_4 := sorry
theorem e_MO_qSums_5 : blk MO_qSums 5 = k_MO_qSums_5 := sorry
theorem e_MO_qFact_0 : blk MO_qFact 0 = k_MO_qFact_0 := sorry
theorem e_MO_qFact_1 : blk MO_qFact 1 = k_MO_qFact_1 := sorry
theorem e_MO_qFact_2 : blk MO_qFact 2 = k_MO_qFact_2 := sorry
theorem e_MO_qFact_3 : blk MO_qFact 3 = k_MO_qFact_3 := sorry
theorem e_MO_qFact_4 : blk MO_qFact 4 = k_MO_qFact_4 := sorry
theorem e_MO_qFact_5 : blk MO_qFact 5 = k_MO_qFact_5 := sorry
theorem e_MO_qFact_6 : blk MO_qFact 6 = k_MO_qFact_6 := sorry
theorem e_MO_qHasSquare_0 : blk MO_qHasSquare 0 = k_MO_qHasSquare_0 := sorry
theorem e_MO_qHasSquare_1 : blk MO_qHasSquare 1 = k_MO_qHasSquare_1 := sorry
theorem e_MO_qHasSquare_2 : blk MO_qHasSquare 2 = k_MO_qHasSquare_2 := sorry
theorem e_MO_qHasSquare_3 : blk MO_qHasSquare 3 = k_MO_qHasSquare_3 := sorry
theorem e_MO_qDropsNots_0 : blk MO_qDropsNots 0 = k_MO_qDropsNots_0 := sorry
theorem e_MO_qDropsNots_1 : blk MO_qDropsNots 1 = k_MO_qDropsNots_1 := sorry
theorem e_MO_qTest_0 : blk MO_qTest 0 = k_MO_qTest_0 := sorry
theorem e_MO_qTest_1 : blk MO_qTest 1 = k_MO_qTest_1 := sorry
theorem e_MO_qTest_2 : blk MO_qTest 2 = k_MO_qTest_2 := sorry
theorem e_MO_qTest_3 : blk MO_qTest 3 = k_MO_qTest_3 := sorry
theorem e_MO_qTest_4 : blk MO_qTest 4 = k_MO_qTest_4 := sorry
theorem e_MO_qTest_5 : blk MO_qTest 5 = k_MO_qTest_5 := sorry
theorem e_MO_qTest_6 : blk MO_qTest 6 = k_MO_qTest_6 := sorry
theorem e_MO_qTest_7 : blk MO_qTest 7 = k_MO_qTest_7 := sorry
theorem e_MO_qGoesOnTest_0 : blk MO_qGoesOnTest 0 = k_MO_qGoesOnTest_0 := sorry
theorem e_MO_qGoesOnTest_1 : blk MO_qGoesOnTest 1 = k_MO_qGoesOnTest_1 := sorry
theorem e_MO_qGoesOnTest_2 : blk MO_qGoesOnTest 2 = k_MO_qGoesOnTest_2 := sorry
theorem e_MO_qGoesOnTest_3 : blk MO_qGoesOnTest 3 = k_MO_qGoesOnTest_3 := sorry
theorem e_MO_qGoesOnTest_4 : blk MO_qGoesOnTest 4 = k_MO_qGoesOnTest_4 := sorry
theorem e_MO_qGoesOnTest_5 : blk MO_qGoesOnTest 5 = k_MO_qGoesOnTest_5 := sorry
theorem e_MO_qGoesOnTest_6 : blk MO_qGoesOnTest 6 = k_MO_qGoesOnTest_6 := sorry
theorem e_MO_qGoesOnTest_7 : blk MO_qGoesOnTest 7 = k_MO_qGoesOnTest_7 := sorry
theorem e_MO_qGoesOnTest_8 : blk MO_qGoesOnTest 8 = k_MO_qGoesOnTest_8 := sorry
theorem e_MO_qGoesOnTest_9 : blk MO_qGoesOnTest 9 = k_MO_qGoesOnTest_9 := sorry
theorem e_MO_qGoesOnTest_10 : blk MO_qGoesOnTest 10 = k_MO_qGoesOnTest_10 := sorry
theorem e_MO_qGoesOnTest_11 : blk MO_qGoesOnTest 11 = k_MO_qGoesOnTest_11 := sorry
theorem e_MO_qClip_0 : blk MO_qClip 0 = k_MO_qClip_0 := sorry
theorem e_MO_qClip_1 : blk MO_qClip 1 = k_MO_qClip_1 := sorry
theorem e_MO_qClip_2 : blk MO_qClip 2 = k_MO_qClip_2 := sorry
theorem e_MO_qClip_3 : blk MO_qClip 3 = k_MO_qClip_3 := sorry
theorem e_MO_qFloor_0 : blk MO_qFloor 0 = k_MO_qFloor_0 := sorry
theorem e_MO_qFloor_1 : blk MO_qFloor 1 = k_MO_qFloor_1 := sorry
theorem e_MO_qFloor_2 : blk MO_qFloor 2 = k_MO_qFloor_2 := sorry
theorem e_MO_qFloor_3 : blk MO_qFloor 3 = k_MO_qFloor_3 := sorry
theorem e_MO_qFloor_4 : blk MO_qFloor 4 = k_MO_qFloor_4 := sorry
theorem e_MO_qFloor_5 : blk MO_qFloor 5 = k_MO_qFloor_5 := sorry
theorem e_MO_qFloor_6 : blk MO_qFloor 6 = k_MO_qFloor_6 := sorry
theorem e_MO_qFloor_7 : blk MO_qFloor 7 = k_MO_qFloor_7 := sorry
theorem e_MO_qPuts_0 : blk MO_qPuts 0 = k_MO_qPuts_0 := sorry
theorem e_MO_qJoins_0 : blk MO_qJoins 0 = k_MO_qJoins_0 := sorry
theorem e_MO_qJoins_1 : blk MO_qJoins 1 = k_MO_qJoins_1 := sorry
theorem e_MO_qJoins_2 : blk MO_qJoins 2 = k_MO_qJoins_2 := sorry
theorem e_MO_qJoins_3 : blk MO_qJoins 3 = k_MO_qJoins_3 := sorry
theorem e_MO_qJoins_4 : blk MO_qJoins 4 = k_MO_qJoins_4 := sorry
theorem e_MO_qJoins_5 : blk MO_qJoins 5 = k_MO_qJoins_5 := sorry
theorem e_MO_qJoins_6 : blk MO_qJoins 6 = k_MO_qJoins_6 := sorry
theorem e_MO_qJoins_7 : blk MO_qJoins 7 = k_MO_qJoins_7 := sorry
theorem e_MO_qJoins_8 : blk MO_qJoins 8 = k_MO_qJoins_8 := sorry
theorem e_MO_qJoins_9 : blk MO_qJoins 9 = k_MO_qJoins_9 := sorry
theorem e_MO_qJoins_10 : blk MO_qJoins 10 = k_MO_qJoins_10 := sorry
theorem e_MO_qJoins_11 : blk MO_qJoins 11 = k_MO_qJoins_11 := sorry
theorem e_MO_qJoins_12 : blk MO_qJoins 12 = k_MO_qJoins_12 := sorry
theorem e_MO_qJoins_13 : blk MO_qJoins 13 = k_MO_qJoins_13 := sorry
theorem e_MO_qJoins_14 : blk MO_qJoins 14 = k_MO_qJoins_14 := sorry
theorem e_MO_qJoins_15 : blk MO_qJoins 15 = k_MO_qJoins_15 := sorry
theorem e_MO_qJoins_16 : blk MO_qJoins 16 = k_MO_qJoins_16 := sorry
theorem e_MO_qJoins_17 : blk MO_qJoins 17 = k_MO_qJoins_17 := sorry
theorem e_MO_qJoins_18 : blk MO_qJoins 18 = k_MO_qJoins_18 := sorry
theorem e_MO_qJoins_19 : blk MO_qJoins 19 = k_MO_qJoins_19 := sorry
theorem e_MO_qJoins_20 : blk MO_qJoins 20 = k_MO_qJoins_20 := sorry
theorem e_MO_qJoins_21 : blk MO_qJoins 21 = k_MO_qJoins_21 := sorry
theorem e_MO_qJoins_22 : blk MO_qJoins 22 = k_MO_qJoins_22 := sorry
theorem e_MO_qJoins_23 : blk MO_qJoins 23 = k_MO_qJoins_23 := sorry
theorem e_MO_qJoins_24 : blk MO_qJoins 24 = k_MO_qJoins_24 := sorry
theorem e_MO_qPartOf_0 : blk MO_qPartOf 0 = k_MO_qPartOf_0 := sorry
theorem e_MO_qPartOf_1 : blk MO_qPartOf 1 = k_MO_qPartOf_1 := sorry
theorem e_MO_qPartOf_2 : blk MO_qPartOf 2 = k_MO_qPartOf_2 := sorry
theorem e_MO_qPartOf_3 : blk MO_qPartOf 3 = k_MO_qPartOf_3 := sorry
theorem e_MO_qOf_0 : blk MO_qOf 0 = k_MO_qOf_0 := sorry
theorem e_MO_qOf_1 : blk MO_qOf 1 = k_MO_qOf_1 := sorry
theorem e_MO_qOf_2 : blk MO_qOf 2 = k_MO_qOf_2 := sorry
theorem e_MO_qOf_3 : blk MO_qOf 3 = k_MO_qOf_3 := sorry
theorem e_MO_qOf_4 : blk MO_qOf 4 = k_MO_qOf_4 := sorry
theorem e_MO_qOf_5 : blk MO_qOf 5 = k_MO_qOf_5 := sorry
theorem e_MO_qOf_6 : blk MO_qOf 6 = k_MO_qOf_6 := sorry
theorem e_MO_qTold_0 : blk MO_qTold 0 = k_MO_qTold_0 := sorry
theorem e_MO_qTold_1 : blk MO_qTold 1 = k_MO_qTold_1 := sorry
theorem e_MO_qTold_2 : blk MO_qTold 2 = k_MO_qTold_2 := sorry
theorem e_MO_qTold_3 : blk MO_qTold 3 = k_MO_qTold_3 := sorry
theorem e_MO_qTold_4 : blk MO_qTold 4 = k_MO_qTold_4 := sorry
theorem e_MO_qTold_5 : blk MO_qTold 5 = k_MO_qTold_5 := sorry
theorem e_MO_qTold_6 : blk MO_qTold 6 = k_MO_qTold_6 := sorry
theorem e_MO_qTold_7 : blk MO_qTold 7 = k_MO_qTold_7 := sorry
theorem e_MO_qTold_8 : blk MO_qTold 8 = k_MO_qTold_8 := sorry
theorem e_MO_qKind_0 : blk MO_qKind 0 = k_MO_qKind_0 := sorry
theorem e_MO_qKind_1 : blk MO_qKind 1 = k_MO_qKind_1 := sorry
theorem e_MO_qKind_2 : blk MO_qKind 2 = k_MO_qKind_2 := sorry
theorem e_MO_qKind_3 : blk MO_qKind 3 = k_MO_qKind_3 := sorry
theorem e_MO_qKind_4 : blk MO_qKind 4 = k_MO_qKind_4 := sorry
theorem e_MO_qKind_5 : blk MO_qKind 5 = k_MO_qKind_5 := sorry
theorem e_MO_qKind_6 : blk MO_qKind 6 = k_MO_qKind_6 := sorry
theorem e_MO_qKind_7 : blk MO_qKind 7 = k_MO_qKind_7 := sorry
theorem e_MO_qTakes_0 : blk MO_qTakes 0 = k_MO_qTakes_0 := sorry
theorem e_MO_qTakes_1 : blk MO_qTakes 1 = k_MO_qTakes_1 := sorry
theorem e_MO_qTakes_2 : blk MO_qTakes 2 = k_MO_qTakes_2 := sorry
theorem e_MO_qTakes_3 : blk MO_qTakes 3 = k_MO_qTakes_3 := sorry
theorem e_MO_qTakes_4 : blk MO_qTakes 4 = k_MO_qTakes_4 := sorry
theorem e_MO_qTakes_5 : blk MO_qTakes 5 = k_MO_qTakes_5 := sorry
theorem e_MO_qTakes_6 : blk MO_qTakes 6 = k_MO_qTakes_6 := sorry
theorem e_MO_qTakes_7 : blk MO_qTakes 7 = k_MO_qTakes_7 := sorry
theorem e_MO_qTakes_8 : blk MO_qTakes 8 = k_MO_qTakes_8 := sorry
theorem e_MO_qTakes_9 : blk MO_qTakes 9 = k_MO_qTakes_9 := sorry
theorem e_MO_qTakes_10 : blk MO_qTakes 10 = k_MO_qTakes_10 := sorry
theorem e_MO_ask_0 : blk MO_ask 0 = k_MO_ask_0 := sorry
theorem e_MO_ask_1 : blk MO_ask 1 = k_MO_ask_1 := sorry
theorem e_MO_ask_2 : blk MO_ask 2 = k_MO_ask_2 := sorry
theorem e_MO_ask_3 : blk MO_ask 3 = k_MO_ask_3 := sorry
theorem e_MO_ask_4 : blk MO_ask 4 = k_MO_ask_4 := sorry
theorem e_MO_ask_5 : blk MO_ask 5 = k_MO_ask_5 := sorry
theorem e_MO_ask_6 : blk MO_ask 6 = k_MO_ask_6 := sorry
theorem e_MO_ask_7 : blk MO_ask 7 = k_MO_ask_7 := sorry
theorem e_MO_ask_8 : blk MO_ask 8 = k_MO_ask_8 := sorry
theorem e_MO_ask_9 : blk MO_ask 9 = k_MO_ask_9 := sorry
theorem e_MO_ask_10 : blk MO_ask 10 = k_MO_ask_10 := sorry
theorem e_MO_qOffAt_0 : blk MO_qOffAt 0 = k_MO_qOffAt_0 := sorry
theorem e_MO_qIsGoodAt_0 : blk MO_qIsGoodAt 0 = k_MO_qIsGoodAt_0 := sorry
theorem e_MO_qIsGoodAt_1 : blk MO_qIsGoodAt 1 = k_MO_qIsGoodAt_1 := sorry
theorem e_MO_qIsGoodAt_2 : blk MO_qIsGoodAt 2 = k_MO_qIsGoodAt_2 := sorry
theorem e_MO_checked_0 : blk MO_checked 0 = k_MO_checked_0 := sorry
theorem e_MO_checked_1 : blk MO_checked 1 = k_MO_checked_1 := sorry
theorem e_MO_checked_2 : blk MO_checked 2 = k_MO_checked_2 := sorry
theorem e_MO_image_0 : blk MO_image 0 = k_MO_image_0 := sorry
theorem e_MO_image_1 : blk MO_image 1 = k_MO_image_1 := sorry
theorem e_MO_image_2 : blk MO_image 2 = k_MO_image_2 := sorry
theorem e_MO_image_3 : blk MO_image 3 = k_MO_image_3 := sorry
theorem e_MO_image_4 : blk MO_image 4 = k_MO_image_4 := sorry
theorem e_MO_octet_0 : blk MO_octet 0 = k_MO_octet_0 := sorry
theorem e_MO_octet_1 : blk MO_octet 1 = k_MO_octet_1 := sorry
theorem e_MO_octet_2 : blk MO_octet 2 = k_MO_octet_2 := sorry
theorem e_MO_isImage_0 : blk MO_isImage 0 = k_MO_isImage_0 := sorry
theorem e_MO_isImage_1 : blk MO_isImage 1 = k_MO_isImage_1 := sorry
theorem e_MO_isImage_2 : blk MO_isImage 2 = k_MO_isImage_2 := sorry
theorem e_MO_isImage_3 : blk MO_isImage 3 = k_MO_isImage_3 := sorry
theorem e_MO_isImage_4 : blk MO_isImage 4 = k_MO_isImage_4 := sorry
theorem e_MO_isImage_5 : blk MO_isImage 5 = k_MO_isImage_5 := sorry
theorem e_MO_isImage_6 : blk MO_isImage 6 = k_MO_isImage_6 := sorry
theorem e_MO_isImage_7 : blk MO_isImage 7 = k_MO_isImage_7 := sorry
theorem e_MO_isImage_8 : blk MO_isImage 8 = k_MO_isImage_8 := sorry
theorem e_MO_isImage_9 : blk MO_isImage 9 = k_MO_isImage_9 := sorry
theorem e_MO_isImage_10 : blk MO_isImage 10 = k_MO_isImage_10 := sorry
theorem e_MO_isImage_11 : blk MO_isImage 11 = k_MO_isImage_11 := sorry
theorem e_MO_isImage_12 : blk MO_isImage 12 = k_MO_isImage_12 := sorry
theorem e_MO_on_0 : blk MO_on 0 = k_MO_on_0 := sorry
theorem e_MO_on_1 : blk MO_on 1 = k_MO_on_1 := sorry
theorem e_MO_on_2 : blk MO_on 2 = k_MO_on_2 := sorry
theorem e_MO_on_3 : blk MO_on 3 = k_MO_on_3 := sorry
theorem e_MO_on_4 : blk MO_on 4 = k_MO_on_4 := sorry
theorem e_MO_on_5 : blk MO_on 5 = k_MO_on_5 := sorry
theorem e_MO_status_0 : blk MO_status 0 = k_MO_status_0 := sorry
theorem e_MO_status_1 : blk MO_status 1 = k_MO_status_1 := sorry
theorem e_MO_status_2 : blk MO_status 2 = k_MO_status_2 := sorry
theorem e_LW_law_0 : blk LW_law 0 = k_LW_law_0 := sorry
theorem e_LW_law_1 : blk LW_law 1 = k_LW_law_1 := sorry
theorem e_LW_law_2 : blk LW_law 2 = k_LW_law_2 := sorry
theorem e_LW_law_3 : blk LW_law 3 = k_LW_law_3 := sorry
theorem e_LW_law_4 : blk LW_law 4 = k_LW_law_4 := sorry
theorem e_LW_law_5 : blk LW_law 5 = k_LW_law_5 := sorry
theorem e_LW_law_6 : blk LW_law 6 = k_LW_law_6 := sorry
theorem e_LW_law_7 : blk LW_law 7 = k_LW_law_7 := sorry
theorem e_LW_law_8 : blk LW_law 8 = k_LW_law_8 := sorry
theorem e_LW_law_9 : blk LW_law 9 = k_LW_law_9 := sorry
theorem e_LW_law_10 : blk LW_law 10 = k_LW_law_10 := sorry
theorem e_LW_law_11 : blk LW_law 11 = k_LW_law_11 := sorry
theorem e_LW_law_12 : blk LW_law 12 = k_LW_law_12 := sorry
theorem e_LW_law_13 : blk LW_law 13 = k_LW_law_13 := sorry
theorem e_LW_law_14 : blk LW_law 14 = k_LW_law_14 := sorry
theorem e_LW_law_15 : blk LW_law 15 = k_LW_law_15 := sorry
theorem e_LW_law_16 : blk LW_law 16 = k_LW_law_16 := sorry
theorem e_LW_law_17 : blk LW_law 17 = k_LW_law_17 := sorry
theorem e_LW_law_18 : blk LW_law 18 = k_LW_law_18 := sorry
theorem e_LW_law_19 : blk LW_law 19 = k_LW_law_19 := sorry
theorem e_LW_law_20 : blk LW_law 20 = k_LW_law_20 := sorry
theorem e_LW_law_21 : blk LW_law 21 = k_LW_law_21 := sorry
theorem e_LW_law_22 : blk LW_law 22 = k_LW_law_22 := sorry
theorem e_LW_law_23 : blk LW_law 23 = k_LW_law_23 := sorry
theorem e_LW_law_24 : blk LW_law 24 = k_LW_law_24 := sorry
theorem e_LW_law_25 : blk LW_law 25 = k_LW_law_25 := sorry
theorem e_LW_law_26 : blk LW_law 26 = k_LW_law_26 := sorry
theorem e_LW_law_27 : blk LW_law 27 = k_LW_law_27 := sorry
theorem e_LW_law_28 : blk LW_law 28 = k_LW_law_28 := sorry
theorem e_LW_law_29 : blk LW_law 29 = k_LW_law_29 := sorry
theorem e_LW_law_30 : blk LW_law 30 = k_LW_law_30 := sorry
theorem e_LW_law_31 : blk LW_law 31 = k_LW_law_31 := sorry
theorem e_LW_law_32 : blk LW_law 32 = k_LW_law_32 := sorry
theorem e_LW_law_33 : blk LW_law 33 = k_LW_law_33 := sorry
theorem e_LW_law_34 : blk LW_law 34 = k_LW_law_34 := sorry
theorem e_LW_law_35 : blk LW_law 35 = k_LW_law_35 := sorry
theorem e_LW_law_36 : blk LW_law 36 = k_LW_law_36 := sorry
theorem e_LW_law_37 : blk LW_law 37 = k_LW_law_37 := sorry
theorem e_LW_law_38 : blk LW_law 38 = k_LW_law_38 := sorry
theorem e_LW_law_39 : blk LW_law 39 = k_LW_law_39 := sorry
theorem e_LW_law_40 : blk LW_law 40 = k_LW_law_40 := sorry
theorem e_LW_law_41 : blk LW_law 41 = k_LW_law_41 := sorry
theorem e_LW_law_42 : blk LW_law 42 = k_LW_law_42 := sorry
theorem e_LW_law_43 : blk LW_law 43 = k_LW_law_43 := sorry
theorem e_LW_law_44 : blk LW_law 44 = k_LW_law_44 := sorry
theorem e_LW_law_45 : blk LW_law 45 = k_LW_law_45 := sorry
theorem e_LW_law_46 : blk LW_law 46 = k_LW_law_46 := sorry
theorem e_LW_law_47 : blk LW_law 47 = k_LW_law_47 := sorry
end
section
/-! THE RUN of the abstract machine, by fuel n and depth of calls d; R: it comes to an end with Q; a row an instruction -/
def am_bool (x : Int) : Prop := x = 0 ∨ x = 1
def rcv : List AV → Int
  | (2, c) :: _ => c
  | _ => -1
def fk (i : AI) : Int := match i.2.2.2 with
  | q :: _ => q.1
  | [] => 0
/-- one instruction that neither jumps nor calls -/
def am1 (i : AI) (ls st : List AV) (H : Hp) : Option (List AV × List AV × Hp) :=
  match i.1 with
  | 1 => some (ls, vi i.2.2.1 :: st, H)
  | 2 => some (ls, vl i.2.2.1 :: st, H)
  | 3 => match lget ls i.2.1 with
    | (0, x) => some (ls, vi x :: st, H)
    | _ => none
  | 53 => match lget ls i.2.1 with
    | (1, x) => some (ls, vl x :: st, H)
    | _ => none
  | 54 => match lget ls i.2.1 with
    | (2, x) => some (ls, va x :: st, H)
    | _ => none
  | 4 => match st with
    | (0, x) :: st' => if i.2.1 < ls.length then some (lst1 ls i.2.1 (vi x), st', H) else none
    | _ => none
  | 55 => match st with
    | (2, x) :: st' => if i.2.1 < ls.length then some (lst1 ls i.2.1 (va x), st', H) else none
    | _ => none
  | 5 => match st with
    | (1, x) :: st' => if i.2.1 + 1 < ls.length then some (lst2 ls i.2.1 (vl x), st', H) else none
    | _ => none
  | 6 => match lget ls i.2.1 with
    | (0, x) => if i.2.1 < ls.length then some (lst1 ls i.2.1 (vi (w32 (x + i.2.2.1))), st, H) else none
    | _ => none
  | 7 => match st with
    | (0, y) :: (0, x) :: st' => some (ls, vi (am_bi i.2.1 x y) :: st', H)
    | _ => none
  | 8 => match st with
    | (1, y) :: (1, x) :: st' => some (ls, vl (am_bl i.2.1 x y) :: st', H)
    | _ => none
  | 9 => match st with
    | (0, y) :: (1, x) :: st' => some (ls, vl (if i.2.1 = 0 then l_shl x y else l_shr x y) :: st', H)
    | _ => none
  | 10 => match st with
    | (0, y) :: (0, x) :: st' => if y ≠ 0 then some (ls, vi (am_bi i.2.1 x y) :: st', H) else none
    | _ => none
  | 11 => match st with
    | (1, y) :: (1, x) :: st' => if y ≠ 0 then some (ls, vl (am_bl i.2.1 x y) :: st', H) else none
    | _ => none
  | 60 => match st with
    | (0, x) :: st' => some (ls, vi (w32 (-x)) :: st', H)
    | _ => none
  | 61 => match st with
    | (1, x) :: st' => some (ls, vl (w64 (-x)) :: st', H)
    | _ => none
  | 62 => match st with
    | (0, x) :: st' => some (ls, vl x :: st', H)
    | _ => none
  | 63 => match st with
    | (1, x) :: st' => some (ls, vi (w32 x) :: st', H)
    | _ => none
  | 64 => match st with
    | (0, x) :: st' => some (ls, vi (w8 x) :: st', H)
    | _ => none
  | 65 => match st with
    | (0, x) :: st' => some (ls, vi (w16u x) :: st', H)
    | _ => none
  | 13 => match st with
    | (1, y) :: (1, x) :: st' => some (ls, vi (cmp3 x y) :: st', H)
    | _ => none
  | 18 => match st with
    | (2, c) :: st' => if shc c = i.2.2.1 then some (ls, vi (H c (fk i)) :: st', H) else none
    | _ => none
  | 19 => match st with
    | (2, c) :: st' => if shc c = i.2.2.1 then some (ls, vl (H c (fk i)) :: st', H) else none
    | _ => none
  | 20 => match st with
    | (2, c) :: st' => if shc c = i.2.2.1 then some (ls, va (H c (fk i)) :: st', H) else none
    | _ => none
  | 21 => match st with
    | (0, x) :: (2, c) :: st' => if shc c = i.2.2.1 then some (ls, st', hs H c (fk i) x) else none
    | _ => none
  | 22 => match st with
    | (1, x) :: (2, c) :: st' => if shc c = i.2.2.1 then some (ls, st', hs H c (fk i) x) else none
    | _ => none
  | 23 => match st with
    | (2, x) :: (2, c) :: st' => if shc c = i.2.2.1 then some (ls, st', hs H c (fk i) x) else none
    | _ => none
  | 24 => match st with
    | (0, x) :: (2, c) :: st' => if shc c = i.2.2.1 ∧ (x = 0 ∨ x = 1) then some (ls, st', hs H c (fk i) x) else none
    | _ => none
  | 25 => match st with
    | (0, j) :: (2, c) :: st' => if sht c = 1 ∧ 0 ≤ j ∧ j < shl c then some (ls, vi (H c j) :: st', H) else none
    | _ => none
  | 26 => match st with
    | (0, j) :: (2, c) :: st' => if sht c = 2 ∧ 0 ≤ j ∧ j < shl c then some (ls, vl (H c j) :: st', H) else none
    | _ => none
  | 27 => match st with
    | (0, j) :: (2, c) :: st' => if sht c = 3 ∧ 0 ≤ j ∧ j < shl c then some (ls, vi (H c j) :: st', H) else none
    | _ => none
  | 28 => match st with
    | (0, j) :: (2, c) :: st' => if sht c = 4 ∧ 0 ≤ j ∧ j < shl c then some (ls, vi (H c j) :: st', H) else none
    | _ => none
  | 29 => match st with
    | (0, x) :: (0, j) :: (2, c) :: st' => if sht c = 1 ∧ 0 ≤ j ∧ j < shl c then some (ls, st', hs H c j x) else none
    | _ => none
  | 30 => match st with
    | (1, x) :: (0, j) :: (2, c) :: st' => if sht c = 2 ∧ 0 ≤ j ∧ j < shl c then some (ls, st', hs H c j x) else none
    | _ => none
  | 31 => match st with
    | (0, x) :: (0, j) :: (2, c) :: st' => if sht c = 3 ∧ 0 ≤ j ∧ j < shl c then some (ls, st', hs H c j (w8 x)) else none
    | _ => none
  | 32 => match st with
    | (0, x) :: (0, j) :: (2, c) :: st' => if sht c = 4 ∧ 0 ≤ j ∧ j < shl c then some (ls, st', hs H c j (w16u x)) else none
    | _ => none
  | 33 => match st with
    | (2, c) :: st' => if sht c ≠ 0 then some (ls, vi (shl c) :: st', H) else none
    | _ => none
  | 34 => match st with
    | (0, x) :: st' => some (ls, vi x :: vi x :: st', H)
    | (2, x) :: st' => some (ls, va x :: va x :: st', H)
    | _ => none
  | 66 => match st with
    | (0, x) :: (2, y) :: st' => some (ls, vi x :: va y :: vi x :: va y :: st', H)
    | (1, x) :: st' => some (ls, vl x :: vl x :: st', H)
    | _ => none
  | 67 => match st with
    | (0, _) :: st' => some (ls, st', H)
    | _ => none
  | 43 => if shc (H 0 0 + 1) = i.2.2.1 then some (ls, va (H 0 0 + 1) :: st, hs H 0 0 (H 0 0 + 1)) else none
  | 44 => match st with
    | (0, x) :: st' => if sht (H 0 0 + 1) = i.2.1 ∧ shl (H 0 0 + 1) = x then some (ls, va (H 0 0 + 1) :: st', hs H 0 0 (H 0 0 + 1)) else none
    | _ => none
  | 46 => some (ls, va i.2.2.1 :: st, H)
  | 47 => match st with
    | (0, n) :: (0, dp) :: (2, e) :: (0, sp) :: (2, c) :: st' => if c ≠ e ∧ sht c = 1 ∧ sht e = 1 ∧ 0 ≤ n ∧ 0 ≤ dp ∧ 0 ≤ sp ∧ sp + n ≤ shl c ∧ dp + n ≤ shl e ∧ wds st' ≤ 8 then some (ls, st', fun a b => if a = e ∧ dp ≤ b ∧ b < dp + n then H c (sp + (b - dp)) else H a b) else none
    | _ => none
  | 48 => match st with
    | (0, j) :: (2, y) :: st' => if y = 999 ∧ 0 ≤ j ∧ j < H 0 1 then some (ls, vi (H 999 j) :: st', H) else none
    | _ => none
  | 49 => match st with
    | (2, y) :: st' => if y = 999 then some (ls, vi (H 0 1) :: st', H) else none
    | _ => none
  | 50 => match st with
    | (2, z) :: st' => if (z = 901 ∨ z = 902) ∧ wds st' ≤ 8 then some (ls, vi ((stx z).length : Nat) :: st', H) else none
    | _ => none
  | 51 => match st with
    | (0, j) :: (2, z) :: st' => if (z = 901 ∨ z = 902) ∧ 0 ≤ j ∧ j < ((stx z).length : Nat) ∧ wds st' ≤ 8 then some (ls, vi ((stx z).getD j.toNat 0) :: st', H) else none
    | _ => none
  | 52 => match st with
    | (2, y) :: st' => if y ≠ 0 ∧ wds st' ≤ 8 then some (ls, st', H) else none
    | _ => none
  | _ => none
def stp (rec : Nat → Nat → List AI → List AV → List AV → Hp → Option (AV × Hp)) (d m : Nat) (is : List AI) (ls st : List AV) (H : Hp) : Option (AV × Hp) :=
  match is with
  | [] => none
  | i :: is' =>
    match i.1 with
    | 14 => match st with
      | (0, x) :: st' => if am_cn i.2.2.1 x 0 = true then rec d m (blk m i.2.1) ls st' H else rec d m is' ls st' H
      | _ => none
    | 15 => match st with
      | (0, y) :: (0, x) :: st' => if am_cn i.2.2.1 x y = true then rec d m (blk m i.2.1) ls st' H else rec d m is' ls st' H
      | _ => none
    | 16 => rec d m (blk m i.2.1) ls st H
    | 17 => rec d m (blk m i.2.1) ls st H
    | 35 => match d with
      | 0 => none
      | d' + 1 => if (i.2.2.1.toNat ≤ st.length ∧ wds (dpr i.2.2.1.toNat st) ≤ 8) ∧ wds (tkr i.2.2.1.toNat st []) ≤ mxl i.2.1 then (match rec d' i.2.1 (blk i.2.1 0) (lcs (mxl i.2.1) (tkr i.2.2.1.toNat st [])) [] H with
        | some (r, H1) => rec d m is' ls (r :: dpr i.2.2.1.toNat st) H1
        | none => none) else none
    | 36 => match d with
      | 0 => none
      | d' + 1 => if ([shc (rcv (tkr i.2.2.1.toNat st []))] = i.2.2.2.map Prod.fst ∧ i.2.2.1.toNat ≤ st.length ∧ wds (dpr i.2.2.1.toNat st) ≤ 8) ∧ wds (tkr i.2.2.1.toNat st []) ≤ mxl i.2.1 then (match rec d' i.2.1 (blk i.2.1 0) (lcs (mxl i.2.1) (tkr i.2.2.1.toNat st [])) [] H with
        | some (r, H1) => rec d m is' ls (r :: dpr i.2.2.1.toNat st) H1
        | none => none) else none
    | 37 => match d with
      | 0 => none
      | d' + 1 => if (i.2.2.1.toNat ≤ st.length ∧ wds (dpr i.2.2.1.toNat st) ≤ 8) ∧ wds (tkr i.2.2.1.toNat st []) ≤ mxl i.2.1 then (match rec d' i.2.1 (blk i.2.1 0) (lcs (mxl i.2.1) (tkr i.2.2.1.toNat st [])) [] H with
        | some (_, H1) => rec d m is' ls (dpr i.2.2.1.toNat st) H1
        | none => none) else none
    | 38 => match d with
      | 0 => none
      | d' + 1 => if ([shc (rcv (tkr i.2.2.1.toNat st []))] = i.2.2.2.map Prod.fst ∧ i.2.2.1.toNat ≤ st.length ∧ wds (dpr i.2.2.1.toNat st) ≤ 8) ∧ wds (tkr i.2.2.1.toNat st []) ≤ mxl i.2.1 then (match rec d' i.2.1 (blk i.2.1 0) (lcs (mxl i.2.1) (tkr i.2.2.1.toNat st [])) [] H with
        | some (_, H1) => rec d m is' ls (dpr i.2.2.1.toNat st) H1
        | none => none) else none
    | 39 => match st with
      | [] => some (vu, H)
      | _ => none
    | 40 => match st with
      | [(0, x)] => some (vi x, H)
      | _ => none
    | 41 => match st with
      | [(1, x)] => some (vl x, H)
      | _ => none
    | 42 => match st with
      | [(0, x)] => if x = 0 ∨ x = 1 then some (vi x, H) else none
      | _ => none
    | 45 => match st with
      | (0, x) :: st' => rec d m (blk m (swl x i.2.1 i.2.2.2)) ls st' H
      | _ => none
    | _ => match am1 i ls st H with
      | some (ls', st', H') => rec d m is' ls' st' H'
      | none => none
def ex : Nat → Nat → Nat → List AI → List AV → List AV → Hp → Option (AV × Hp)
  | 0 => fun _ _ _ _ _ _ => none
  | n + 1 => stp (ex n)
theorem stp_mono {f g : Nat → Nat → List AI → List AV → List AV → Hp → Option (AV × Hp)} (hfg : ∀ d m is ls st H v, f d m is ls st H = some v → g d m is ls st H = some v) {d m : Nat} {is : List AI} {ls st : List AV} {H : Hp} {v : AV × Hp} (h : stp f d m is ls st H = some v) : stp g d m is ls st H = some v := by
  have key : ∀ (d' c : Nat) (l : List AV) (k : AV → List AV) (is' : List AI), (match f d' c (blk c 0) l [] H with
        | some (r, H1) => f d m is' ls (k r) H1
        | none => none) = some v → (match g d' c (blk c 0) l [] H with
        | some (r, H1) => g d m is' ls (k r) H1
        | none => none) = some v := by
    intro d' c l k is' hh
    cases hx : f d' c (blk c 0) l [] H with
    | none => rw [hx] at hh; cases hh
    | some q =>
      obtain ⟨r, H1⟩ := q
      rw [hx] at hh
      rw [hfg _ _ _ _ _ _ _ hx]
      exact hfg _ _ _ _ _ _ _ hh
  unfold stp at h ⊢
  cases is with
  | nil => cases h
  | cons i is' =>
    dsimp only at h ⊢
    split at h
    all_goals first
      | exact h
      | (split at h
         all_goals first
           | exact h
           | (exact hfg _ _ _ _ _ _ _ h)
           | (split at h
              · first | (rename_i hc; rw [if_pos hc]; first | exact hfg _ _ _ _ _ _ _ h | exact key _ _ _ (fun r => r :: _) _ h | exact key _ _ _ (fun _ => _) _ h)
              · first | (rename_i hc; rw [if_neg hc]; exact hfg _ _ _ _ _ _ _ h) | cases h)
           | cases h)
      | exact hfg _ _ _ _ _ _ _ h
theorem ex_mono {n : Nat} : ∀ {d m : Nat} {is : List AI} {ls st : List AV} {H : Hp} {v : AV × Hp}, ex n d m is ls st H = some v → ex (n + 1) d m is ls st H = some v := by
  induction n with
  | zero => intro d m is ls st H v h; cases h
  | succ n ih => intro d m is ls st H v h; exact stp_mono (fun d m is ls st H v hh => ih hh) h
theorem ex_le {n k : Nat} (hk : n ≤ k) {d m : Nat} {is : List AI} {ls st : List AV} {H : Hp} {v : AV × Hp} (h : ex n d m is ls st H = some v) : ex k d m is ls st H = some v := by
  induction hk with
  | refl => exact h
  | step _ ih => exact ex_mono ih
def R (d m : Nat) (is : List AI) (ls st : List AV) (H : Hp) (Q : AV → Hp → Prop) : Prop := ∃ n r H1, ex n d m is ls st H = some (r, H1) ∧ Q r H1
def CC (d m : Nat) (args : List AV) (H : Hp) (Q : AV → Hp → Prop) : Prop := wds args ≤ mxl m ∧ R d m (blk m 0) (lcs (mxl m) args) [] H Q
theorem R.mono {d m : Nat} {is : List AI} {ls st : List AV} {H : Hp} {Q Q' : AV → Hp → Prop} (h : R d m is ls st H Q) (hq : ∀ r H1, Q r H1 → Q' r H1) : R d m is ls st H Q' := by
  obtain ⟨n, r, H1, e, q⟩ := h
  exact ⟨n, r, H1, e, hq _ _ q⟩
theorem CC.mono {d m : Nat} {args : List AV} {H : Hp} {Q Q' : AV → Hp → Prop} (h : CC d m args H Q) (hq : ∀ r H1, Q r H1 → Q' r H1) : CC d m args H Q' := ⟨h.1, R.mono h.2 hq⟩
theorem ite_iff {c c' : Prop} [Decidable c] [Decidable c'] {a b : Prop} (h : c ↔ c') : (if c then a else b) = if c' then a else b := by
  by_cases hc : c
  · rw [if_pos hc, if_pos (h.mp hc)]
  · rw [if_neg hc, if_neg (fun q => hc (h.mpr q))]
section RW
variable {d m : Nat} {is : List AI} {ls st : List AV} {H : Hp} {Q : AV → Hp → Prop}
theorem R_st {d' m' : Nat} {is' : List AI} {ls' st' : List AV} {H' : Hp} (h : ∀ n, ex (n + 1) d m is ls st H = ex n d' m' is' ls' st' H') : R d m is ls st H Q = R d' m' is' ls' st' H' Q := by
  refine propext ⟨fun ⟨n, r, H1, e, q⟩ => ?_, fun ⟨n, r, H1, e, q⟩ => ⟨n + 1, r, H1, (h n).trans e, q⟩⟩
  cases n with
  | zero => cases e
  | succ n => exact ⟨n, r, H1, (h n).symm.trans e, q⟩
theorem R_end {r : AV} {H' : Hp} (h : ∀ n, ex (n + 1) d m is ls st H = some (r, H')) : R d m is ls st H Q = Q r H' := by
  refine propext ⟨fun ⟨n, r1, H1, e, q⟩ => ?_, fun q => ⟨1, r, H', h 0, q⟩⟩
  cases n with
  | zero => cases e
  | succ n =>
    rw [h n] at e
    cases e
    exact q
theorem R_no (h : ∀ n, ex (n + 1) d m is ls st H = none) : R d m is ls st H Q = False := by
  refine propext ⟨fun ⟨n, r1, H1, e, q⟩ => ?_, fun q => q.elim⟩
  cases n with
  | zero => cases e
  | succ n => rw [h n] at e; cases e
theorem R_if {c : Prop} [Decidable c] {is1 is2 : List AI} {st1 st2 : List AV} (h : ∀ n, ex (n + 1) d m is ls st H = if c then ex n d m is1 ls st1 H else ex n d m is2 ls st2 H) : R d m is ls st H Q = if c then R d m is1 ls st1 H Q else R d m is2 ls st2 H Q := by
  by_cases hc : c
  · rw [if_pos hc]; exact R_st (fun n => (h n).trans (if_pos hc))
  · rw [if_neg hc]; exact R_st (fun n => (h n).trans (if_neg hc))
theorem R_and {c : Prop} [Decidable c] {is1 : List AI} {ls1 st1 : List AV} {H1 : Hp} (h : ∀ n, ex (n + 1) d m is ls st H = if c then ex n d m is1 ls1 st1 H1 else none) : R d m is ls st H Q = (c ∧ R d m is1 ls1 st1 H1 Q) := by
  by_cases hc : c
  · rw [R_st (fun n => (h n).trans (if_pos hc))]
    exact propext ⟨fun q => ⟨hc, q⟩, fun q => q.2⟩
  · rw [R_no (fun n => (h n).trans (if_neg hc))]
    exact propext ⟨fun q => q.elim, fun q => hc q.1⟩
theorem R_am {c : Prop} [Decidable c] {i : AI} {is0 : List AI} {ls1 st1 : List AV} {H1 : Hp} (h : ∀ n, ex (n + 1) d m (i :: is0) ls st H = match am1 i ls st H with
      | some (ls', st', H') => ex n d m is0 ls' st' H'
      | none => none) (ha : am1 i ls st H = if c then some (ls1, st1, H1) else none) : R d m (i :: is0) ls st H Q = (c ∧ R d m is0 ls1 st1 H1 Q) := by
  refine R_and (fun n => ?_)
  rw [h, ha]
  by_cases hc : c
  · rw [if_pos hc, if_pos hc]
  · rw [if_neg hc, if_neg hc]
theorem R_call {c d' : Nat} {g : Prop} [Decidable g] {l : List AV} {k : AV → List AV} {is1 : List AI} (h : ∀ n, ex (n + 1) d m is ls st H = if g ∧ wds l ≤ mxl c then (match ex n d' c (blk c 0) (lcs (mxl c) l) [] H with
        | some (r, H1) => ex n d m is1 ls (k r) H1
        | none => none) else none) : R d m is ls st H Q = (g ∧ CC d' c l H (fun r H1 => R d m is1 ls (k r) H1 Q)) := by
  refine propext ⟨fun ⟨n, r, H1, e, q⟩ => ?_, fun ⟨hg, hm, n, r, H1, e, n2, r2, H2, e2, q⟩ => ?_⟩
  · cases n with
    | zero => cases e
    | succ n =>
      rw [h n] at e
      by_cases hg : g ∧ wds l ≤ mxl c
      · rw [if_pos hg] at e
        refine ⟨hg.1, hg.2, ?_⟩
        cases hx : ex n d' c (blk c 0) (lcs (mxl c) l) [] H with
        | none => rw [hx] at e; cases e
        | some w =>
          obtain ⟨r1, H3⟩ := w
          rw [hx] at e
          exact ⟨n, r1, H3, hx, n, r, H1, e, q⟩
      · rw [if_neg hg] at e; cases e
  · refine ⟨n + n2 + 1, r2, H2, ?_, q⟩
    rw [h, if_pos ⟨hg, hm⟩, ex_le (Nat.le_add_right n n2) e]
    exact ex_le (Nat.le_add_left n2 n) e2
theorem r_ic {z : Int} : R d m (x_ic z :: is) ls (st) H Q = R d m is ls (vi z :: st) (H) Q := sorry
theorem r_lc {z : Int} : R d m (x_lc z :: is) ls (st) H Q = R d m is ls (vl z :: st) (H) Q := sorry
theorem r_str {z : Int} : R d m (x_str z :: is) ls (st) H Q = R d m is ls (va z :: st) (H) Q := sorry
theorem r_ld0vi {x : Int} {l : List AV} : R d m (x_ldi 0 :: is) (vi x :: l) st H Q = R d m is (vi x :: l) (vi x :: st) H Q := sorry
theorem r_ld0vl {x : Int} {l : List AV} : R d m (x_ldl 0 :: is) (vl x :: l) st H Q = R d m is (vl x :: l) (vl x :: st) H Q := sorry
theorem r_ld0va {x : Int} {l : List AV} : R d m (x_lda 0 :: is) (va x :: l) st H Q = R d m is (va x :: l) (va x :: st) H Q := sorry
theorem r_ld1vi {a0 : AV} {x : Int} {l : List AV} : R d m (x_ldi 1 :: is) (a0 :: vi x :: l) st H Q = R d m is (a0 :: vi x :: l) (vi x :: st) H Q := sorry
theorem r_ld1vl {a0 : AV} {x : Int} {l : List AV} : R d m (x_ldl 1 :: is) (a0 :: vl x :: l) st H Q = R d m is (a0 :: vl x :: l) (vl x :: st) H Q := sorry
theorem r_ld1va {a0 : AV} {x : Int} {l : List AV} : R d m (x_lda 1 :: is) (a0 :: va x :: l) st H Q = R d m is (a0 :: va x :: l) (va x :: st) H Q := sorry
theorem r_ld2vi {a0 a1 : AV} {x : Int} {l : List AV} : R d m (x_ldi 2 :: is) (a0 :: a1 :: vi x :: l) st H Q = R d m is (a0 :: a1 :: vi x :: l) (vi x :: st) H Q := sorry
theorem r_ld2vl {a0 a1 : AV} {x : Int} {l : List AV} : R d m (x_ldl 2 :: is) (a0 :: a1 :: vl x :: l) st H Q = R d m is (a0 :: a1 :: vl x :: l) (vl x :: st) H Q := sorry
theorem r_ld2va {a0 a1 : AV} {x : Int} {l : List AV} : R d m (x_lda 2 :: is) (a0 :: a1 :: va x :: l) st H Q = R d m is (a0 :: a1 :: va x :: l) (va x :: st) H Q := sorry
theorem r_ld3vi {a0 a1 a2 : AV} {x : Int} {l : List AV} : R d m (x_ldi 3 :: is) (a0 :: a1 :: a2 :: vi x :: l) st H Q = R d m is (a0 :: a1 :: a2 :: vi x :: l) (vi x :: st) H Q := sorry
theorem r_ld3vl {a0 a1 a2 : AV} {x : Int} {l : List AV} : R d m (x_ldl 3 :: is) (a0 :: a1 :: a2 :: vl x :: l) st H Q = R d m is (a0 :: a1 :: a2 :: vl x :: l) (vl x :: st) H Q := sorry
theorem r_ld3va {a0 a1 a2 : AV} {x : Int} {l : List AV} : R d m (x_lda 3 :: is) (a0 :: a1 :: a2 :: va x :: l) st H Q = R d m is (a0 :: a1 :: a2 :: va x :: l) (va x :: st) H Q := sorry
theorem r_ld4vi {a0 a1 a2 a3 : AV} {x : Int} {l : List AV} : R d m (x_ldi 4 :: is) (a0 :: a1 :: a2 :: a3 :: vi x :: l) st H Q = R d m is (a0 :: a1 :: a2 :: a3 :: vi x :: l) (vi x :: st) H Q := sorry
theorem r_ld4vl {a0 a1 a2 a3 : AV} {x : Int} {l : List AV} : R d m (x_ldl 4 :: is) (a0 :: a1 :: a2 :: a3 :: vl x :: l) st H Q = R d m is (a0 :: a1 :: a2 :: a3 :: vl x :: l) (vl x :: st) H Q := sorry
theorem r_ld4va {a0 a1 a2 a3 : AV} {x : Int} {l : List AV} : R d m (x_lda 4 :: is) (a0 :: a1 :: a2 :: a3 :: va x :: l) st H Q = R d m is (a0 :: a1 :: a2 :: a3 :: va x :: l) (va x :: st) H Q := sorry
theorem r_ld5vi {a0 a1 a2 a3 a4 : AV} {x : Int} {l : List AV} : R d m (x_ldi 5 :: is) (a0 :: a1 :: a2 :: a3 :: a4 :: vi x :: l) st H Q = R d m is (a0 :: a1 :: a2 :: a3 :: a4 :: vi x :: l) (vi x :: st) H Q := sorry
theorem r_ld5vl {a0 a1 a2 a3 a4 : AV} {x : Int} {l : List AV} : R d m (x_ldl 5 :: is) (a0 :: a1 :: a2 :: a3 :: a4 :: vl x :: l) st H Q = R d m is (a0 :: a1 :: a2 :: a3 :: a4 :: vl x :: l) (vl x :: st) H Q := sorry
theorem r_ld5va {a0 a1 a2 a3 a4 : AV} {x : Int} {l : List AV} : R d m (x_lda 5 :: is) (a0 :: a1 :: a2 :: a3 :: a4 :: va x :: l) st H Q = R d m is (a0 :: a1 :: a2 :: a3 :: a4 :: va x :: l) (va x :: st) H Q := sorry
theorem r_ld6vi {a0 a1 a2 a3 a4 a5 : AV} {x : Int} {l : List AV} : R d m (x_ldi 6 :: is) (a0 :: a1 :: a2 :: a3 :: a4 :: a5 :: vi x :: l) st H Q = R d m is (a0 :: a1 :: a2 :: a3 :: a4 :: a5 :: vi x :: l) (vi x :: st) H Q := sorry
theorem r_ld6vl {a0 a1 a2 a3 a4 a5 : AV} {x : Int} {l : List AV} : R d m (x_ldl 6 :: is) (a0 :: a1 :: a2 :: a3 :: a4 :: a5 :: vl x :: l) st H Q = R d m is (a0 :: a1 :: a2 :: a3 :: a4 :: a5 :: vl x :: l) (vl x :: st) H Q := sorry
theorem r_ld6va {a0 a1 a2 a3 a4 a5 : AV} {x : Int} {l : List AV} : R d m (x_lda 6 :: is) (a0 :: a1 :: a2 :: a3 :: a4 :: a5 :: va x :: l) st H Q = R d m is (a0 :: a1 :: a2 :: a3 :: a4 :: a5 :: va x :: l) (va x :: st) H Q := sorry
theorem r_ld7vi {a0 a1 a2 a3 a4 a5 a6 : AV} {x : Int} {l : List AV} : R d m (x_ldi 7 :: is) (a0 :: a1 :: a2 :: a3 :: a4 :: a5 :: a6 :: vi x :: l) st H Q = R d m is (a0 :: a1 :: a2 :: a3 :: a4 :: a5 :: a6 :: vi x :: l) (vi x :: st) H Q := sorry
theorem r_ld7vl {a0 a1 a2 a3 a4 a5 a6 : AV} {x : Int} {l : List AV} : R d m (x_ldl 7 :: is) (a0 :: a1 :: a2 :: a3 :: a4 :: a5 :: a6 :: vl x :: l) st H Q = R d m is (a0 :: a1 :: a2 :: a3 :: a4 :: a5 :: a6 :: vl x :: l) (vl x :: st) H Q := sorry
theorem r_ld7va {a0 a1 a2 a3 a4 a5 a6 : AV} {x : Int} {l : List AV} : R d m (x_lda 7 :: is) (a0 :: a1 :: a2 :: a3 :: a4 :: a5 :: a6 :: va x :: l) st H Q = R d m is (a0 :: a1 :: a2 :: a3 :: a4 :: a5 :: a6 :: va x :: l) (va x :: st) H Q := sorry
theorem r_ld8vi {a0 a1 a2 a3 a4 a5 a6 a7 : AV} {x : Int} {l : List AV} : R d m (x_ldi 8 :: is) (a0 :: a1 :: a2 :: a3 :: a4 :: a5 :: a6 :: a7 :: vi x :: l) st H Q = R d m is (a0 :: a1 :: a2 :: a3 :: a4 :: a5 :: a6 :: a7 :: vi x :: l) (vi x :: st) H Q := sorry
theorem r_ld8vl {a0 a1 a2 a3 a4 a5 a6 a7 : AV} {x : Int} {l : List AV} : R d m (x_ldl 8 :: is) (a0 :: a1 :: a2 :: a3 :: a4 :: a5 :: a6 :: a7 :: vl x :: l) st H Q = R d m is (a0 :: a1 :: a2 :: a3 :: a4 :: a5 :: a6 :: a7 :: vl x :: l) (vl x :: st) H Q := sorry
theorem r_ld8va {a0 a1 a2 a3 a4 a5 a6 a7 : AV} {x : Int} {l : List AV} : R d m (x_lda 8 :: is) (a0 :: a1 :: a2 :: a3 :: a4 :: a5 :: a6 :: a7 :: va x :: l) st H Q = R d m is (a0 :: a1 :: a2 :: a3 :: a4 :: a5 :: a6 :: a7 :: va x :: l) (va x :: st) H Q := sorry
theorem r_ld9vi {a0 a1 a2 a3 a4 a5 a6 a7 a8 : AV} {x : Int} {l : List AV} : R d m (x_ldi 9 :: is) (a0 :: a1 :: a2 :: a3 :: a4 :: a5 :: a6 :: a7 :: a8 :: vi x :: l) st H Q = R d m is (a0 :: a1 :: a2 :: a3 :: a4 :: a5 :: a6 :: a7 :: a8 :: vi x :: l) (vi x :: st) H Q := sorry
theorem r_ld9vl {a0 a1 a2 a3 a4 a5 a6 a7 a8 : AV} {x : Int} {l : List AV} : R d m (x_ldl 9 :: is) (a0 :: a1 :: a2 :: a3 :: a4 :: a5 :: a6 :: a7 :: a8 :: vl x :: l) st H Q = R d m is (a0 :: a1 :: a2 :: a3 :: a4 :: a5 :: a6 :: a7 :: a8 :: vl x :: l) (vl x :: st) H Q := sorry
theorem r_ld9va {a0 a1 a2 a3 a4 a5 a6 a7 a8 : AV} {x : Int} {l : List AV} : R d m (x_lda 9 :: is) (a0 :: a1 :: a2 :: a3 :: a4 :: a5 :: a6 :: a7 :: a8 :: va x :: l) st H Q = R d m is (a0 :: a1 :: a2 :: a3 :: a4 :: a5 :: a6 :: a7 :: a8 :: va x :: l) (va x :: st) H Q := sorry
theorem r_ld10vi {a0 a1 a2 a3 a4 a5 a6 a7 a8 a9 : AV} {x : Int} {l : List AV} : R d m (x_ldi 10 :: is) (a0 :: a1 :: a2 :: a3 :: a4 :: a5 :: a6 :: a7 :: a8 :: a9 :: vi x :: l) st H Q = R d m is (a0 :: a1 :: a2 :: a3 :: a4 :: a5 :: a6 :: a7 :: a8 :: a9 :: vi x :: l) (vi x :: st) H Q := sorry
theorem r_ld10vl {a0 a1 a2 a3 a4 a5 a6 a7 a8 a9 : AV} {x : Int} {l : List AV} : R d m (x_ldl 10 :: is) (a0 :: a1 :: a2 :: a3 :: a4 :: a5 :: a6 :: a7 :: a8 :: a9 :: vl x :: l) st H Q = R d m is (a0 :: a1 :: a2 :: a3 :: a4 :: a5 :: a6 :: a7 :: a8 :: a9 :: vl x :: l) (vl x :: st) H Q := sorry
theorem r_ld10va {a0 a1 a2 a3 a4 a5 a6 a7 a8 a9 : AV} {x : Int} {l : List AV} : R d m (x_lda 10 :: is) (a0 :: a1 :: a2 :: a3 :: a4 :: a5 :: a6 :: a7 :: a8 :: a9 :: va x :: l) st H Q = R d m is (a0 :: a1 :: a2 :: a3 :: a4 :: a5 :: a6 :: a7 :: a8 :: a9 :: va x :: l) (va x :: st) H Q := sorry
theorem r_ld11vi {a0 a1 a2 a3 a4 a5 a6 a7 a8 a9 a10 : AV} {x : Int} {l : List AV} : R d m (x_ldi 11 :: is) (a0 :: a1 :: a2 :: a3 :: a4 :: a5 :: a6 :: a7 :: a8 :: a9 :: a10 :: vi x :: l) st H Q = R d m is (a0 :: a1 :: a2 :: a3 :: a4 :: a5 :: a6 :: a7 :: a8 :: a9 :: a10 :: vi x :: l) (vi x :: st) H Q := sorry
theorem r_ld11vl {a0 a1 a2 a3 a4 a5 a6 a7 a8 a9 a10 : AV} {x : Int} {l : List AV} : R d m (x_ldl 11 :: is) (a0 :: a1 :: a2 :: a3 :: a4 :: a5 :: a6 :: a7 :: a8 :: a9 :: a10 :: vl x :: l) st H Q = R d m is (a0 :: a1 :: a2 :: a3 :: a4 :: a5 :: a6 :: a7 :: a8 :: a9 :: a10 :: vl x :: l) (vl x :: st) H Q := sorry
theorem r_ld11va {a0 a1 a2 a3 a4 a5 a6 a7 a8 a9 a10 : AV} {x : Int} {l : List AV} : R d m (x_lda 11 :: is) (a0 :: a1 :: a2 :: a3 :: a4 :: a5 :: a6 :: a7 :: a8 :: a9 :: a10 :: va x :: l) st H Q = R d m is (a0 :: a1 :: a2 :: a3 :: a4 :: a5 :: a6 :: a7 :: a8 :: a9 :: a10 :: va x :: l) (va x :: st) H Q := sorry
theorem r_ld12vi {a0 a1 a2 a3 a4 a5 a6 a7 a8 a9 a10 a11 : AV} {x : Int} {l : List AV} : R d m (x_ldi 12 :: is) (a0 :: a1 :: a2 :: a3 :: a4 :: a5 :: a6 :: a7 :: a8 :: a9 :: a10 :: a11 :: vi x :: l) st H Q = R d m is (a0 :: a1 :: a2 :: a3 :: a4 :: a5 :: a6 :: a7 :: a8 :: a9 :: a10 :: a11 :: vi x :: l) (vi x :: st) H Q := sorry
theorem r_ld12vl {a0 a1 a2 a3 a4 a5 a6 a7 a8 a9 a10 a11 : AV} {x : Int} {l : List AV} : R d m (x_ldl 12 :: is) (a0 :: a1 :: a2 :: a3 :: a4 :: a5 :: a6 :: a7 :: a8 :: a9 :: a10 :: a11 :: vl x :: l) st H Q = R d m is (a0 :: a1 :: a2 :: a3 :: a4 :: a5 :: a6 :: a7 :: a8 :: a9 :: a10 :: a11 :: vl x :: l) (vl x :: st) H Q := sorry
theorem r_ld12va {a0 a1 a2 a3 a4 a5 a6 a7 a8 a9 a10 a11 : AV} {x : Int} {l : List AV} : R d m (x_lda 12 :: is) (a0 :: a1 :: a2 :: a3 :: a4 :: a5 :: a6 :: a7 :: a8 :: a9 :: a10 :: a11 :: va x :: l) st H Q = R d m is (a0 :: a1 :: a2 :: a3 :: a4 :: a5 :: a6 :: a7 :: a8 :: a9 :: a10 :: a11 :: va x :: l) (va x :: st) H Q := sorry
theorem r_ld13vi {a0 a1 a2 a3 a4 a5 a6 a7 a8 a9 a10 a11 a12 : AV} {x : Int} {l : List AV} : R d m (x_ldi 13 :: is) (a0 :: a1 :: a2 :: a3 :: a4 :: a5 :: a6 :: a7 :: a8 :: a9 :: a10 :: a11 :: a12 :: vi x :: l) st H Q = R d m is (a0 :: a1 :: a2 :: a3 :: a4 :: a5 :: a6 :: a7 :: a8 :: a9 :: a10 :: a11 :: a12 :: vi x :: l) (vi x :: st) H Q := sorry
theorem r_ld13vl {a0 a1 a2 a3 a4 a5 a6 a7 a8 a9 a10 a11 a12 : AV} {x : Int} {l : List AV} : R d m (x_ldl 13 :: is) (a0 :: a1 :: a2 :: a3 :: a4 :: a5 :: a6 :: a7 :: a8 :: a9 :: a10 :: a11 :: a12 :: vl x :: l) st H Q = R d m is (a0 :: a1 :: a2 :: a3 :: a4 :: a5 :: a6 :: a7 :: a8 :: a9 :: a10 :: a11 :: a12 :: vl x :: l) (vl x :: st) H Q := sorry
theorem r_ld13va {a0 a1 a2 a3 a4 a5 a6 a7 a8 a9 a10 a11 a12 : AV} {x : Int} {l : List AV} : R d m (x_lda 13 :: is) (a0 :: a1 :: a2 :: a3 :: a4 :: a5 :: a6 :: a7 :: a8 :: a9 :: a10 :: a11 :: a12 :: va x :: l) st H Q = R d m is (a0 :: a1 :: a2 :: a3 :: a4 :: a5 :: a6 :: a7 :: a8 :: a9 :: a10 :: a11 :: a12 :: va x :: l) (va x :: st) H Q := sorry
theorem r_ld14vi {a0 a1 a2 a3 a4 a5 a6 a7 a8 a9 a10 a11 a12 a13 : AV} {x : Int} {l : List AV} : R d m (x_ldi 14 :: is) (a0 :: a1 :: a2 :: a3 :: a4 :: a5 :: a6 :: a7 :: a8 :: a9 :: a10 :: a11 :: a12 :: a13 :: vi x :: l) st H Q = R d m is (a0 :: a1 :: a2 :: a3 :: a4 :: a5 :: a6 :: a7 :: a8 :: a9 :: a10 :: a11 :: a12 :: a13 :: vi x :: l) (vi x :: st) H Q := sorry
theorem r_ld14vl {a0 a1 a2 a3 a4 a5 a6 a7 a8 a9 a10 a11 a12 a13 : AV} {x : Int} {l : List AV} : R d m (x_ldl 14 :: is) (a0 :: a1 :: a2 :: a3 :: a4 :: a5 :: a6 :: a7 :: a8 :: a9 :: a10 :: a11 :: a12 :: a13 :: vl x :: l) st H Q = R d m is (a0 :: a1 :: a2 :: a3 :: a4 :: a5 :: a6 :: a7 :: a8 :: a9 :: a10 :: a11 :: a12 :: a13 :: vl x :: l) (vl x :: st) H Q := sorry
theorem r_ld14va {a0 a1 a2 a3 a4 a5 a6 a7 a8 a9 a10 a11 a12 a13 : AV} {x : Int} {l : List AV} : R d m (x_lda 14 :: is) (a0 :: a1 :: a2 :: a3 :: a4 :: a5 :: a6 :: a7 :: a8 :: a9 :: a10 :: a11 :: a12 :: a13 :: va x :: l) st H Q = R d m is (a0 :: a1 :: a2 :: a3 :: a4 :: a5 :: a6 :: a7 :: a8 :: a9 :: a10 :: a11 :: a12 :: a13 :: va x :: l) (va x :: st) H Q := sorry
theorem r_ld15vi {a0 a1 a2 a3 a4 a5 a6 a7 a8 a9 a10 a11 a12 a13 a14 : AV} {x : Int} {l : List AV} : R d m (x_ldi 15 :: is) (a0 :: a1 :: a2 :: a3 :: a4 :: a5 :: a6 :: a7 :: a8 :: a9 :: a10 :: a11 :: a12 :: a13 :: a14 :: vi x :: l) st H Q = R d m is (a0 :: a1 :: a2 :: a3 :: a4 :: a5 :: a6 :: a7 :: a8 :: a9 :: a10 :: a11 :: a12 :: a13 :: a14 :: vi x :: l) (vi x :: st) H Q := sorry
theorem r_ld15vl {a0 a1 a2 a3 a4 a5 a6 a7 a8 a9 a10 a11 a12 a13 a14 : AV} {x : Int} {l : List AV} : R d m (x_ldl 15 :: is) (a0 :: a1 :: a2 :: a3 :: a4 :: a5 :: a6 :: a7 :: a8 :: a9 :: a10 :: a11 :: a12 :: a13 :: a14 :: vl x :: l) st H Q = R d m is (a0 :: a1 :: a2 :: a3 :: a4 :: a5 :: a6 :: a7 :: a8 :: a9 :: a10 :: a11 :: a12 :: a13 :: a14 :: vl x :: l) (vl x :: st) H Q := sorry
theorem r_ld15va {a0 a1 a2 a3 a4 a5 a6 a7 a8 a9 a10 a11 a12 a13 a14 : AV} {x : Int} {l : List AV} : R d m (x_lda 15 :: is) (a0 :: a1 :: a2 :: a3 :: a4 :: a5 :: a6 :: a7 :: a8 :: a9 :: a10 :: a11 :: a12 :: a13 :: a14 :: va x :: l) st H Q = R d m is (a0 :: a1 :: a2 :: a3 :: a4 :: a5 :: a6 :: a7 :: a8 :: a9 :: a10 :: a11 :: a12 :: a13 :: a14 :: va x :: l) (va x :: st) H Q := sorry
theorem r_ld16vi {a0 a1 a2 a3 a4 a5 a6 a7 a8 a9 a10 a11 a12 a13 a14 a15 : AV} {x : Int} {l : List AV} : R d m (x_ldi 16 :: is) (a0 :: a1 :: a2 :: a3 :: a4 :: a5 :: a6 :: a7 :: a8 :: a9 :: a10 :: a11 :: a12 :: a13 :: a14 :: a15 :: vi x :: l) st H Q = R d m is (a0 :: a1 :: a2 :: a3 :: a4 :: a5 :: a6 :: a7 :: a8 :: a9 :: a10 :: a11 :: a12 :: a13 :: a14 :: a15 :: vi x :: l) (vi x :: st) H Q := sorry
theorem r_ld16vl {a0 a1 a2 a3 a4 a5 a6 a7 a8 a9 a10 a11 a12 a13 a14 a15 : AV} {x : Int} {l : List AV} : R d m (x_ldl 16 :: is) (a0 :: a1 :: a2 :: a3 :: a4 :: a5 :: a6 :: a7 :: a8 :: a9 :: a10 :: a11 :: a12 :: a13 :: a14 :: a15 :: vl x :: l) st H Q = R d m is (a0 :: a1 :: a2 :: a3 :: a4 :: a5 :: a6 :: a7 :: a8 :: a9 :: a10 :: a11 :: a12 :: a13 :: a14 :: a15 :: vl x :: l) (vl x :: st) H Q := sorry
theorem r_ld16va {a0 a1 a2 a3 a4 a5 a6 a7 a8 a9 a10 a11 a12 a13 a14 a15 : AV} {x : Int} {l : List AV} : R d m (x_lda 16 :: is) (a0 :: a1 :: a2 :: a3 :: a4 :: a5 :: a6 :: a7 :: a8 :: a9 :: a10 :: a11 :: a12 :: a13 :: a14 :: a15 :: va x :: l) st H Q = R d m is (a0 :: a1 :: a2 :: a3 :: a4 :: a5 :: a6 :: a7 :: a8 :: a9 :: a10 :: a11 :: a12 :: a13 :: a14 :: a15 :: va x :: l) (va x :: st) H Q := sorry
theorem r_ld17vi {a0 a1 a2 a3 a4 a5 a6 a7 a8 a9 a10 a11 a12 a13 a14 a15 a16 : AV} {x : Int} {l : List AV} : R d m (x_ldi 17 :: is) (a0 :: a1 :: a2 :: a3 :: a4 :: a5 :: a6 :: a7 :: a8 :: a9 :: a10 :: a11 :: a12 :: a13 :: a14 :: a15 :: a16 :: vi x :: l) st H Q = R d m is (a0 :: a1 :: a2 :: a3 :: a4 :: a5 :: a6 :: a7 :: a8 :: a9 :: a10 :: a11 :: a12 :: a13 :: a14 :: a15 :: a16 :: vi x :: l) (vi x :: st) H Q := sorry
theorem r_ld17vl {a0 a1 a2 a3 a4 a5 a6 a7 a8 a9 a10 a11 a12 a13 a14 a15 a16 : AV} {x : Int} {l : List AV} : R d m (x_ldl 17 :: is) (a0 :: a1 :: a2 :: a3 :: a4 :: a5 :: a6 :: a7 :: a8 :: a9 :: a10 :: a11 :: a12 :: a13 :: a14 :: a15 :: a16 :: vl x :: l) st H Q = R d m is (a0 :: a1 :: a2 :: a3 :: a4 :: a5 :: a6 :: a7 :: a8 :: a9 :: a10 :: a11 :: a12 :: a13 :: a14 :: a15 :: a16 :: vl x :: l) (vl x :: st) H Q := sorry
theorem r_ld17va {a0 a1 a2 a3 a4 a5 a6 a7 a8 a9 a10 a11 a12 a13 a14 a15 a16 : AV} {x : Int} {l : List AV} : R d m (x_lda 17 :: is) (a0 :: a1 :: a2 :: a3 :: a4 :: a5 :: a6 :: a7 :: a8 :: a9 :: a10 :: a11 :: a12 :: a13 :: a14 :: a15 :: a16 :: va x :: l) st H Q = R d m is (a0 :: a1 :: a2 :: a3 :: a4 :: a5 :: a6 :: a7 :: a8 :: a9 :: a10 :: a11 :: a12 :: a13 :: a14 :: a15 :: a16 :: va x :: l) (va x :: st) H Q := sorry
theorem lt_of_dec {a b : Nat} (h : a < b) {α : Type} {x y : α} : (if a < b then x else y) = x := if_pos h
theorem r_s1i {n : Nat} {x : Int} : R d m (x_s1i n :: is) ls (vi x :: st) H Q = (n < ls.length ∧ R d m is (lst1 ls n (vi x)) st H Q) := sorry
theorem r_s1a {n : Nat} {x : Int} : R d m (x_s1a n :: is) ls (va x :: st) H Q = (n < ls.length ∧ R d m is (lst1 ls n (va x)) st H Q) := sorry
theorem r_s2 {n : Nat} {x : Int} : R d m (x_s2 n :: is) ls (vl x :: st) H Q = (n + 1 < ls.length ∧ R d m is (lst2 ls n (vl x)) st H Q) := sorry
theorem r_inc0 {x z : Int} {l : List AV} : R d m (x_inc 0 z :: is) (vi x :: l) st H Q = (0 < (vi x :: l).length ∧ R d m is (lst1 (vi x :: l) 0 (vi (w32 (x + z)))) st H Q) := sorry
theorem r_inc1 {a0 : AV} {x z : Int} {l : List AV} : R d m (x_inc 1 z :: is) (a0 :: vi x :: l) st H Q = (1 < (a0 :: vi x :: l).length ∧ R d m is (lst1 (a0 :: vi x :: l) 1 (vi (w32 (x + z)))) st H Q) := sorry
theorem r_inc2 {a0 a1 : AV} {x z : Int} {l : List AV} : R d m (x_inc 2 z :: is) (a0 :: a1 :: vi x :: l) st H Q = (2 < (a0 :: a1 :: vi x :: l).length ∧ R d m is (lst1 (a0 :: a1 :: vi x :: l) 2 (vi (w32 (x + z)))) st H Q) := sorry
theorem r_inc3 {a0 a1 a2 : AV} {x z : Int} {l : List AV} : R d m (x_inc 3 z :: is) (a0 :: a1 :: a2 :: vi x :: l) st H Q = (3 < (a0 :: a1 :: a2 :: vi x :: l).length ∧ R d m is (lst1 (a0 :: a1 :: a2 :: vi x :: l) 3 (vi (w32 (x + z)))) st H Q) := sorry
theorem r_inc4 {a0 a1 a2 a3 : AV} {x z : Int} {l : List AV} : R d m (x_inc 4 z :: is) (a0 :: a1 :: a2 :: a3 :: vi x :: l) st H Q = (4 < (a0 :: a1 :: a2 :: a3 :: vi x :: l).length ∧ R d m is (lst1 (a0 :: a1 :: a2 :: a3 :: vi x :: l) 4 (vi (w32 (x + z)))) st H Q) := sorry
theorem r_inc5 {a0 a1 a2 a3 a4 : AV} {x z : Int} {l : List AV} : R d m (x_inc 5 z :: is) (a0 :: a1 :: a2 :: a3 :: a4 :: vi x :: l) st H Q = (5 < (a0 :: a1 :: a2 :: a3 :: a4 :: vi x :: l).length ∧ R d m is (lst1 (a0 :: a1 :: a2 :: a3 :: a4 :: vi x :: l) 5 (vi (w32 (x + z)))) st H Q) := sorry
theorem r_inc6 {a0 a1 a2 a3 a4 a5 : AV} {x z : Int} {l : List AV} : R d m (x_inc 6 z :: is) (a0 :: a1 :: a2 :: a3 :: a4 :: a5 :: vi x :: l) st H Q = (6 < (a0 :: a1 :: a2 :: a3 :: a4 :: a5 :: vi x :: l).length ∧ R d m is (lst1 (a0 :: a1 :: a2 :: a3 :: a4 :: a5 :: vi x :: l) 6 (vi (w32 (x + z)))) st H Q) := sorry
theorem r_inc7 {a0 a1 a2 a3 a4 a5 a6 : AV} {x z : Int} {l : List AV} : R d m (x_inc 7 z :: is) (a0 :: a1 :: a2 :: a3 :: a4 :: a5 :: a6 :: vi x :: l) st H Q = (7 < (a0 :: a1 :: a2 :: a3 :: a4 :: a5 :: a6 :: vi x :: l).length ∧ R d m is (lst1 (a0 :: a1 :: a2 :: a3 :: a4 :: a5 :: a6 :: vi x :: l) 7 (vi (w32 (x + z)))) st H Q) := sorry
theorem r_inc8 {a0 a1 a2 a3 a4 a5 a6 a7 : AV} {x z : Int} {l : List AV} : R d m (x_inc 8 z :: is) (a0 :: a1 :: a2 :: a3 :: a4 :: a5 :: a6 :: a7 :: vi x :: l) st H Q = (8 < (a0 :: a1 :: a2 :: a3 :: a4 :: a5 :: a6 :: a7 :: vi x :: l).length ∧ R d m is (lst1 (a0 :: a1 :: a2 :: a3 :: a4 :: a5 :: a6 :: a7 :: vi x :: l) 8 (vi (w32 (x + z)))) st H Q) := sorry
theorem r_inc9 {a0 a1 a2 a3 a4 a5 a6 a7 a8 : AV} {x z : Int} {l : List AV} : R d m (x_inc 9 z :: is) (a0 :: a1 :: a2 :: a3 :: a4 :: a5 :: a6 :: a7 :: a8 :: vi x :: l) st H Q = (9 < (a0 :: a1 :: a2 :: a3 :: a4 :: a5 :: a6 :: a7 :: a8 :: vi x :: l).length ∧ R d m is (lst1 (a0 :: a1 :: a2 :: a3 :: a4 :: a5 :: a6 :: a7 :: a8 :: vi x :: l) 9 (vi (w32 (x + z)))) st H Q) := sorry
theorem r_inc10 {a0 a1 a2 a3 a4 a5 a6 a7 a8 a9 : AV} {x z : Int} {l : List AV} : R d m (x_inc 10 z :: is) (a0 :: a1 :: a2 :: a3 :: a4 :: a5 :: a6 :: a7 :: a8 :: a9 :: vi x :: l) st H Q = (10 < (a0 :: a1 :: a2 :: a3 :: a4 :: a5 :: a6 :: a7 :: a8 :: a9 :: vi x :: l).length ∧ R d m is (lst1 (a0 :: a1 :: a2 :: a3 :: a4 :: a5 :: a6 :: a7 :: a8 :: a9 :: vi x :: l) 10 (vi (w32 (x + z)))) st H Q) := sorry
theorem r_inc11 {a0 a1 a2 a3 a4 a5 a6 a7 a8 a9 a10 : AV} {x z : Int} {l : List AV} : R d m (x_inc 11 z :: is) (a0 :: a1 :: a2 :: a3 :: a4 :: a5 :: a6 :: a7 :: a8 :: a9 :: a10 :: vi x :: l) st H Q = (11 < (a0 :: a1 :: a2 :: a3 :: a4 :: a5 :: a6 :: a7 :: a8 :: a9 :: a10 :: vi x :: l).length ∧ R d m is (lst1 (a0 :: a1 :: a2 :: a3 :: a4 :: a5 :: a6 :: a7 :: a8 :: a9 :: a10 :: vi x :: l) 11 (vi (w32 (x + z)))) st H Q) := sorry
theorem r_inc12 {a0 a1 a2 a3 a4 a5 a6 a7 a8 a9 a10 a11 : AV} {x z : Int} {l : List AV} : R d m (x_inc 12 z :: is) (a0 :: a1 :: a2 :: a3 :: a4 :: a5 :: a6 :: a7 :: a8 :: a9 :: a10 :: a11 :: vi x :: l) st H Q = (12 < (a0 :: a1 :: a2 :: a3 :: a4 :: a5 :: a6 :: a7 :: a8 :: a9 :: a10 :: a11 :: vi x :: l).length ∧ R d m is (lst1 (a0 :: a1 :: a2 :: a3 :: a4 :: a5 :: a6 :: a7 :: a8 :: a9 :: a10 :: a11 :: vi x :: l) 12 (vi (w32 (x + z)))) st H Q) := sorry
theorem r_inc13 {a0 a1 a2 a3 a4 a5 a6 a7 a8 a9 a10 a11 a12 : AV} {x z : Int} {l : List AV} : R d m (x_inc 13 z :: is) (a0 :: a1 :: a2 :: a3 :: a4 :: a5 :: a6 :: a7 :: a8 :: a9 :: a10 :: a11 :: a12 :: vi x :: l) st H Q = (13 < (a0 :: a1 :: a2 :: a3 :: a4 :: a5 :: a6 :: a7 :: a8 :: a9 :: a10 :: a11 :: a12 :: vi x :: l).length ∧ R d m is (lst1 (a0 :: a1 :: a2 :: a3 :: a4 :: a5 :: a6 :: a7 :: a8 :: a9 :: a10 :: a11 :: a12 :: vi x :: l) 13 (vi (w32 (x + z)))) st H Q) := sorry
theorem r_inc14 {a0 a1 a2 a3 a4 a5 a6 a7 a8 a9 a10 a11 a12 a13 : AV} {x z : Int} {l : List AV} : R d m (x_inc 14 z :: is) (a0 :: a1 :: a2 :: a3 :: a4 :: a5 :: a6 :: a7 :: a8 :: a9 :: a10 :: a11 :: a12 :: a13 :: vi x :: l) st H Q = (14 < (a0 :: a1 :: a2 :: a3 :: a4 :: a5 :: a6 :: a7 :: a8 :: a9 :: a10 :: a11 :: a12 :: a13 :: vi x :: l).length ∧ R d m is (lst1 (a0 :: a1 :: a2 :: a3 :: a4 :: a5 :: a6 :: a7 :: a8 :: a9 :: a10 :: a11 :: a12 :: a13 :: vi x :: l) 14 (vi (w32 (x + z)))) st H Q) := sorry
theorem r_inc15 {a0 a1 a2 a3 a4 a5 a6 a7 a8 a9 a10 a11 a12 a13 a14 : AV} {x z : Int} {l : List AV} : R d m (x_inc 15 z :: is) (a0 :: a1 :: a2 :: a3 :: a4 :: a5 :: a6 :: a7 :: a8 :: a9 :: a10 :: a11 :: a12 :: a13 :: a14 :: vi x :: l) st H Q = (15 < (a0 :: a1 :: a2 :: a3 :: a4 :: a5 :: a6 :: a7 :: a8 :: a9 :: a10 :: a11 :: a12 :: a13 :: a14 :: vi x :: l).length ∧ R d m is (lst1 (a0 :: a1 :: a2 :: a3 :: a4 :: a5 :: a6 :: a7 :: a8 :: a9 :: a10 :: a11 :: a12 :: a13 :: a14 :: vi x :: l) 15 (vi (w32 (x + z)))) st H Q) := sorry
theorem r_inc16 {a0 a1 a2 a3 a4 a5 a6 a7 a8 a9 a10 a11 a12 a13 a14 a15 : AV} {x z : Int} {l : List AV} : R d m (x_inc 16 z :: is) (a0 :: a1 :: a2 :: a3 :: a4 :: a5 :: a6 :: a7 :: a8 :: a9 :: a10 :: a11 :: a12 :: a13 :: a14 :: a15 :: vi x :: l) st H Q = (16 < (a0 :: a1 :: a2 :: a3 :: a4 :: a5 :: a6 :: a7 :: a8 :: a9 :: a10 :: a11 :: a12 :: a13 :: a14 :: a15 :: vi x :: l).length ∧ R d m is (lst1 (a0 :: a1 :: a2 :: a3 :: a4 :: a5 :: a6 :: a7 :: a8 :: a9 :: a10 :: a11 :: a12 :: a13 :: a14 :: a15 :: vi x :: l) 16 (vi (w32 (x + z)))) st H Q) := sorry
theorem r_inc17 {a0 a1 a2 a3 a4 a5 a6 a7 a8 a9 a10 a11 a12 a13 a14 a15 a16 : AV} {x z : Int} {l : List AV} : R d m (x_inc 17 z :: is) (a0 :: a1 :: a2 :: a3 :: a4 :: a5 :: a6 :: a7 :: a8 :: a9 :: a10 :: a11 :: a12 :: a13 :: a14 :: a15 :: a16 :: vi x :: l) st H Q = (17 < (a0 :: a1 :: a2 :: a3 :: a4 :: a5 :: a6 :: a7 :: a8 :: a9 :: a10 :: a11 :: a12 :: a13 :: a14 :: a15 :: a16 :: vi x :: l).length ∧ R d m is (lst1 (a0 :: a1 :: a2 :: a3 :: a4 :: a5 :: a6 :: a7 :: a8 :: a9 :: a10 :: a11 :: a12 :: a13 :: a14 :: a15 :: a16 :: vi x :: l) 17 (vi (w32 (x + z)))) st H Q) := sorry
theorem r_iadd {x y : Int} : R d m (x_iadd :: is) ls (vi y :: vi x :: st) H Q = R d m is ls (vi (w32 (x + y)) :: st) (H) Q := sorry
theorem r_isub {x y : Int} : R d m (x_isub :: is) ls (vi y :: vi x :: st) H Q = R d m is ls (vi (w32 (x - y)) :: st) (H) Q := sorry
theorem r_imul {x y : Int} : R d m (x_imul :: is) ls (vi y :: vi x :: st) H Q = R d m is ls (vi (w32 (x * y)) :: st) (H) Q := sorry
theorem r_iand {x y : Int} : R d m (x_iand :: is) ls (vi y :: vi x :: st) H Q = R d m is ls (vi (b_and x y) :: st) (H) Q := sorry
theorem r_ior {x y : Int} : R d m (x_ior :: is) ls (vi y :: vi x :: st) H Q = R d m is ls (vi (b_or x y) :: st) (H) Q := sorry
theorem r_ixor {x y : Int} : R d m (x_ixor :: is) ls (vi y :: vi x :: st) H Q = R d m is ls (vi (b_xor x y) :: st) (H) Q := sorry
theorem r_ishl {x y : Int} : R d m (x_ishl :: is) ls (vi y :: vi x :: st) H Q = R d m is ls (vi (b_shl x y) :: st) (H) Q := sorry
theorem r_ishr {x y : Int} : R d m (x_ishr :: is) ls (vi y :: vi x :: st) H Q = R d m is ls (vi (b_shr x y) :: st) (H) Q := sorry
theorem r_iushr {x y : Int} : R d m (x_iushr :: is) ls (vi y :: vi x :: st) H Q = R d m is ls (vi (b_ushr x y) :: st) (H) Q := sorry
theorem r_ladd {x y : Int} : R d m (x_ladd :: is) ls (vl y :: vl x :: st) H Q = R d m is ls (vl (w64 (x + y)) :: st) (H) Q := sorry
theorem r_lsub {x y : Int} : R d m (x_lsub :: is) ls (vl y :: vl x :: st) H Q = R d m is ls (vl (w64 (x - y)) :: st) (H) Q := sorry
theorem r_lmul {x y : Int} : R d m (x_lmul :: is) ls (vl y :: vl x :: st) H Q = R d m is ls (vl (w64 (x * y)) :: st) (H) Q := sorry
theorem r_land {x y : Int} : R d m (x_land :: is) ls (vl y :: vl x :: st) H Q = R d m is ls (vl (l_and x y) :: st) (H) Q := sorry
theorem r_lor {x y : Int} : R d m (x_lor :: is) ls (vl y :: vl x :: st) H Q = R d m is ls (vl (l_or x y) :: st) (H) Q := sorry
theorem r_lxor {x y : Int} : R d m (x_lxor :: is) ls (vl y :: vl x :: st) H Q = R d m is ls (vl (l_xor x y) :: st) (H) Q := sorry
theorem r_lshl {x y : Int} : R d m (x_lshl :: is) ls (vi y :: vl x :: st) H Q = R d m is ls (vl (l_shl x y) :: st) (H) Q := sorry
theorem r_lshr {x y : Int} : R d m (x_lshr :: is) ls (vi y :: vl x :: st) H Q = R d m is ls (vl (l_shr x y) :: st) (H) Q := sorry
theorem r_idiv {x y : Int} : R d m (x_idiv :: is) ls (vi y :: vi x :: st) H Q = ((y ≠ 0) ∧ R d m is ls (vi (w32 (Int.tdiv x y)) :: st) (H) Q) := sorry
theorem r_irem {x y : Int} : R d m (x_irem :: is) ls (vi y :: vi x :: st) H Q = ((y ≠ 0) ∧ R d m is ls (vi (w32 (Int.tmod x y)) :: st) (H) Q) := sorry
theorem r_ldiv {x y : Int} : R d m (x_ldiv :: is) ls (vl y :: vl x :: st) H Q = ((y ≠ 0) ∧ R d m is ls (vl (w64 (Int.tdiv x y)) :: st) (H) Q) := sorry
theorem r_lrem {x y : Int} : R d m (x_lrem :: is) ls (vl y :: vl x :: st) H Q = ((y ≠ 0) ∧ R d m is ls (vl (w64 (Int.tmod x y)) :: st) (H) Q) := sorry
theorem r_ineg {x : Int} : R d m (x_ineg :: is) ls (vi x :: st) H Q = R d m is ls (vi (w32 (-x)) :: st) (H) Q := sorry
theorem r_lneg {x : Int} : R d m (x_lneg :: is) ls (vl x :: st) H Q = R d m is ls (vl (w64 (-x)) :: st) (H) Q := sorry
theorem r_i2l {x : Int} : R d m (x_i2l :: is) ls (vi x :: st) H Q = R d m is ls (vl x :: st) (H) Q := sorry
theorem r_l2i {x : Int} : R d m (x_l2i :: is) ls (vl x :: st) H Q = R d m is ls (vi (w32 x) :: st) (H) Q := sorry
theorem r_i2b {x : Int} : R d m (x_i2b :: is) ls (vi x :: st) H Q = R d m is ls (vi (w8 x) :: st) (H) Q := sorry
theorem r_i2c {x : Int} : R d m (x_i2c :: is) ls (vi x :: st) H Q = R d m is ls (vi (w16u x) :: st) (H) Q := sorry
theorem r_lcmp {x y : Int} : R d m (x_lcmp :: is) ls (vl y :: vl x :: st) H Q = R d m is ls (vi (cmp3 x y) :: st) (H) Q := sorry
theorem r_ifeq {n : Nat} {x : Int} : R d m (x_ifeq n :: is) ls (vi x :: st) H Q = if x = 0 then R d m (blk m n) ls st H Q else R d m is ls st H Q := sorry
theorem r_iceq {n : Nat} {x y : Int} : R d m (x_iceq n :: is) ls (vi y :: vi x :: st) H Q = if x = y then R d m (blk m n) ls st H Q else R d m is ls st H Q := sorry
theorem r_ifne {n : Nat} {x : Int} : R d m (x_ifne n :: is) ls (vi x :: st) H Q = if x ≠ 0 then R d m (blk m n) ls st H Q else R d m is ls st H Q := sorry
theorem r_icne {n : Nat} {x y : Int} : R d m (x_icne n :: is) ls (vi y :: vi x :: st) H Q = if x ≠ y then R d m (blk m n) ls st H Q else R d m is ls st H Q := sorry
theorem r_iflt {n : Nat} {x : Int} : R d m (x_iflt n :: is) ls (vi x :: st) H Q = if x < 0 then R d m (blk m n) ls st H Q else R d m is ls st H Q := sorry
theorem r_iclt {n : Nat} {x y : Int} : R d m (x_iclt n :: is) ls (vi y :: vi x :: st) H Q = if x < y then R d m (blk m n) ls st H Q else R d m is ls st H Q := sorry
theorem r_ifge {n : Nat} {x : Int} : R d m (x_ifge n :: is) ls (vi x :: st) H Q = if 0 ≤ x then R d m (blk m n) ls st H Q else R d m is ls st H Q := sorry
theorem r_icge {n : Nat} {x y : Int} : R d m (x_icge n :: is) ls (vi y :: vi x :: st) H Q = if y ≤ x then R d m (blk m n) ls st H Q else R d m is ls st H Q := sorry
theorem r_ifgt {n : Nat} {x : Int} : R d m (x_ifgt n :: is) ls (vi x :: st) H Q = if 0 < x then R d m (blk m n) ls st H Q else R d m is ls st H Q := sorry
theorem r_icgt {n : Nat} {x y : Int} : R d m (x_icgt n :: is) ls (vi y :: vi x :: st) H Q = if y < x then R d m (blk m n) ls st H Q else R d m is ls st H Q := sorry
theorem r_ifle {n : Nat} {x : Int} : R d m (x_ifle n :: is) ls (vi x :: st) H Q = if x ≤ 0 then R d m (blk m n) ls st H Q else R d m is ls st H Q := sorry
theorem r_icle {n : Nat} {x y : Int} : R d m (x_icle n :: is) ls (vi y :: vi x :: st) H Q = if x ≤ y then R d m (blk m n) ls st H Q else R d m is ls st H Q := sorry
theorem r_go {n : Nat} : R d m (x_go n :: is) ls st H Q = R d m (blk m n) ls st H Q := sorry
theorem r_fall {n : Nat} : R d m (x_fall n :: is) ls st H Q = R d m (blk m n) ls st H Q := sorry
theorem r_gi {k e c : Int} : R d m (x_gi k e :: is) ls (va c :: st) H Q = ((shc c = e) ∧ R d m is ls (vi (H c k) :: st) (H) Q) := sorry
theorem r_gl {k e c : Int} : R d m (x_gl k e :: is) ls (va c :: st) H Q = ((shc c = e) ∧ R d m is ls (vl (H c k) :: st) (H) Q) := sorry
theorem r_ga {k e c : Int} : R d m (x_ga k e :: is) ls (va c :: st) H Q = ((shc c = e) ∧ R d m is ls (va (H c k) :: st) (H) Q) := sorry
theorem r_pi {k e c x : Int} : R d m (x_pi k e :: is) ls (vi x :: va c :: st) H Q = ((shc c = e) ∧ R d m is ls (st) (hs H c k x) Q) := sorry
theorem r_pl {k e c x : Int} : R d m (x_pl k e :: is) ls (vl x :: va c :: st) H Q = ((shc c = e) ∧ R d m is ls (st) (hs H c k x) Q) := sorry
theorem r_pa {k e c x : Int} : R d m (x_pa k e :: is) ls (va x :: va c :: st) H Q = ((shc c = e) ∧ R d m is ls (st) (hs H c k x) Q) := sorry
theorem r_pz {k e c x : Int} : R d m (x_pz k e :: is) ls (vi x :: va c :: st) H Q = ((shc c = e ∧ (x = 0 ∨ x = 1)) ∧ R d m is ls (st) (hs H c k x) Q) := sorry
theorem r_ali {j c : Int} : R d m (x_ali :: is) ls (vi j :: va c :: st) H Q = ((sht c = 1 ∧ 0 ≤ j ∧ j < shl c) ∧ R d m is ls (vi (H c j) :: st) (H) Q) := sorry
theorem r_all {j c : Int} : R d m (x_all :: is) ls (vi j :: va c :: st) H Q = ((sht c = 2 ∧ 0 ≤ j ∧ j < shl c) ∧ R d m is ls (vl (H c j) :: st) (H) Q) := sorry
theorem r_alb {j c : Int} : R d m (x_alb :: is) ls (vi j :: va c :: st) H Q = ((sht c = 3 ∧ 0 ≤ j ∧ j < shl c) ∧ R d m is ls (vi (H c j) :: st) (H) Q) := sorry
theorem r_alc {j c : Int} : R d m (x_alc :: is) ls (vi j :: va c :: st) H Q = ((sht c = 4 ∧ 0 ≤ j ∧ j < shl c) ∧ R d m is ls (vi (H c j) :: st) (H) Q) := sorry
theorem r_asi {j c x : Int} : R d m (x_asi :: is) ls (vi x :: vi j :: va c :: st) H Q = ((sht c = 1 ∧ 0 ≤ j ∧ j < shl c) ∧ R d m is ls (st) (hs H c j x) Q) := sorry
theorem r_asl {j c x : Int} : R d m (x_asl :: is) ls (vl x :: vi j :: va c :: st) H Q = ((sht c = 2 ∧ 0 ≤ j ∧ j < shl c) ∧ R d m is ls (st) (hs H c j x) Q) := sorry
theorem r_asb {j c x : Int} : R d m (x_asb :: is) ls (vi x :: vi j :: va c :: st) H Q = ((sht c = 3 ∧ 0 ≤ j ∧ j < shl c) ∧ R d m is ls (st) (hs H c j (w8 x)) Q) := sorry
theorem r_asc {j c x : Int} : R d m (x_asc :: is) ls (vi x :: vi j :: va c :: st) H Q = ((sht c = 4 ∧ 0 ≤ j ∧ j < shl c) ∧ R d m is ls (st) (hs H c j (w16u x)) Q) := sorry
theorem r_len {c : Int} : R d m (x_len :: is) ls (va c :: st) H Q = ((sht c ≠ 0) ∧ R d m is ls (vi (shl c) :: st) (H) Q) := sorry
theorem r_dupi {x : Int} : R d m (x_dup :: is) ls (vi x :: st) H Q = R d m is ls (vi x :: vi x :: st) (H) Q := sorry
theorem r_dupa {x : Int} : R d m (x_dup :: is) ls (va x :: st) H Q = R d m is ls (va x :: va x :: st) (H) Q := sorry
theorem r_dup2 {x y : Int} : R d m (x_dup2 :: is) ls (vi x :: va y :: st) H Q = R d m is ls (vi x :: va y :: vi x :: va y :: st) (H) Q := sorry
theorem r_dup2l {x : Int} : R d m (x_dup2 :: is) ls (vl x :: st) H Q = R d m is ls (vl x :: vl x :: st) (H) Q := sorry
theorem r_pop {x : Int} : R d m (x_pop :: is) ls (vi x :: st) H Q = R d m is ls (st) (H) Q := sorry
theorem r_new {e : Int} : R d m (x_new e :: is) ls (st) H Q = ((shc (H 0 0 + 1) = e) ∧ R d m is ls (va (H 0 0 + 1) :: st) (hs H 0 0 (H 0 0 + 1)) Q) := sorry
theorem r_nw {t : Nat} {x : Int} : R d m (x_nw t :: is) ls (vi x :: st) H Q = ((sht (H 0 0 + 1) = t ∧ shl (H 0 0 + 1) = x) ∧ R d m is ls (va (H 0 0 + 1) :: st) (hs H 0 0 (H 0 0 + 1)) Q) := sorry
theorem r_acp {n dp e sp c : Int} : R d m (x_acp :: is) ls (vi n :: vi dp :: va e :: vi sp :: va c :: st) H Q = ((c ≠ e ∧ sht c = 1 ∧ sht e = 1 ∧ 0 ≤ n ∧ 0 ≤ dp ∧ 0 ≤ sp ∧ sp + n ≤ shl c ∧ dp + n ≤ shl e ∧ wds st ≤ 8) ∧ R d m is ls (st) (fun a b => if a = e ∧ dp ≤ b ∧ b < dp + n then H c (sp + (b - dp)) else H a b) Q) := sorry
theorem r_scl {j c : Int} : R d m (x_scl :: is) ls (vi j :: va c :: st) H Q = ((c = 999 ∧ 0 ≤ j ∧ j < H 0 1) ∧ R d m is ls (vi (H 999 j) :: st) (H) Q) := sorry
theorem r_scn {c : Int} : R d m (x_scn :: is) ls (va c :: st) H Q = ((c = 999) ∧ R d m is ls (vi (H 0 1) :: st) (H) Q) := sorry
theorem r_sln {z : Int} : R d m (x_sln :: is) ls (va z :: st) H Q = (((z = 901 ∨ z = 902) ∧ wds st ≤ 8) ∧ R d m is ls (vi ((stx z).length : Nat) :: st) (H) Q) := sorry
theorem r_sch {j z : Int} : R d m (x_sch :: is) ls (vi j :: va z :: st) H Q = (((z = 901 ∨ z = 902) ∧ 0 ≤ j ∧ j < ((stx z).length : Nat) ∧ wds st ≤ 8) ∧ R d m is ls (vi ((stx z).getD j.toNat 0) :: st) (H) Q) := sorry
theorem r_obj {x : Int} : R d m (x_obj :: is) ls (va x :: st) H Q = ((x ≠ 0 ∧ wds st ≤ 8) ∧ R d m is ls (st) (H) Q) := sorry
theorem r_ret : R d m (x_ret :: is) ls [] H Q = Q vu H := sorry
theorem r_ri {x : Int} : R d m (x_ri :: is) ls [vi x] H Q = Q (vi x) H := sorry
theorem r_rl {x : Int} : R d m (x_rl :: is) ls [vl x] H Q = Q (vl x) H := sorry
theorem r_rz {x : Int} : R d m (x_rz :: is) ls [vi x] H Q = ((x = 0 ∨ x = 1) ∧ Q (vi x) H) := by
  by_cases hc : x = 0 ∨ x = 1
  · rw [R_end (is := x_rz :: is) (ls := ls) (st := [vi x]) (H := H) (r := vi x) (H' := H) (fun n => (show ex (n + 1) d m (x_rz :: is) ls [vi x] H = if x = 0 ∨ x = 1 then some (vi x, H) else none from rfl).trans (if_pos hc))]
    exact propext ⟨fun q => ⟨hc, q⟩, fun q => q.2⟩
  · rw [R_no (is := x_rz :: is) (ls := ls) (st := [vi x]) (H := H) (fun n => (show ex (n + 1) d m (x_rz :: is) ls [vi x] H = if x = 0 ∨ x = 1 then some (vi x, H) else none from rfl).trans (if_neg hc))]
    exact propext ⟨fun q => q.elim, fun q => hc q.1⟩
/-- a switch -/
def RSW (d m : Nat) (ls st : List AV) (H : Hp) (Q : AV → Hp → Prop) (x : Int) (n : Nat) : List (Int × Nat) → Prop
  | [] => R d m (blk m n) ls st H Q
  | q :: l => if x = q.1 then R d m (blk m q.2) ls st H Q else RSW d m ls st H Q x n l
theorem RSW_eq {x : Int} {n : Nat} : ∀ l : List (Int × Nat), R d m (blk m (swl x n l)) ls st H Q = RSW d m ls st H Q x n l
  | [] => rfl
  | q :: l => by
    unfold swl RSW
    by_cases hx : x = q.1
    · rw [if_pos hx, if_pos hx]
    · rw [if_neg hx, if_neg hx]; exact RSW_eq l
theorem RSW_n {x : Int} {n : Nat} : RSW d m ls st H Q x n [] = R d m (blk m n) ls st H Q := rfl
theorem RSW_c {x a : Int} {n k : Nat} {l : List (Int × Nat)} : RSW d m ls st H Q x n ((a, k) :: l) = if x = a then R d m (blk m k) ls st H Q else RSW d m ls st H Q x n l := rfl
theorem r_sw {x : Int} {n : Nat} {q : List (Int × Nat)} : R d m (x_sw n q :: is) ls (vi x :: st) H Q = RSW d m ls st H Q x n q := (R_st (fun _ => rfl)).trans (RSW_eq q)
theorem r_lsw {x : Int} {n : Nat} {q : List (Int × Nat)} : R d m (x_lsw n q :: is) ls (vi x :: st) H Q = RSW d m ls st H Q x n q := (R_st (fun _ => rfl)).trans (RSW_eq q)
theorem r_call {c z : Nat} : R (d + 1) m (x_call c z :: is) ls st H Q = ((z ≤ st.length ∧ wds (dpr z st) ≤ 8) ∧ CC d c (tkr z st []) H (fun r H1 => R (d + 1) m is ls (r :: dpr z st) H1 Q)) := sorry
theorem r_call0 {c z : Nat} : R (d + 1) m (x_call0 c z :: is) ls st H Q = ((z ≤ st.length ∧ wds (dpr z st) ≤ 8) ∧ CC d c (tkr z st []) H (fun _ H1 => R (d + 1) m is ls (dpr z st) H1 Q)) := sorry
theorem sing_eq {a b : Int} {P : Prop} : ([a] = [b] ∧ P) = (a = b ∧ P) := propext ⟨fun h => ⟨(List.cons.inj h.1).1, h.2⟩, fun h => ⟨by rw [h.1], h.2⟩⟩
theorem r_calv {c z : Nat} {e : Int} : R (d + 1) m (x_calv c z e :: is) ls st H Q = ((shc (rcv (tkr z st [])) = e ∧ z ≤ st.length ∧ wds (dpr z st) ≤ 8) ∧ CC d c (tkr z st []) H (fun r H1 => R (d + 1) m is ls (r :: dpr z st) H1 Q)) := sorry
theorem r_cals {c z : Nat} {e : Int} : R (d + 1) m (x_cals c z e :: is) ls st H Q = ((shc (rcv (tkr z st [])) = e ∧ z ≤ st.length ∧ wds (dpr z st) ≤ 8) ∧ CC d c (tkr z st []) H (fun r H1 => R (d + 1) m is ls (r :: dpr z st) H1 Q)) := sorry
theorem r_calv0 {c z : Nat} {e : Int} : R (d + 1) m (x_calv0 c z e :: is) ls st H Q = ((shc (rcv (tkr z st [])) = e ∧ z ≤ st.length ∧ wds (dpr z st) ≤ 8) ∧ CC d c (tkr z st []) H (fun _ H1 => R (d + 1) m is ls (dpr z st) H1 Q)) := sorry
theorem r_cals0 {c z : Nat} {e : Int} : R (d + 1) m (x_cals0 c z e :: is) ls st H Q = ((shc (rcv (tkr z st [])) = e ∧ z ≤ st.length ∧ wds (dpr z st) ≤ 8) ∧ CC d c (tkr z st []) H (fun _ H1 => R (d + 1) m is ls (dpr z st) H1 Q)) := sorry
end RW
theorem wds_0 : wds [] = 0 := rfl
theorem wds_i {x : Int} {l : List AV} : wds (vi x :: l) = wds l + 1 := rfl
theorem wds_a {x : Int} {l : List AV} : wds (va x :: l) = wds l + 1 := rfl
theorem wds_l {x : Int} {l : List AV} : wds (vl x :: l) = wds l + 2 := rfl
theorem tkr_0 {st acc : List AV} : tkr 0 st acc = acc := by cases st <;> rfl
theorem tkr_s {n : Nat} {a : AV} {st acc : List AV} : tkr (n + 1) (a :: st) acc = tkr n st (a :: acc) := rfl
theorem dpr_0 {st : List AV} : dpr 0 st = st := by cases st <;> rfl
theorem dpr_s {n : Nat} {a : AV} {st : List AV} : dpr (n + 1) (a :: st) = dpr n st := rfl
theorem rcv_c {x : Int} {l : List AV} : rcv (va x :: l) = x := rfl
theorem lst1_0 {a v : AV} {l : List AV} : lst1 (a :: l) 0 v = v :: l := rfl
theorem lst1_1i {x : Int} {v : AV} {l : List AV} : lst1 (vi x :: l) 1 v = vi x :: lst1 l 0 v := rfl
theorem lst1_1a {x : Int} {v : AV} {l : List AV} : lst1 (va x :: l) 1 v = va x :: lst1 l 0 v := rfl
theorem lst1_1u {v : AV} {l : List AV} : lst1 (vu :: l) 1 v = vu :: lst1 l 0 v := rfl
theorem lst1_1l {x : Int} {v : AV} {l : List AV} : lst1 (vl x :: l) 1 v = vu :: lst1 l 0 v := rfl
theorem lst1_s {n : Nat} {a v : AV} {l : List AV} : lst1 (a :: l) (n + 2) v = a :: lst1 l (n + 1) v := rfl
theorem lst2_0 {a b v : AV} {l : List AV} : lst2 (a :: b :: l) 0 v = v :: vu :: l := rfl
theorem lst2_1i {x : Int} {b v : AV} {l : List AV} : lst2 (vi x :: b :: l) 1 v = vi x :: lst2 (b :: l) 0 v := rfl
theorem lst2_1a {x : Int} {b v : AV} {l : List AV} : lst2 (va x :: b :: l) 1 v = va x :: lst2 (b :: l) 0 v := rfl
theorem lst2_1u {b v : AV} {l : List AV} : lst2 (vu :: b :: l) 1 v = vu :: lst2 (b :: l) 0 v := rfl
theorem lst2_1l {x : Int} {b v : AV} {l : List AV} : lst2 (vl x :: b :: l) 1 v = vu :: lst2 (b :: l) 0 v := rfl
theorem lst2_s {n : Nat} {a b v : AV} {l : List AV} : lst2 (a :: b :: l) (n + 2) v = a :: lst2 (b :: l) (n + 1) v := rfl
theorem c3_lt {x y : Int} : (cmp3 x y < 0) = (x < y) := by unfold cmp3; apply propext; split <;> (try split) <;> omega
theorem c3_ge {x y : Int} : (0 ≤ cmp3 x y) = (y ≤ x) := by unfold cmp3; apply propext; split <;> (try split) <;> omega
theorem c3_gt {x y : Int} : (0 < cmp3 x y) = (y < x) := by unfold cmp3; apply propext; split <;> (try split) <;> omega
theorem c3_le {x y : Int} : (cmp3 x y ≤ 0) = (x ≤ y) := by unfold cmp3; apply propext; split <;> (try split) <;> omega
theorem c3_eq {x y : Int} : (cmp3 x y = 0) = (x = y) := by unfold cmp3; apply propext; split <;> (try split) <;> omega
theorem hs_same {H : Hp} {c j v : Int} : hs H c j v c j = v := if_pos ⟨rfl, rfl⟩
theorem hs_app {H : Hp} {c j v a b : Int} : hs H c j v a b = if a = c ∧ b = j then v else H a b := rfl
theorem en_JK_bitCount {d : Nat} {p0 : Int} {H : Hp} {Q : AV → Hp → Prop} : CC d JK_bitCount [vi p0] H Q = R d JK_bitCount k_JK_bitCount_0 [vi p0] [] H Q := sorry
theorem en_JK_floorDiv {d : Nat} {p0 p1 : Int} {H : Hp} {Q : AV → Hp → Prop} : CC d JK_floorDiv [vl p0, vl p1] H Q = R d JK_floorDiv k_JK_floorDiv_0 [vl p0, vu, vl p1, vu, vu, vu] [] H Q := sorry
theorem en_JK_absI {d : Nat} {p0 : Int} {H : Hp} {Q : AV → Hp → Prop} : CC d JK_absI [vi p0] H Q = R d JK_absI k_JK_absI_0 [vi p0] [] H Q := sorry
theorem en_JK_absL {d : Nat} {p0 : Int} {H : Hp} {Q : AV → Hp → Prop} : CC d JK_absL [vl p0] H Q = R d JK_absL k_JK_absL_0 [vl p0, vu] [] H Q := sorry
theorem en_JK_maxI {d : Nat} {p0 p1 : Int} {H : Hp} {Q : AV → Hp → Prop} : CC d JK_maxI [vi p0, vi p1] H Q = R d JK_maxI k_JK_maxI_0 [vi p0, vi p1] [] H Q := sorry
theorem en_JK_maxL {d : Nat} {p0 p1 : Int} {H : Hp} {Q : AV → Hp → Prop} : CC d JK_maxL [vl p0, vl p1] H Q = R d JK_maxL k_JK_maxL_0 [vl p0, vu, vl p1, vu] [] H Q := sorry
theorem en_JK_minI {d : Nat} {p0 p1 : Int} {H : Hp} {Q : AV → Hp → Prop} : CC d JK_minI [vi p0, vi p1] H Q = R d JK_minI k_JK_minI_0 [vi p0, vi p1] [] H Q := sorry
theorem en_JK_minL {d : Nat} {p0 p1 : Int} {H : Hp} {Q : AV → Hp → Prop} : CC d JK_minL [vl p0, vl p1] H Q = R d JK_minL k_JK_minL_0 [vl p0, vu, vl p1, vu] [] H Q := sorry
theorem en_JK_fillL {d : Nat} {p0 p1 : Int} {H : Hp} {Q : AV → Hp → Prop} : CC d JK_fillL [va p0, vl p1] H Q = R d JK_fillL k_JK_fillL_0 [va p0, vl p1, vu, vu, vu] [] H Q := sorry
theorem en_JK_fillI {d : Nat} {p0 p1 : Int} {H : Hp} {Q : AV → Hp → Prop} : CC d JK_fillI [va p0, vi p1] H Q = R d JK_fillI k_JK_fillI_0 [va p0, vi p1, vu, vu] [] H Q := sorry
theorem en_BT_read {d : Nat} {p0 p1 : Int} {H : Hp} {Q : AV → Hp → Prop} : CC d BT_read [va p0, va p1] H Q = R d BT_read k_BT_read_0 [va p0, va p1, vu] [] H Q := sorry
theorem en_BT_statement {d : Nat} {p0 p1 : Int} {H : Hp} {Q : AV → Hp → Prop} : CC d BT_statement [va p0, va p1] H Q = R d BT_statement k_BT_statement_0 [va p0, va p1, vu, vu] [] H Q := sorry
theorem en_BT_isOneTooMany {d : Nat} {p0 p1 : Int} {H : Hp} {Q : AV → Hp → Prop} : CC d BT_isOneTooMany [va p0, vi p1] H Q = R d BT_isOneTooMany k_BT_isOneTooMany_0 [va p0, vi p1] [] H Q := sorry
theorem en_BT_seatTold {d : Nat} {p0 p1 : Int} {H : Hp} {Q : AV → Hp → Prop} : CC d BT_seatTold [va p0, va p1] H Q = R d BT_seatTold k_BT_seatTold_0 [va p0, va p1, vu] [] H Q := sorry
theorem en_BT_rowerTold {d : Nat} {p0 p1 : Int} {H : Hp} {Q : AV → Hp → Prop} : CC d BT_rowerTold [va p0, va p1] H Q = R d BT_rowerTold k_BT_rowerTold_0 [va p0, va p1, vu] [] H Q := sorry
theorem en_BT_nameTold {d : Nat} {p0 p1 : Int} {H : Hp} {Q : AV → Hp → Prop} : CC d BT_nameTold [va p0, va p1] H Q = R d BT_nameTold k_BT_nameTold_0 [va p0, va p1, vu, vu, vu, vu] [] H Q := sorry
theorem en_BT_isName {d : Nat} {p0 p1 p2 p3 : Int} {H : Hp} {Q : AV → Hp → Prop} : CC d BT_isName [va p0, va p1, vi p2, vi p3] H Q = R d BT_isName k_BT_isName_0 [va p0, va p1, vi p2, vi p3, vu, vu] [] H Q := sorry
theorem en_BT_eachTold {d : Nat} {p0 p1 : Int} {H : Hp} {Q : AV → Hp → Prop} : CC d BT_eachTold [va p0, va p1] H Q = R d BT_eachTold k_BT_eachTold_0 [va p0, va p1] [] H Q := sorry
theorem en_BT_fixTold {d : Nat} {p0 p1 : Int} {H : Hp} {Q : AV → Hp → Prop} : CC d BT_fixTold [va p0, va p1] H Q = R d BT_fixTold k_BT_fixTold_0 [va p0, va p1, vu, vu] [] H Q := sorry
theorem en_BT_wantTold {d : Nat} {p0 p1 : Int} {H : Hp} {Q : AV → Hp → Prop} : CC d BT_wantTold [va p0, va p1] H Q = R d BT_wantTold k_BT_wantTold_0 [va p0, va p1, vu] [] H Q := sorry
theorem en_BT_nearTold {d : Nat} {p0 p1 : Int} {H : Hp} {Q : AV → Hp → Prop} : CC d BT_nearTold [va p0, va p1] H Q = R d BT_nearTold k_BT_nearTold_0 [va p0, va p1] [] H Q := sorry
theorem en_BT_runTold {d : Nat} {p0 p1 : Int} {H : Hp} {Q : AV → Hp → Prop} : CC d BT_runTold [va p0, va p1] H Q = R d BT_runTold k_BT_runTold_0 [va p0, va p1, vu] [] H Q := sorry
theorem en_BT_sidesTold {d : Nat} {p0 p1 : Int} {H : Hp} {Q : AV → Hp → Prop} : CC d BT_sidesTold [va p0, va p1] H Q = R d BT_sidesTold k_BT_sidesTold_0 [va p0, va p1, vu, vu, vu, vu] [] H Q := sorry
theorem en_BT_payTold {d : Nat} {p0 p1 : Int} {H : Hp} {Q : AV → Hp → Prop} : CC d BT_payTold [va p0, va p1] H Q = R d BT_payTold k_BT_payTold_0 [va p0, va p1, vu] [] H Q := sorry
theorem en_CH_init {d : Nat} {p0 : Int} {H : Hp} {Q : AV → Hp → Prop} : CC d CH_init [va p0] H Q = R d CH_init k_CH_init_0 [va p0] [] H Q := sorry
theorem en_CH_fewest {d : Nat} {p0 p1 : Int} {H : Hp} {Q : AV → Hp → Prop} : CC d CH_fewest [va p0, va p1] H Q = R d CH_fewest k_CH_fewest_0 [va p0, va p1, vu, vu] [] H Q := sorry
theorem en_CH_load {d : Nat} {p0 p1 : Int} {H : Hp} {Q : AV → Hp → Prop} : CC d CH_load [va p0, va p1] H Q = R d CH_load k_CH_load_0 [va p0, va p1, vu, vu, vu, vu] [] H Q := sorry
theorem en_CH_canBeLawful {d : Nat} {p0 p1 p2 : Int} {H : Hp} {Q : AV → Hp → Prop} : CC d CH_canBeLawful [va p0, va p1, vi p2] H Q = R d CH_canBeLawful k_CH_canBeLawful_0 [va p0, va p1, vi p2, vu] [] H Q := sorry
theorem en_CH_bySwaps {d : Nat} {p0 p1 p2 p3 p4 : Int} {H : Hp} {Q : AV → Hp → Prop} : CC d CH_bySwaps [va p0, va p1, vi p2, vi p3, vi p4] H Q = R d CH_bySwaps k_CH_bySwaps_0 [va p0, va p1, vi p2, vi p3, vi p4, vu, vu, vu] [] H Q := sorry
theorem en_CH_byTurns {d : Nat} {p0 p1 p2 p3 : Int} {H : Hp} {Q : AV → Hp → Prop} : CC d CH_byTurns [va p0, va p1, vi p2, vi p3] H Q = R d CH_byTurns k_CH_byTurns_0 [va p0, va p1, vi p2, vi p3, vu, vu] [] H Q := sorry
theorem en_CH_isGood {d : Nat} {p0 p1 : Int} {H : Hp} {Q : AV → Hp → Prop} : CC d CH_isGood [va p0, vi p1] H Q = R d CH_isGood k_CH_isGood_0 [va p0, vi p1, vu] [] H Q := sorry
theorem en_CH_exchange {d : Nat} {p0 p1 p2 : Int} {H : Hp} {Q : AV → Hp → Prop} : CC d CH_exchange [va p0, vi p1, vi p2] H Q = R d CH_exchange k_CH_exchange_0 [va p0, vi p1, vi p2, vu, vu, vu, vu] [] H Q := sorry
theorem en_CH_flip {d : Nat} {p0 p1 : Int} {H : Hp} {Q : AV → Hp → Prop} : CC d CH_flip [va p0, vi p1] H Q = R d CH_flip k_CH_flip_0 [va p0, vi p1, vu, vu] [] H Q := sorry
theorem en_CW_init {d : Nat} {p0 : Int} {H : Hp} {Q : AV → Hp → Prop} : CC d CW_init [va p0] H Q = R d CW_init k_CW_init_0 [va p0] [] H Q := sorry
theorem en_CW_board {d : Nat} {p0 p1 : Int} {H : Hp} {Q : AV → Hp → Prop} : CC d CW_board [va p0, va p1] H Q = R d CW_board k_CW_board_0 [va p0, va p1, vu] [] H Q := sorry
theorem en_CW_seatOf {d : Nat} {p0 p1 : Int} {H : Hp} {Q : AV → Hp → Prop} : CC d CW_seatOf [va p0, vi p1] H Q = R d CW_seatOf k_CW_seatOf_0 [va p0, vi p1, vu] [] H Q := sorry
theorem en_CW_sides {d : Nat} {p0 : Int} {H : Hp} {Q : AV → Hp → Prop} : CC d CW_sides [va p0] H Q = R d CW_sides k_CW_sides_0 [va p0, vu, vu] [] H Q := sorry
theorem en_CW_strengthAt {d : Nat} {p0 p1 p2 : Int} {H : Hp} {Q : AV → Hp → Prop} : CC d CW_strengthAt [va p0, vi p1, vi p2] H Q = R d CW_strengthAt k_CW_strengthAt_0 [va p0, vi p1, vi p2] [] H Q := sorry
theorem en_CW_forceIn {d : Nat} {p0 p1 p2 : Int} {H : Hp} {Q : AV → Hp → Prop} : CC d CW_forceIn [va p0, vi p1, vi p2] H Q = R d CW_forceIn k_CW_forceIn_0 [va p0, vi p1, vi p2] [] H Q := sorry
theorem en_CW_leverToSide {d : Nat} {p0 p1 p2 : Int} {H : Hp} {Q : AV → Hp → Prop} : CC d CW_leverToSide [va p0, vi p1, vi p2] H Q = R d CW_leverToSide k_CW_leverToSide_0 [va p0, vi p1, vi p2, vu, vu] [] H Q := sorry
theorem en_CW_swingAt {d : Nat} {p0 p1 p2 : Int} {H : Hp} {Q : AV → Hp → Prop} : CC d CW_swingAt [va p0, vi p1, vi p2] H Q = R d CW_swingAt k_CW_swingAt_0 [va p0, vi p1, vi p2, vu, vu, vu] [] H Q := sorry
theorem en_CW_offAt {d : Nat} {p0 p1 : Int} {H : Hp} {Q : AV → Hp → Prop} : CC d CW_offAt [va p0, vi p1] H Q = R d CW_offAt k_CW_offAt_0 [va p0, vi p1, vu, vu, vu] [] H Q := sorry
theorem en_CW_isGoodAt {d : Nat} {p0 p1 : Int} {H : Hp} {Q : AV → Hp → Prop} : CC d CW_isGoodAt [va p0, vi p1] H Q = R d CW_isGoodAt k_CW_isGoodAt_0 [va p0, vi p1, vu] [] H Q := sorry
theorem en_CW_turnSeat {d : Nat} {p0 p1 : Int} {H : Hp} {Q : AV → Hp → Prop} : CC d CW_turnSeat [va p0, vi p1] H Q = R d CW_turnSeat k_CW_turnSeat_0 [va p0, vi p1] [] H Q := sorry
theorem en_CW_swapRowers {d : Nat} {p0 p1 p2 : Int} {H : Hp} {Q : AV → Hp → Prop} : CC d CW_swapRowers [va p0, vi p1, vi p2] H Q = R d CW_swapRowers k_CW_swapRowers_0 [va p0, vi p1, vi p2] [] H Q := sorry
theorem en_CW_passBy {d : Nat} {p0 p1 : Int} {H : Hp} {Q : AV → Hp → Prop} : CC d CW_passBy [va p0, vi p1] H Q = R d CW_passBy k_CW_passBy_0 [va p0, vi p1] [] H Q := sorry
theorem en_CW_rowOn {d : Nat} {p0 p1 : Int} {H : Hp} {Q : AV → Hp → Prop} : CC d CW_rowOn [va p0, vi p1] H Q = R d CW_rowOn k_CW_rowOn_0 [va p0, vi p1, vu] [] H Q := sorry
theorem en_CW_undoAct {d : Nat} {p0 : Int} {H : Hp} {Q : AV → Hp → Prop} : CC d CW_undoAct [va p0] H Q = R d CW_undoAct k_CW_undoAct_0 [va p0, vu] [] H Q := sorry
theorem en_CW_writeImage {d : Nat} {p0 : Int} {H : Hp} {Q : AV → Hp → Prop} : CC d CW_writeImage [va p0] H Q = R d CW_writeImage k_CW_writeImage_0 [va p0, vu, vu] [] H Q := sorry
theorem en_CW_takeImage {d : Nat} {p0 p1 : Int} {H : Hp} {Q : AV → Hp → Prop} : CC d CW_takeImage [va p0, va p1] H Q = R d CW_takeImage k_CW_takeImage_0 [va p0, va p1, vu] [] H Q := sorry
theorem en_CW_isImage {d : Nat} {p0 p1 : Int} {H : Hp} {Q : AV → Hp → Prop} : CC d CW_isImage [va p0, va p1] H Q = R d CW_isImage k_CW_isImage_0 [va p0, va p1, vu, vu, vu] [] H Q := sorry
theorem en_CW_rowersCanSitSo {d : Nat} {p0 p1 : Int} {H : Hp} {Q : AV → Hp → Prop} : CC d CW_rowersCanSitSo [va p0, va p1] H Q = R d CW_rowersCanSitSo k_CW_rowersCanSitSo_0 [va p0, va p1, vu, vu, vu] [] H Q := sorry
theorem en_CW_sidesCanBeSo {d : Nat} {p0 p1 : Int} {H : Hp} {Q : AV → Hp → Prop} : CC d CW_sidesCanBeSo [va p0, va p1] H Q = R d CW_sidesCanBeSo k_CW_sidesCanBeSo_0 [va p0, va p1, vu, vu] [] H Q := sorry
theorem en_CW_strokeIn {d : Nat} {p0 : Int} {H : Hp} {Q : AV → Hp → Prop} : CC d CW_strokeIn [va p0] H Q = R d CW_strokeIn k_CW_strokeIn_0 [va p0] [] H Q := sorry
theorem en_CW_checkOn {d : Nat} {p0 p1 : Int} {H : Hp} {Q : AV → Hp → Prop} : CC d CW_checkOn [vi p0, vi p1] H Q = R d CW_checkOn k_CW_checkOn_0 [vi p0, vi p1] [] H Q := sorry
theorem en_CW_writeOctet {d : Nat} {p0 p1 : Int} {H : Hp} {Q : AV → Hp → Prop} : CC d CW_writeOctet [va p0, vi p1] H Q = R d CW_writeOctet k_CW_writeOctet_0 [va p0, vi p1] [] H Q := sorry
theorem en_CW_noteAct {d : Nat} {p0 p1 p2 p3 : Int} {H : Hp} {Q : AV → Hp → Prop} : CC d CW_noteAct [va p0, vi p1, vi p2, vi p3] H Q = R d CW_noteAct k_CW_noteAct_0 [va p0, vi p1, vi p2, vi p3] [] H Q := sorry
theorem en_CW_flip {d : Nat} {p0 p1 : Int} {H : Hp} {Q : AV → Hp → Prop} : CC d CW_flip [va p0, vi p1] H Q = R d CW_flip k_CW_flip_0 [va p0, vi p1] [] H Q := sorry
theorem en_CW_exchange {d : Nat} {p0 p1 p2 : Int} {H : Hp} {Q : AV → Hp → Prop} : CC d CW_exchange [va p0, vi p1, vi p2] H Q = R d CW_exchange k_CW_exchange_0 [va p0, vi p1, vi p2, vu] [] H Q := sorry
theorem en_CW_drawnSwing {d : Nat} {p0 : Int} {H : Hp} {Q : AV → Hp → Prop} : CC d CW_drawnSwing [va p0] H Q = R d CW_drawnSwing k_CW_drawnSwing_0 [va p0, vu, vu, vu, vu] [] H Q := sorry
theorem en_CW_drawOfThree {d : Nat} {p0 : Int} {H : Hp} {Q : AV → Hp → Prop} : CC d CW_drawOfThree [va p0] H Q = R d CW_drawOfThree k_CW_drawOfThree_0 [va p0] [] H Q := sorry
theorem en_HV_init {d : Nat} {p0 : Int} {H : Hp} {Q : AV → Hp → Prop} : CC d HV_init [va p0] H Q = R d HV_init k_HV_init_0 [va p0] [] H Q := sorry
theorem en_HV_waysFor {d : Nat} {p0 p1 : Int} {H : Hp} {Q : AV → Hp → Prop} : CC d HV_waysFor [va p0, vi p1] H Q = R d HV_waysFor k_HV_waysFor_0 [va p0, vi p1] [] H Q := sorry
theorem en_HV_countWays {d : Nat} {p0 : Int} {H : Hp} {Q : AV → Hp → Prop} : CC d HV_countWays [va p0] H Q = R d HV_countWays k_HV_countWays_0 [va p0, vu, vu, vu, vu] [] H Q := sorry
theorem en_HV_wayAt {d : Nat} {p0 p1 p2 : Int} {H : Hp} {Q : AV → Hp → Prop} : CC d HV_wayAt [va p0, vi p1, vi p2] H Q = R d HV_wayAt k_HV_wayAt_0 [va p0, vi p1, vi p2] [] H Q := sorry
theorem en_HV_choose {d : Nat} {p0 p1 p2 p3 p4 : Int} {H : Hp} {Q : AV → Hp → Prop} : CC d HV_choose [va p0, vi p1, vi p2, vi p3, vi p4] H Q = R d HV_choose k_HV_choose_0 [va p0, vi p1, vi p2, vi p3, vi p4, vu] [] H Q := sorry
theorem en_HV_canBe {d : Nat} {p0 p1 p2 : Int} {H : Hp} {Q : AV → Hp → Prop} : CC d HV_canBe [vi p0, vi p1, vi p2] H Q = R d HV_canBe k_HV_canBe_0 [vi p0, vi p1, vi p2] [] H Q := sorry
theorem en_HV_sumDoubled {d : Nat} {p0 p1 : Int} {H : Hp} {Q : AV → Hp → Prop} : CC d HV_sumDoubled [vi p0, vi p1] H Q = R d HV_sumDoubled k_HV_sumDoubled_0 [vi p0, vi p1, vu, vu, vu, vu, vu] [] H Q := sorry
theorem en_HV_stillUpTo {d : Nat} {p0 p1 : Int} {H : Hp} {Q : AV → Hp → Prop} : CC d HV_stillUpTo [vi p0, vi p1] H Q = R d HV_stillUpTo k_HV_stillUpTo_0 [vi p0, vi p1, vu, vu, vu, vu, vu, vu] [] H Q := sorry
theorem en_HV_power {d : Nat} {p0 p1 : Int} {H : Hp} {Q : AV → Hp → Prop} : CC d HV_power [vl p0, vi p1] H Q = R d HV_power k_HV_power_0 [vl p0, vu, vi p1, vu, vu, vu] [] H Q := sorry
theorem en_HV_partPayments {d : Nat} {p0 p1 p2 : Int} {H : Hp} {Q : AV → Hp → Prop} : CC d HV_partPayments [va p0, va p1, va p2] H Q = R d HV_partPayments k_HV_partPayments_0 [va p0, va p1, va p2, vu, vu] [] H Q := sorry
theorem en_HV_addPayments {d : Nat} {p0 p1 p2 p3 : Int} {H : Hp} {Q : AV → Hp → Prop} : CC d HV_addPayments [va p0, va p1, va p2, vi p3] H Q = R d HV_addPayments k_HV_addPayments_0 [va p0, va p1, va p2, vi p3, vu] [] H Q := sorry
theorem en_HV_heirsApart {d : Nat} {p0 p1 p2 : Int} {H : Hp} {Q : AV → Hp → Prop} : CC d HV_heirsApart [va p0, vi p1, vi p2] H Q = R d HV_heirsApart k_HV_heirsApart_0 [va p0, vi p1, vi p2, vu, vu, vu, vu, vu] [] H Q := sorry
theorem en_LN_init {d : Nat} {p0 : Int} {H : Hp} {Q : AV → Hp → Prop} : CC d LN_init [va p0] H Q = R d LN_init k_LN_init_0 [va p0] [] H Q := sorry
theorem en_LN_clear {d : Nat} {p0 : Int} {H : Hp} {Q : AV → Hp → Prop} : CC d LN_clear [va p0] H Q = R d LN_clear k_LN_clear_0 [va p0] [] H Q := sorry
theorem en_LN_add {d : Nat} {p0 p1 p2 p3 : Int} {H : Hp} {Q : AV → Hp → Prop} : CC d LN_add [va p0, vl p1, va p2, vi p3] H Q = R d LN_add k_LN_add_0 [va p0, vl p1, vu, va p2, vi p3, vu, vu, vu] [] H Q := sorry
theorem en_LN_advanceTo {d : Nat} {p0 p1 : Int} {H : Hp} {Q : AV → Hp → Prop} : CC d LN_advanceTo [va p0, vi p1] H Q = R d LN_advanceTo k_LN_advanceTo_0 [va p0, vi p1, vu, vu] [] H Q := sorry
theorem en_NE_init {d : Nat} {p0 : Int} {H : Hp} {Q : AV → Hp → Prop} : CC d NE_init [va p0] H Q = R d NE_init k_NE_init_0 [va p0] [] H Q := sorry
theorem en_NE_findAsTheySit {d : Nat} {p0 p1 p2 : Int} {H : Hp} {Q : AV → Hp → Prop} : CC d NE_findAsTheySit [va p0, va p1, va p2] H Q = R d NE_findAsTheySit k_NE_findAsTheySit_0 [va p0, va p1, va p2, vu] [] H Q := sorry
theorem en_NE_findOrder {d : Nat} {p0 p1 p2 : Int} {H : Hp} {Q : AV → Hp → Prop} : CC d NE_findOrder [va p0, va p1, va p2] H Q = R d NE_findOrder k_NE_findOrder_0 [va p0, va p1, va p2, vu] [] H Q := sorry
theorem en_NE_bestRower {d : Nat} {p0 p1 : Int} {H : Hp} {Q : AV → Hp → Prop} : CC d NE_bestRower [va p0, vi p1] H Q = R d NE_bestRower k_NE_bestRower_0 [va p0, vi p1] [] H Q := sorry
theorem en_NE_arrange {d : Nat} {p0 p1 p2 p3 p4 : Int} {H : Hp} {Q : AV → Hp → Prop} : CC d NE_arrange [va p0, va p1, va p2, vi p3, vi p4] H Q = R d NE_arrange k_NE_arrange_0 [va p0, va p1, va p2, vi p3, vi p4, vu, vu] [] H Q := sorry
theorem en_NE_keepOrder {d : Nat} {p0 : Int} {H : Hp} {Q : AV → Hp → Prop} : CC d NE_keepOrder [va p0] H Q = R d NE_keepOrder k_NE_keepOrder_0 [va p0] [] H Q := sorry
theorem en_NE_scan {d : Nat} {p0 p1 p2 : Int} {H : Hp} {Q : AV → Hp → Prop} : CC d NE_scan [va p0, va p1, va p2] H Q = R d NE_scan k_NE_scan_0 [va p0, va p1, va p2, vu, vu] [] H Q := sorry
theorem en_NE_setLanes {d : Nat} {p0 p1 p2 : Int} {H : Hp} {Q : AV → Hp → Prop} : CC d NE_setLanes [va p0, va p1, va p2] H Q = R d NE_setLanes k_NE_setLanes_0 [va p0, va p1, va p2, vu, vu] [] H Q := sorry
theorem en_NE_weigh {d : Nat} {p0 p1 p2 p3 : Int} {H : Hp} {Q : AV → Hp → Prop} : CC d NE_weigh [va p0, va p1, vi p2, vi p3] H Q = R d NE_weigh k_NE_weigh_0 [va p0, va p1, vi p2, vi p3, vu, vu, vu, vu, vu, vu] [] H Q := sorry
theorem en_PL_init {d : Nat} {p0 : Int} {H : Hp} {Q : AV → Hp → Prop} : CC d PL_init [va p0] H Q = R d PL_init k_PL_init_0 [va p0] [] H Q := sorry
theorem en_PL_clear {d : Nat} {p0 : Int} {H : Hp} {Q : AV → Hp → Prop} : CC d PL_clear [va p0] H Q = R d PL_clear k_PL_clear_0 [va p0] [] H Q := sorry
theorem en_PL_isSeat {d : Nat} {p0 p1 : Int} {H : Hp} {Q : AV → Hp → Prop} : CC d PL_isSeat [va p0, vi p1] H Q = R d PL_isSeat k_PL_isSeat_0 [va p0, vi p1] [] H Q := sorry
theorem en_PL_isRower {d : Nat} {p0 p1 : Int} {H : Hp} {Q : AV → Hp → Prop} : CC d PL_isRower [va p0, vi p1] H Q = R d PL_isRower k_PL_isRower_0 [va p0, vi p1] [] H Q := sorry
theorem en_PL_isPower {d : Nat} {p0 : Int} {H : Hp} {Q : AV → Hp → Prop} : CC d PL_isPower [vi p0] H Q = R d PL_isPower k_PL_isPower_0 [vi p0] [] H Q := sorry
theorem en_PL_isFixed {d : Nat} {p0 p1 : Int} {H : Hp} {Q : AV → Hp → Prop} : CC d PL_isFixed [va p0, vi p1] H Q = R d PL_isFixed k_PL_isFixed_0 [va p0, vi p1] [] H Q := sorry
theorem en_PL_seatAtPlace {d : Nat} {p0 p1 : Int} {H : Hp} {Q : AV → Hp → Prop} : CC d PL_seatAtPlace [va p0, vi p1] H Q = R d PL_seatAtPlace k_PL_seatAtPlace_0 [va p0, vi p1, vu] [] H Q := sorry
theorem en_PL_addSeat {d : Nat} {p0 p1 p2 : Int} {H : Hp} {Q : AV → Hp → Prop} : CC d PL_addSeat [va p0, vi p1, vi p2] H Q = R d PL_addSeat k_PL_addSeat_0 [va p0, vi p1, vi p2, vu, vu, vu] [] H Q := sorry
theorem en_PL_fixSeat {d : Nat} {p0 p1 p2 : Int} {H : Hp} {Q : AV → Hp → Prop} : CC d PL_fixSeat [va p0, vi p1, vi p2] H Q = R d PL_fixSeat k_PL_fixSeat_0 [va p0, vi p1, vi p2, vu] [] H Q := sorry
theorem en_PL_addRower {d : Nat} {p0 p1 p2 : Int} {H : Hp} {Q : AV → Hp → Prop} : CC d PL_addRower [va p0, vi p1, vi p2] H Q = R d PL_addRower k_PL_addRower_0 [va p0, vi p1, vi p2] [] H Q := sorry
theorem en_PL_wantSwing {d : Nat} {p0 p1 p2 : Int} {H : Hp} {Q : AV → Hp → Prop} : CC d PL_wantSwing [va p0, vi p1, vi p2] H Q = R d PL_wantSwing k_PL_wantSwing_0 [va p0, vi p1, vi p2] [] H Q := sorry
theorem en_PL_addRun {d : Nat} {p0 p1 p2 : Int} {H : Hp} {Q : AV → Hp → Prop} : CC d PL_addRun [va p0, vi p1, vi p2] H Q = R d PL_addRun k_PL_addRun_0 [va p0, vi p1, vi p2] [] H Q := sorry
theorem en_PL_setRunSide {d : Nat} {p0 p1 p2 : Int} {H : Hp} {Q : AV → Hp → Prop} : CC d PL_setRunSide [va p0, vi p1, vi p2] H Q = R d PL_setRunSide k_PL_setRunSide_0 [va p0, vi p1, vi p2] [] H Q := sorry
theorem en_PL_addPayment {d : Nat} {p0 p1 p2 : Int} {H : Hp} {Q : AV → Hp → Prop} : CC d PL_addPayment [va p0, vi p1, vi p2] H Q = R d PL_addPayment k_PL_addPayment_0 [va p0, vi p1, vi p2] [] H Q := sorry
theorem en_PL_wants {d : Nat} {p0 : Int} {H : Hp} {Q : AV → Hp → Prop} : CC d PL_wants [va p0] H Q = R d PL_wants k_PL_wants_0 [va p0, vu, vu] [] H Q := sorry
theorem en_PL_leverOf {d : Nat} {p0 p1 p2 : Int} {H : Hp} {Q : AV → Hp → Prop} : CC d PL_leverOf [va p0, vi p1, vi p2] H Q = R d PL_leverOf k_PL_leverOf_0 [va p0, vi p1, vi p2] [] H Q := sorry
theorem en_PL_allows {d : Nat} {p0 p1 : Int} {H : Hp} {Q : AV → Hp → Prop} : CC d PL_allows [va p0, vi p1] H Q = R d PL_allows k_PL_allows_0 [va p0, vi p1] [] H Q := sorry
theorem en_PL_sideAtFirst {d : Nat} {p0 p1 : Int} {H : Hp} {Q : AV → Hp → Prop} : CC d PL_sideAtFirst [va p0, vi p1] H Q = R d PL_sideAtFirst k_PL_sideAtFirst_0 [va p0, vi p1] [] H Q := sorry
theorem en_PL_seatedAtFirst {d : Nat} {p0 : Int} {H : Hp} {Q : AV → Hp → Prop} : CC d PL_seatedAtFirst [va p0] H Q = R d PL_seatedAtFirst k_PL_seatedAtFirst_0 [va p0] [] H Q := sorry
theorem en_PL_runLever {d : Nat} {p0 p1 p2 : Int} {H : Hp} {Q : AV → Hp → Prop} : CC d PL_runLever [va p0, vi p1, vi p2] H Q = R d PL_runLever k_PL_runLever_0 [va p0, vi p1, vi p2] [] H Q := sorry
theorem en_PL_swungOf {d : Nat} {p0 p1 : Int} {H : Hp} {Q : AV → Hp → Prop} : CC d PL_swungOf [va p0, vi p1] H Q = R d PL_swungOf k_PL_swungOf_0 [va p0, vi p1] [] H Q := sorry
theorem en_PL_payment {d : Nat} {p0 p1 p2 : Int} {H : Hp} {Q : AV → Hp → Prop} : CC d PL_payment [va p0, vi p1, vi p2] H Q = R d PL_payment k_PL_payment_0 [va p0, vi p1, vi p2] [] H Q := sorry
theorem en_QU_init {d : Nat} {p0 : Int} {H : Hp} {Q : AV → Hp → Prop} : CC d QU_init [va p0] H Q = R d QU_init k_QU_init_0 [va p0] [] H Q := sorry
theorem en_QU_read {d : Nat} {p0 p1 : Int} {H : Hp} {Q : AV → Hp → Prop} : CC d QU_read [va p0, va p1] H Q = R d QU_read k_QU_read_0 [va p0, va p1, vu] [] H Q := sorry
theorem en_QU_test {d : Nat} {p0 p1 p2 : Int} {H : Hp} {Q : AV → Hp → Prop} : CC d QU_test [va p0, va p1, vi p2] H Q = R d QU_test k_QU_test_0 [va p0, va p1, vi p2, vu] [] H Q := sorry
theorem en_QU_both {d : Nat} {p0 p1 p2 : Int} {H : Hp} {Q : AV → Hp → Prop} : CC d QU_both [va p0, va p1, vi p2] H Q = R d QU_both k_QU_both_0 [va p0, va p1, vi p2, vu] [] H Q := sorry
theorem en_QU_fact {d : Nat} {p0 p1 p2 : Int} {H : Hp} {Q : AV → Hp → Prop} : CC d QU_fact [va p0, va p1, vi p2] H Q = R d QU_fact k_QU_fact_0 [va p0, va p1, vi p2, vu, vu] [] H Q := sorry
theorem en_QU_comparison {d : Nat} {p0 p1 p2 : Int} {H : Hp} {Q : AV → Hp → Prop} : CC d QU_comparison [va p0, va p1, vi p2] H Q = R d QU_comparison k_QU_comparison_0 [va p0, va p1, vi p2, vu, vu] [] H Q := sorry
theorem en_QU_sum {d : Nat} {p0 p1 p2 : Int} {H : Hp} {Q : AV → Hp → Prop} : CC d QU_sum [va p0, va p1, vi p2] H Q = R d QU_sum k_QU_sum_0 [va p0, va p1, vi p2, vu, vu] [] H Q := sorry
theorem en_QU_product {d : Nat} {p0 p1 p2 : Int} {H : Hp} {Q : AV → Hp → Prop} : CC d QU_product [va p0, va p1, vi p2] H Q = R d QU_product k_QU_product_0 [va p0, va p1, vi p2, vu, vu] [] H Q := sorry
theorem en_QU_part {d : Nat} {p0 p1 p2 : Int} {H : Hp} {Q : AV → Hp → Prop} : CC d QU_part [va p0, va p1, vi p2] H Q = R d QU_part k_QU_part_0 [va p0, va p1, vi p2, vu, vu] [] H Q := sorry
theorem en_QU_partOf {d : Nat} {p0 p1 p2 p3 : Int} {H : Hp} {Q : AV → Hp → Prop} : CC d QU_partOf [va p0, va p1, vi p2, vi p3] H Q = R d QU_partOf k_QU_partOf_0 [va p0, va p1, vi p2, vi p3, vu] [] H Q := sorry
theorem en_QU_pair {d : Nat} {p0 p1 p2 p3 : Int} {H : Hp} {Q : AV → Hp → Prop} : CC d QU_pair [va p0, va p1, vi p2, vi p3] H Q = R d QU_pair k_QU_pair_0 [va p0, va p1, vi p2, vi p3, vu] [] H Q := sorry
theorem en_QU_mayOpen {d : Nat} {p0 p1 : Int} {H : Hp} {Q : AV → Hp → Prop} : CC d QU_mayOpen [va p0, vi p1] H Q = R d QU_mayOpen k_QU_mayOpen_0 [va p0, vi p1] [] H Q := sorry
theorem en_QU_code {d : Nat} {p0 p1 : Int} {H : Hp} {Q : AV → Hp → Prop} : CC d QU_code [va p0, vi p1] H Q = R d QU_code k_QU_code_0 [va p0, vi p1] [] H Q := sorry
theorem en_QU_keep {d : Nat} {p0 p1 : Int} {H : Hp} {Q : AV → Hp → Prop} : CC d QU_keep [va p0, vi p1] H Q = R d QU_keep k_QU_keep_0 [va p0, vi p1] [] H Q := sorry
theorem en_QU_answer {d : Nat} {p0 p1 : Int} {H : Hp} {Q : AV → Hp → Prop} : CC d QU_answer [va p0, va p1] H Q = R d QU_answer k_QU_answer_0 [va p0, va p1, vu, vu] [] H Q := sorry
theorem en_QU_answerTest {d : Nat} {p0 p1 p2 p3 : Int} {H : Hp} {Q : AV → Hp → Prop} : CC d QU_answerTest [va p0, va p1, vi p2, vi p3] H Q = R d QU_answerTest k_QU_answerTest_0 [va p0, va p1, vi p2, vi p3, vu, vu, vu, vu] [] H Q := sorry
theorem en_QU_answerSum {d : Nat} {p0 p1 p2 p3 : Int} {H : Hp} {Q : AV → Hp → Prop} : CC d QU_answerSum [va p0, va p1, vi p2, vi p3] H Q = R d QU_answerSum k_QU_answerSum_0 [va p0, va p1, vi p2, vi p3, vu, vu, vu, vu, vu, vu, vu, vu, vu] [] H Q := sorry
theorem en_QU_valueAt {d : Nat} {p0 p1 p2 : Int} {H : Hp} {Q : AV → Hp → Prop} : CC d QU_valueAt [va p0, va p1, vi p2] H Q = R d QU_valueAt k_QU_valueAt_0 [va p0, va p1, vi p2, vu, vu] [] H Q := sorry
theorem en_QU_keepTen {d : Nat} {p0 p1 p2 : Int} {H : Hp} {Q : AV → Hp → Prop} : CC d QU_keepTen [va p0, va p1, vi p2] H Q = R d QU_keepTen k_QU_keepTen_0 [va p0, va p1, vi p2, vu] [] H Q := sorry
theorem en_QU_apply {d : Nat} {p0 p1 p2 p3 : Int} {H : Hp} {Q : AV → Hp → Prop} : CC d QU_apply [va p0, va p1, vi p2, vi p3] H Q = R d QU_apply k_QU_apply_0 [va p0, va p1, vi p2, vi p3] [] H Q := sorry
theorem en_QU_applyToTwo {d : Nat} {p0 p1 : Int} {H : Hp} {Q : AV → Hp → Prop} : CC d QU_applyToTwo [va p0, vi p1] H Q = R d QU_applyToTwo k_QU_applyToTwo_0 [va p0, vi p1, vu, vu, vu, vu] [] H Q := sorry
theorem en_QU_swingOf {d : Nat} {p0 p1 : Int} {H : Hp} {Q : AV → Hp → Prop} : CC d QU_swingOf [va p0, vl p1] H Q = R d QU_swingOf k_QU_swingOf_0 [va p0, vl p1, vu] [] H Q := sorry
theorem en_QU_forceOf {d : Nat} {p0 p1 p2 : Int} {H : Hp} {Q : AV → Hp → Prop} : CC d QU_forceOf [va p0, vl p1, vi p2] H Q = R d QU_forceOf k_QU_forceOf_0 [va p0, vl p1, vu, vi p2] [] H Q := sorry
theorem en_QU_joined {d : Nat} {p0 p1 p2 : Int} {H : Hp} {Q : AV → Hp → Prop} : CC d QU_joined [vi p0, vl p1, vl p2] H Q = R d QU_joined k_QU_joined_0 [vi p0, vl p1, vu, vl p2, vu] [] H Q := sorry
theorem en_QU_held {d : Nat} {p0 : Int} {H : Hp} {Q : AV → Hp → Prop} : CC d QU_held [vl p0] H Q = R d QU_held k_QU_held_0 [vl p0, vu] [] H Q := sorry
theorem en_QU_push {d : Nat} {p0 p1 : Int} {H : Hp} {Q : AV → Hp → Prop} : CC d QU_push [va p0, vl p1] H Q = R d QU_push k_QU_push_0 [va p0, vl p1, vu] [] H Q := sorry
theorem en_QU_pop {d : Nat} {p0 : Int} {H : Hp} {Q : AV → Hp → Prop} : CC d QU_pop [va p0] H Q = R d QU_pop k_QU_pop_0 [va p0] [] H Q := sorry
theorem en_RA_init {d : Nat} {p0 : Int} {H : Hp} {Q : AV → Hp → Prop} : CC d RA_init [va p0] H Q = R d RA_init k_RA_init_0 [va p0] [] H Q := sorry
theorem en_RA_greatest {d : Nat} {p0 p1 : Int} {H : Hp} {Q : AV → Hp → Prop} : CC d RA_greatest [va p0, vi p1] H Q = R d RA_greatest k_RA_greatest_0 [va p0, vi p1, vu, vu, vu] [] H Q := sorry
theorem en_RA_findStillest {d : Nat} {p0 p1 p2 p3 : Int} {H : Hp} {Q : AV → Hp → Prop} : CC d RA_findStillest [va p0, va p1, va p2, vi p3] H Q = R d RA_findStillest k_RA_findStillest_0 [va p0, va p1, va p2, vi p3, vu, vu, vu, vu, vu, vu] [] H Q := sorry
theorem en_RA_findUnderWay {d : Nat} {p0 p1 p2 : Int} {H : Hp} {Q : AV → Hp → Prop} : CC d RA_findUnderWay [va p0, va p1, vi p2] H Q = R d RA_findUnderWay k_RA_findUnderWay_0 [va p0, va p1, vi p2, vu, vu] [] H Q := sorry
theorem en_RA_sailAsTheySit {d : Nat} {p0 p1 p2 : Int} {H : Hp} {Q : AV → Hp → Prop} : CC d RA_sailAsTheySit [va p0, va p1, vi p2] H Q = R d RA_sailAsTheySit k_RA_sailAsTheySit_0 [va p0, va p1, vi p2, vu, vu, vu, vu] [] H Q := sorry
theorem en_RA_tryChange {d : Nat} {p0 p1 p2 p3 p4 : Int} {H : Hp} {Q : AV → Hp → Prop} : CC d RA_tryChange [va p0, va p1, vi p2, vi p3, vi p4] H Q = R d RA_tryChange k_RA_tryChange_0 [va p0, va p1, vi p2, vi p3, vi p4, vu, vu, vu, vu, vu, vu, vu, vu, vu, vu, vu, vu, vu] [] H Q := sorry
theorem en_RA_setLanes {d : Nat} {p0 p1 p2 p3 : Int} {H : Hp} {Q : AV → Hp → Prop} : CC d RA_setLanes [va p0, va p1, va p2, vi p3] H Q = R d RA_setLanes k_RA_setLanes_0 [va p0, va p1, va p2, vi p3, vu, vu] [] H Q := sorry
theorem en_RA_greatestOf {d : Nat} {p0 : Int} {H : Hp} {Q : AV → Hp → Prop} : CC d RA_greatestOf [va p0] H Q = R d RA_greatestOf k_RA_greatestOf_0 [va p0, vu, vu, vu] [] H Q := sorry
theorem en_RA_firstTen {d : Nat} {p0 : Int} {H : Hp} {Q : AV → Hp → Prop} : CC d RA_firstTen [va p0] H Q = R d RA_firstTen k_RA_firstTen_0 [va p0] [] H Q := sorry
theorem en_RA_lastTen {d : Nat} {p0 p1 : Int} {H : Hp} {Q : AV → Hp → Prop} : CC d RA_lastTen [va p0, vi p1] H Q = R d RA_lastTen k_RA_lastTen_0 [va p0, vi p1] [] H Q := sorry
theorem en_TP_init {d : Nat} {p0 : Int} {H : Hp} {Q : AV → Hp → Prop} : CC d TP_init [va p0] H Q = R d TP_init k_TP_init_0 [va p0] [] H Q := sorry
theorem en_TP_hasRoomForFive {d : Nat} {p0 : Int} {H : Hp} {Q : AV → Hp → Prop} : CC d TP_hasRoomForFive [va p0] H Q = R d TP_hasRoomForFive k_TP_hasRoomForFive_0 [va p0] [] H Q := sorry
theorem en_TP_put {d : Nat} {p0 p1 : Int} {H : Hp} {Q : AV → Hp → Prop} : CC d TP_put [va p0, vi p1] H Q = R d TP_put k_TP_put_0 [va p0, vi p1, vu] [] H Q := sorry
theorem en_TP_cut {d : Nat} {p0 p1 : Int} {H : Hp} {Q : AV → Hp → Prop} : CC d TP_cut [va p0, vi p1] H Q = R d TP_cut k_TP_cut_0 [va p0, vi p1] [] H Q := sorry
theorem en_TP_clear {d : Nat} {p0 : Int} {H : Hp} {Q : AV → Hp → Prop} : CC d TP_clear [va p0] H Q = R d TP_clear k_TP_clear_0 [va p0] [] H Q := sorry
theorem en_TP_byteAt {d : Nat} {p0 p1 : Int} {H : Hp} {Q : AV → Hp → Prop} : CC d TP_byteAt [va p0, vi p1] H Q = R d TP_byteAt k_TP_byteAt_0 [va p0, vi p1] [] H Q := sorry
theorem en_TP_begin {d : Nat} {p0 : Int} {H : Hp} {Q : AV → Hp → Prop} : CC d TP_begin [va p0] H Q = R d TP_begin k_TP_begin_0 [va p0] [] H Q := sorry
theorem en_TP_fail {d : Nat} {p0 p1 p2 : Int} {H : Hp} {Q : AV → Hp → Prop} : CC d TP_fail [va p0, vi p1, vi p2] H Q = R d TP_fail k_TP_fail_0 [va p0, vi p1, vi p2] [] H Q := sorry
theorem en_TP_failHere {d : Nat} {p0 : Int} {H : Hp} {Q : AV → Hp → Prop} : CC d TP_failHere [va p0] H Q = R d TP_failHere k_TP_failHere_0 [va p0] [] H Q := sorry
theorem en_TP_next {d : Nat} {p0 : Int} {H : Hp} {Q : AV → Hp → Prop} : CC d TP_next [va p0] H Q = R d TP_next k_TP_next_0 [va p0] [] H Q := sorry
theorem en_TP_takeSign {d : Nat} {p0 p1 : Int} {H : Hp} {Q : AV → Hp → Prop} : CC d TP_takeSign [va p0, vi p1] H Q = R d TP_takeSign k_TP_takeSign_0 [va p0, vi p1] [] H Q := sorry
theorem en_TP_wordHere {d : Nat} {p0 p1 : Int} {H : Hp} {Q : AV → Hp → Prop} : CC d TP_wordHere [va p0, va p1] H Q = R d TP_wordHere k_TP_wordHere_0 [va p0, va p1] [] H Q := sorry
theorem en_TP_passWord {d : Nat} {p0 : Int} {H : Hp} {Q : AV → Hp → Prop} : CC d TP_passWord [va p0] H Q = R d TP_passWord k_TP_passWord_0 [va p0] [] H Q := sorry
theorem en_TP_takeWord {d : Nat} {p0 p1 p2 : Int} {H : Hp} {Q : AV → Hp → Prop} : CC d TP_takeWord [va p0, va p1, vi p2] H Q = R d TP_takeWord k_TP_takeWord_0 [va p0, va p1, vi p2] [] H Q := sorry
theorem en_TP_anyWordEnd {d : Nat} {p0 : Int} {H : Hp} {Q : AV → Hp → Prop} : CC d TP_anyWordEnd [va p0] H Q = R d TP_anyWordEnd k_TP_anyWordEnd_0 [va p0] [] H Q := sorry
theorem en_TP_placeIn {d : Nat} {p0 p1 p2 : Int} {H : Hp} {Q : AV → Hp → Prop} : CC d TP_placeIn [va p0, va p1, vi p2] H Q = R d TP_placeIn k_TP_placeIn_0 [va p0, va p1, vi p2, vu, vu, vu, vu, vu] [] H Q := sorry
theorem en_TP_takeNumber {d : Nat} {p0 p1 p2 : Int} {H : Hp} {Q : AV → Hp → Prop} : CC d TP_takeNumber [va p0, vi p1, vi p2] H Q = R d TP_takeNumber k_TP_takeNumber_0 [va p0, vi p1, vi p2, vu, vu] [] H Q := sorry
theorem en_TP_takeSignedNumber {d : Nat} {p0 p1 : Int} {H : Hp} {Q : AV → Hp → Prop} : CC d TP_takeSignedNumber [va p0, vi p1] H Q = R d TP_takeSignedNumber k_TP_takeSignedNumber_0 [va p0, vi p1, vu, vu] [] H Q := sorry
theorem en_TP_wordEnd {d : Nat} {p0 : Int} {H : Hp} {Q : AV → Hp → Prop} : CC d TP_wordEnd [va p0] H Q = R d TP_wordEnd k_TP_wordEnd_0 [va p0, vu] [] H Q := sorry
theorem en_TP_isLetter {d : Nat} {p0 : Int} {H : Hp} {Q : AV → Hp → Prop} : CC d TP_isLetter [vi p0] H Q = R d TP_isLetter k_TP_isLetter_0 [vi p0] [] H Q := sorry
theorem en_TP_isDigit {d : Nat} {p0 : Int} {H : Hp} {Q : AV → Hp → Prop} : CC d TP_isDigit [vi p0] H Q = R d TP_isDigit k_TP_isDigit_0 [vi p0] [] H Q := sorry
theorem en_TP_isBlank {d : Nat} {p0 : Int} {H : Hp} {Q : AV → Hp → Prop} : CC d TP_isBlank [vi p0] H Q = R d TP_isBlank k_TP_isBlank_0 [vi p0] [] H Q := sorry
theorem en_TR_init {d : Nat} {p0 : Int} {H : Hp} {Q : AV → Hp → Prop} : CC d TR_init [va p0] H Q = R d TR_init k_TR_init_0 [va p0] [] H Q := sorry
theorem en_TR_forget {d : Nat} {p0 : Int} {H : Hp} {Q : AV → Hp → Prop} : CC d TR_forget [va p0] H Q = R d TR_forget k_TR_forget_0 [va p0] [] H Q := sorry
theorem en_TR_firstUnfit {d : Nat} {p0 : Int} {H : Hp} {Q : AV → Hp → Prop} : CC d TR_firstUnfit [va p0] H Q = R d TR_firstUnfit k_TR_firstUnfit_0 [va p0, vu] [] H Q := sorry
theorem en_TR_told {d : Nat} {p0 p1 p2 p3 : Int} {H : Hp} {Q : AV → Hp → Prop} : CC d TR_told [va p0, va p1, vi p2, vi p3] H Q = R d TR_told k_TR_told_0 [va p0, va p1, vi p2, vi p3] [] H Q := sorry
theorem en_TR_crookedSeats {d : Nat} {p0 p1 : Int} {H : Hp} {Q : AV → Hp → Prop} : CC d TR_crookedSeats [va p0, va p1] H Q = R d TR_crookedSeats k_TR_crookedSeats_0 [va p0, va p1, vu, vu] [] H Q := sorry
theorem en_TR_gapAsTold {d : Nat} {p0 p1 : Int} {H : Hp} {Q : AV → Hp → Prop} : CC d TR_gapAsTold [va p0, vi p1] H Q = R d TR_gapAsTold k_TR_gapAsTold_0 [va p0, vi p1, vu, vu, vu] [] H Q := sorry
theorem en_TR_canBeCrooked {d : Nat} {p0 p1 p2 : Int} {H : Hp} {Q : AV → Hp → Prop} : CC d TR_canBeCrooked [va p0, va p1, vi p2] H Q = R d TR_canBeCrooked k_TR_canBeCrooked_0 [va p0, va p1, vi p2, vu, vu] [] H Q := sorry
theorem en_TR_allFitWith {d : Nat} {p0 p1 p2 : Int} {H : Hp} {Q : AV → Hp → Prop} : CC d TR_allFitWith [va p0, va p1, vi p2] H Q = R d TR_allFitWith k_TR_allFitWith_0 [va p0, va p1, vi p2, vu] [] H Q := sorry
theorem en_TR_countRows {d : Nat} {p0 p1 : Int} {H : Hp} {Q : AV → Hp → Prop} : CC d TR_countRows [va p0, va p1] H Q = R d TR_countRows k_TR_countRows_0 [va p0, va p1, vu] [] H Q := sorry
theorem en_TR_setBounds {d : Nat} {p0 p1 p2 : Int} {H : Hp} {Q : AV → Hp → Prop} : CC d TR_setBounds [va p0, va p1, vi p2] H Q = R d TR_setBounds k_TR_setBounds_0 [va p0, va p1, vi p2, vu, vu, vu, vu] [] H Q := sorry
theorem en_TR_rowsFrom {d : Nat} {p0 p1 p2 : Int} {H : Hp} {Q : AV → Hp → Prop} : CC d TR_rowsFrom [va p0, va p1, vi p2] H Q = R d TR_rowsFrom k_TR_rowsFrom_0 [va p0, va p1, vi p2, vu, vu, vu, vu] [] H Q := sorry
theorem en_TR_verdictFrom {d : Nat} {p0 p1 p2 : Int} {H : Hp} {Q : AV → Hp → Prop} : CC d TR_verdictFrom [va p0, va p1, vi p2] H Q = R d TR_verdictFrom k_TR_verdictFrom_0 [va p0, va p1, vi p2, vu, vu, vu, vu, vu, vu, vu, vu, vu] [] H Q := sorry
theorem en_TR_allRowsFrom {d : Nat} {p0 p1 p2 : Int} {H : Hp} {Q : AV → Hp → Prop} : CC d TR_allRowsFrom [va p0, va p1, vi p2] H Q = R d TR_allRowsFrom k_TR_allRowsFrom_0 [va p0, va p1, vi p2, vu, vu] [] H Q := sorry
theorem en_TR_rowsOfLast {d : Nat} {p0 p1 p2 : Int} {H : Hp} {Q : AV → Hp → Prop} : CC d TR_rowsOfLast [va p0, va p1, vi p2] H Q = R d TR_rowsOfLast k_TR_rowsOfLast_0 [va p0, va p1, vi p2, vu, vu, vu, vu, vu, vu, vu, vu, vu, vu, vu] [] H Q := sorry
theorem en_TR_tryMore {d : Nat} {p0 p1 p2 p3 : Int} {H : Hp} {Q : AV → Hp → Prop} : CC d TR_tryMore [va p0, va p1, vi p2, vi p3] H Q = R d TR_tryMore k_TR_tryMore_0 [va p0, va p1, vi p2, vi p3, vu] [] H Q := sorry
theorem en_TR_noteStrengths {d : Nat} {p0 p1 p2 p3 : Int} {H : Hp} {Q : AV → Hp → Prop} : CC d TR_noteStrengths [va p0, vi p1, vi p2, vi p3] H Q = R d TR_noteStrengths k_TR_noteStrengths_0 [va p0, vi p1, vi p2, vi p3] [] H Q := sorry
theorem en_EO_init {d : Nat} {p0 : Int} {H : Hp} {Q : AV → Hp → Prop} : CC d EO_init [va p0] H Q = R d EO_init k_EO_init_0 [va p0] [] H Q := sorry
theorem en_EO_feed {d : Nat} {p0 p1 p2 p3 p4 p5 : Int} {H : Hp} {Q : AV → Hp → Prop} : CC d EO_feed [va p0, vi p1, vi p2, vi p3, vi p4, vi p5] H Q = R d EO_feed k_EO_feed_0 [va p0, vi p1, vi p2, vi p3, vi p4, vi p5] [] H Q := sorry
theorem en_EO_end {d : Nat} {p0 p1 : Int} {H : Hp} {Q : AV → Hp → Prop} : CC d EO_end [va p0, vi p1] H Q = R d EO_end k_EO_end_0 [va p0, vi p1] [] H Q := sorry
theorem en_EO_text {d : Nat} {p0 : Int} {H : Hp} {Q : AV → Hp → Prop} : CC d EO_text [va p0] H Q = R d EO_text k_EO_text_0 [va p0, vu, vu] [] H Q := sorry
theorem en_EO_fault {d : Nat} {p0 p1 : Int} {H : Hp} {Q : AV → Hp → Prop} : CC d EO_fault [va p0, vi p1] H Q = R d EO_fault k_EO_fault_0 [va p0, vi p1] [] H Q := sorry
theorem en_EO_boat {d : Nat} {p0 p1 : Int} {H : Hp} {Q : AV → Hp → Prop} : CC d EO_boat [va p0, vi p1] H Q = R d EO_boat k_EO_boat_0 [va p0, vi p1, vu] [] H Q := sorry
theorem en_EO_letter {d : Nat} {p0 p1 p2 : Int} {H : Hp} {Q : AV → Hp → Prop} : CC d EO_letter [va p0, vi p1, vi p2] H Q = R d EO_letter k_EO_letter_0 [va p0, vi p1, vi p2] [] H Q := sorry
theorem en_EO_seat {d : Nat} {p0 p1 p2 : Int} {H : Hp} {Q : AV → Hp → Prop} : CC d EO_seat [va p0, vi p1, vi p2] H Q = R d EO_seat k_EO_seat_0 [va p0, vi p1, vi p2, vu] [] H Q := sorry
theorem en_EO_rower {d : Nat} {p0 p1 p2 : Int} {H : Hp} {Q : AV → Hp → Prop} : CC d EO_rower [va p0, vi p1, vi p2] H Q = R d EO_rower k_EO_rower_0 [va p0, vi p1, vi p2, vu] [] H Q := sorry
theorem en_EO_want {d : Nat} {p0 p1 : Int} {H : Hp} {Q : AV → Hp → Prop} : CC d EO_want [va p0, vi p1] H Q = R d EO_want k_EO_want_0 [va p0, vi p1] [] H Q := sorry
theorem en_EO_swing {d : Nat} {p0 p1 p2 : Int} {H : Hp} {Q : AV → Hp → Prop} : CC d EO_swing [va p0, vi p1, vi p2] H Q = R d EO_swing k_EO_swing_0 [va p0, vi p1, vi p2] [] H Q := sorry
theorem en_EO_off {d : Nat} {p0 : Int} {H : Hp} {Q : AV → Hp → Prop} : CC d EO_off [va p0] H Q = R d EO_off k_EO_off_0 [va p0] [] H Q := sorry
theorem en_EO_good {d : Nat} {p0 : Int} {H : Hp} {Q : AV → Hp → Prop} : CC d EO_good [va p0] H Q = R d EO_good k_EO_good_0 [va p0] [] H Q := sorry
theorem en_EO_lawful {d : Nat} {p0 : Int} {H : Hp} {Q : AV → Hp → Prop} : CC d EO_lawful [va p0] H Q = R d EO_lawful k_EO_lawful_0 [va p0] [] H Q := sorry
theorem en_EO_heading {d : Nat} {p0 : Int} {H : Hp} {Q : AV → Hp → Prop} : CC d EO_heading [va p0] H Q = R d EO_heading k_EO_heading_0 [va p0] [] H Q := sorry
theorem en_EO_turn {d : Nat} {p0 p1 : Int} {H : Hp} {Q : AV → Hp → Prop} : CC d EO_turn [va p0, vi p1] H Q = R d EO_turn k_EO_turn_0 [va p0, vi p1] [] H Q := sorry
theorem en_EO_swap {d : Nat} {p0 p1 p2 : Int} {H : Hp} {Q : AV → Hp → Prop} : CC d EO_swap [va p0, vi p1, vi p2] H Q = R d EO_swap k_EO_swap_0 [va p0, vi p1, vi p2] [] H Q := sorry
theorem en_EO_stroke {d : Nat} {p0 p1 : Int} {H : Hp} {Q : AV → Hp → Prop} : CC d EO_stroke [va p0, vi p1] H Q = R d EO_stroke k_EO_stroke_0 [va p0, vi p1] [] H Q := sorry
theorem en_EO_row {d : Nat} {p0 p1 : Int} {H : Hp} {Q : AV → Hp → Prop} : CC d EO_row [va p0, vi p1] H Q = R d EO_row k_EO_row_0 [va p0, vi p1] [] H Q := sorry
theorem en_EO_undo {d : Nat} {p0 : Int} {H : Hp} {Q : AV → Hp → Prop} : CC d EO_undo [va p0] H Q = R d EO_undo k_EO_undo_0 [va p0] [] H Q := sorry
theorem en_EO_seed {d : Nat} {p0 p1 : Int} {H : Hp} {Q : AV → Hp → Prop} : CC d EO_seed [va p0, vi p1] H Q = R d EO_seed k_EO_seed_0 [va p0, vi p1] [] H Q := sorry
theorem en_EO_ways {d : Nat} {p0 p1 : Int} {H : Hp} {Q : AV → Hp → Prop} : CC d EO_ways [va p0, vi p1] H Q = R d EO_ways k_EO_ways_0 [va p0, vi p1] [] H Q := sorry
theorem en_EO_made {d : Nat} {p0 p1 p2 : Int} {H : Hp} {Q : AV → Hp → Prop} : CC d EO_made [va p0, vi p1, vi p2] H Q = R d EO_made k_EO_made_0 [va p0, vi p1, vi p2] [] H Q := sorry
theorem en_EO_doubled {d : Nat} {p0 p1 p2 : Int} {H : Hp} {Q : AV → Hp → Prop} : CC d EO_doubled [va p0, vi p1, vi p2] H Q = R d EO_doubled k_EO_doubled_0 [va p0, vi p1, vi p2] [] H Q := sorry
theorem en_EO_still {d : Nat} {p0 p1 p2 : Int} {H : Hp} {Q : AV → Hp → Prop} : CC d EO_still [va p0, vi p1, vi p2] H Q = R d EO_still k_EO_still_0 [va p0, vi p1, vi p2] [] H Q := sorry
theorem en_EO_nearest {d : Nat} {p0 p1 : Int} {H : Hp} {Q : AV → Hp → Prop} : CC d EO_nearest [va p0, vi p1] H Q = R d EO_nearest k_EO_nearest_0 [va p0, vi p1] [] H Q := sorry
theorem en_EO_seated {d : Nat} {p0 p1 : Int} {H : Hp} {Q : AV → Hp → Prop} : CC d EO_seated [va p0, vi p1] H Q = R d EO_seated k_EO_seated_0 [va p0, vi p1, vu] [] H Q := sorry
theorem en_EO_changes {d : Nat} {p0 : Int} {H : Hp} {Q : AV → Hp → Prop} : CC d EO_changes [va p0] H Q = R d EO_changes k_EO_changes_0 [va p0] [] H Q := sorry
theorem en_EO_race {d : Nat} {p0 p1 : Int} {H : Hp} {Q : AV → Hp → Prop} : CC d EO_race [va p0, vi p1] H Q = R d EO_race k_EO_race_0 [va p0, vi p1] [] H Q := sorry
theorem en_EO_stillest {d : Nat} {p0 p1 p2 : Int} {H : Hp} {Q : AV → Hp → Prop} : CC d EO_stillest [va p0, vi p1, vi p2] H Q = R d EO_stillest k_EO_stillest_0 [va p0, vi p1, vi p2] [] H Q := sorry
theorem en_EO_under {d : Nat} {p0 p1 p2 : Int} {H : Hp} {Q : AV → Hp → Prop} : CC d EO_under [va p0, vi p1, vi p2] H Q = R d EO_under k_EO_under_0 [va p0, vi p1, vi p2] [] H Q := sorry
theorem en_EO_fits {d : Nat} {p0 : Int} {H : Hp} {Q : AV → Hp → Prop} : CC d EO_fits [va p0] H Q = R d EO_fits k_EO_fits_0 [va p0] [] H Q := sorry
theorem en_EO_strengths {d : Nat} {p0 p1 p2 : Int} {H : Hp} {Q : AV → Hp → Prop} : CC d EO_strengths [va p0, vi p1, vi p2] H Q = R d EO_strengths k_EO_strengths_0 [va p0, vi p1, vi p2] [] H Q := sorry
theorem en_EO_crooked {d : Nat} {p0 : Int} {H : Hp} {Q : AV → Hp → Prop} : CC d EO_crooked [va p0] H Q = R d EO_crooked k_EO_crooked_0 [va p0] [] H Q := sorry
theorem en_EO_heirs {d : Nat} {p0 p1 : Int} {H : Hp} {Q : AV → Hp → Prop} : CC d EO_heirs [va p0, vi p1] H Q = R d EO_heirs k_EO_heirs_0 [va p0, vi p1] [] H Q := sorry
theorem en_EO_apart {d : Nat} {p0 p1 p2 : Int} {H : Hp} {Q : AV → Hp → Prop} : CC d EO_apart [va p0, vi p1, vi p2] H Q = R d EO_apart k_EO_apart_0 [va p0, vi p1, vi p2] [] H Q := sorry
theorem en_EO_ask {d : Nat} {p0 : Int} {H : Hp} {Q : AV → Hp → Prop} : CC d EO_ask [va p0] H Q = R d EO_ask k_EO_ask_0 [va p0, vu] [] H Q := sorry
theorem en_EO_image {d : Nat} {p0 : Int} {H : Hp} {Q : AV → Hp → Prop} : CC d EO_image [va p0] H Q = R d EO_image k_EO_image_0 [va p0] [] H Q := sorry
theorem en_EO_octet {d : Nat} {p0 p1 : Int} {H : Hp} {Q : AV → Hp → Prop} : CC d EO_octet [va p0, vi p1] H Q = R d EO_octet k_EO_octet_0 [va p0, vi p1] [] H Q := sorry
theorem en_EO_on {d : Nat} {p0 : Int} {H : Hp} {Q : AV → Hp → Prop} : CC d EO_on [va p0] H Q = R d EO_on k_EO_on_0 [va p0, vu] [] H Q := sorry
theorem en_EO_status {d : Nat} {p0 p1 : Int} {H : Hp} {Q : AV → Hp → Prop} : CC d EO_status [va p0, vi p1] H Q = R d EO_status k_EO_status_0 [va p0, vi p1] [] H Q := sorry
theorem en_EO_refuse {d : Nat} {p0 p1 : Int} {H : Hp} {Q : AV → Hp → Prop} : CC d EO_refuse [va p0, vi p1] H Q = R d EO_refuse k_EO_refuse_0 [va p0, vi p1] [] H Q := sorry
theorem en_EO_canGoBy {d : Nat} {p0 p1 : Int} {H : Hp} {Q : AV → Hp → Prop} : CC d EO_canGoBy [va p0, vi p1] H Q = R d EO_canGoBy k_EO_canGoBy_0 [va p0, vi p1] [] H Q := sorry
theorem en_EO_keepFault {d : Nat} {p0 : Int} {H : Hp} {Q : AV → Hp → Prop} : CC d EO_keepFault [va p0] H Q = R d EO_keepFault k_EO_keepFault_0 [va p0] [] H Q := sorry
theorem en_MO_init {d : Nat} {p0 : Int} {H : Hp} {Q : AV → Hp → Prop} : CC d MO_init [va p0] H Q = R d MO_init k_MO_init_0 [va p0] [] H Q := sorry
theorem en_MO_isIn {d : Nat} {p0 p1 p2 : Int} {H : Hp} {Q : AV → Hp → Prop} : CC d MO_isIn [vl p0, vl p1, vl p2] H Q = R d MO_isIn k_MO_isIn_0 [vl p0, vu, vl p1, vu, vl p2, vu] [] H Q := sorry
theorem en_MO_feed {d : Nat} {p0 p1 p2 p3 p4 p5 : Int} {H : Hp} {Q : AV → Hp → Prop} : CC d MO_feed [va p0, vi p1, vi p2, vi p3, vi p4, vi p5] H Q = R d MO_feed k_MO_feed_0 [va p0, vi p1, vi p2, vi p3, vi p4, vi p5, vu, vu] [] H Q := sorry
theorem en_MO_end {d : Nat} {p0 p1 : Int} {H : Hp} {Q : AV → Hp → Prop} : CC d MO_end [va p0, vi p1] H Q = R d MO_end k_MO_end_0 [va p0, vi p1] [] H Q := sorry
theorem en_MO_fail {d : Nat} {p0 p1 p2 : Int} {H : Hp} {Q : AV → Hp → Prop} : CC d MO_fail [va p0, vi p1, vi p2] H Q = R d MO_fail k_MO_fail_0 [va p0, vi p1, vi p2] [] H Q := sorry
theorem en_MO_isLetter {d : Nat} {p0 : Int} {H : Hp} {Q : AV → Hp → Prop} : CC d MO_isLetter [vi p0] H Q = R d MO_isLetter k_MO_isLetter_0 [vi p0] [] H Q := sorry
theorem en_MO_isDigit {d : Nat} {p0 : Int} {H : Hp} {Q : AV → Hp → Prop} : CC d MO_isDigit [vi p0] H Q = R d MO_isDigit k_MO_isDigit_0 [vi p0] [] H Q := sorry
theorem en_MO_look {d : Nat} {p0 : Int} {H : Hp} {Q : AV → Hp → Prop} : CC d MO_look [va p0] H Q = R d MO_look k_MO_look_0 [va p0] [] H Q := sorry
theorem en_MO_isHere {d : Nat} {p0 p1 : Int} {H : Hp} {Q : AV → Hp → Prop} : CC d MO_isHere [va p0, va p1] H Q = R d MO_isHere k_MO_isHere_0 [va p0, va p1, vu, vu] [] H Q := sorry
theorem en_MO_takes {d : Nat} {p0 p1 : Int} {H : Hp} {Q : AV → Hp → Prop} : CC d MO_takes [va p0, va p1] H Q = R d MO_takes k_MO_takes_0 [va p0, va p1] [] H Q := sorry
theorem en_MO_asks {d : Nat} {p0 p1 : Int} {H : Hp} {Q : AV → Hp → Prop} : CC d MO_asks [va p0, va p1] H Q = R d MO_asks k_MO_asks_0 [va p0, va p1] [] H Q := sorry
theorem en_MO_takesSign {d : Nat} {p0 p1 : Int} {H : Hp} {Q : AV → Hp → Prop} : CC d MO_takesSign [va p0, vi p1] H Q = R d MO_takesSign k_MO_takesSign_0 [va p0, vi p1] [] H Q := sorry
theorem en_MO_asksSign {d : Nat} {p0 p1 : Int} {H : Hp} {Q : AV → Hp → Prop} : CC d MO_asksSign [va p0, vi p1] H Q = R d MO_asksSign k_MO_asksSign_0 [va p0, vi p1] [] H Q := sorry
theorem en_MO_number {d : Nat} {p0 p1 p2 : Int} {H : Hp} {Q : AV → Hp → Prop} : CC d MO_number [va p0, vi p1, vi p2] H Q = R d MO_number k_MO_number_0 [va p0, vi p1, vi p2, vu, vu] [] H Q := sorry
theorem en_MO_signed {d : Nat} {p0 p1 : Int} {H : Hp} {Q : AV → Hp → Prop} : CC d MO_signed [va p0, vi p1] H Q = R d MO_signed k_MO_signed_0 [va p0, vi p1, vu, vu, vu] [] H Q := sorry
theorem en_MO_isOwnHere {d : Nat} {p0 : Int} {H : Hp} {Q : AV → Hp → Prop} : CC d MO_isOwnHere [va p0] H Q = R d MO_isOwnHere k_MO_isOwnHere_0 [va p0, vu] [] H Q := sorry
theorem en_MO_name {d : Nat} {p0 : Int} {H : Hp} {Q : AV → Hp → Prop} : CC d MO_name [va p0] H Q = R d MO_name k_MO_name_0 [va p0, vu, vu] [] H Q := sorry
theorem en_MO_isFull {d : Nat} {p0 p1 p2 p3 : Int} {H : Hp} {Q : AV → Hp → Prop} : CC d MO_isFull [va p0, vi p1, vi p2, vi p3] H Q = R d MO_isFull k_MO_isFull_0 [va p0, vi p1, vi p2, vi p3] [] H Q := sorry
theorem en_MO_seatAt {d : Nat} {p0 p1 : Int} {H : Hp} {Q : AV → Hp → Prop} : CC d MO_seatAt [va p0, vi p1] H Q = R d MO_seatAt k_MO_seatAt_0 [va p0, vi p1, vu] [] H Q := sorry
theorem en_MO_seatTold {d : Nat} {p0 p1 : Int} {H : Hp} {Q : AV → Hp → Prop} : CC d MO_seatTold [va p0, vi p1] H Q = R d MO_seatTold k_MO_seatTold_0 [va p0, vi p1, vu, vu, vu] [] H Q := sorry
theorem en_MO_rowerTold {d : Nat} {p0 p1 : Int} {H : Hp} {Q : AV → Hp → Prop} : CC d MO_rowerTold [va p0, vi p1] H Q = R d MO_rowerTold k_MO_rowerTold_0 [va p0, vi p1, vu, vu, vu, vu, vu] [] H Q := sorry
theorem en_MO_fixTold {d : Nat} {p0 : Int} {H : Hp} {Q : AV → Hp → Prop} : CC d MO_fixTold [va p0] H Q = R d MO_fixTold k_MO_fixTold_0 [va p0, vu, vu, vu] [] H Q := sorry
theorem en_MO_wantTold {d : Nat} {p0 : Int} {H : Hp} {Q : AV → Hp → Prop} : CC d MO_wantTold [va p0] H Q = R d MO_wantTold k_MO_wantTold_0 [va p0, vu, vu] [] H Q := sorry
theorem en_MO_sidesTold {d : Nat} {p0 p1 : Int} {H : Hp} {Q : AV → Hp → Prop} : CC d MO_sidesTold [va p0, vi p1] H Q = R d MO_sidesTold k_MO_sidesTold_0 [va p0, vi p1, vu, vu, vu] [] H Q := sorry
theorem en_MO_runTold {d : Nat} {p0 p1 : Int} {H : Hp} {Q : AV → Hp → Prop} : CC d MO_runTold [va p0, vi p1] H Q = R d MO_runTold k_MO_runTold_0 [va p0, vi p1, vu, vu, vu] [] H Q := sorry
theorem en_MO_payTold {d : Nat} {p0 p1 : Int} {H : Hp} {Q : AV → Hp → Prop} : CC d MO_payTold [va p0, vi p1] H Q = R d MO_payTold k_MO_payTold_0 [va p0, vi p1, vu, vu] [] H Q := sorry
theorem en_MO_statementTold {d : Nat} {p0 : Int} {H : Hp} {Q : AV → Hp → Prop} : CC d MO_statementTold [va p0] H Q = R d MO_statementTold k_MO_statementTold_0 [va p0, vu] [] H Q := sorry
theorem en_MO_text {d : Nat} {p0 : Int} {H : Hp} {Q : AV → Hp → Prop} : CC d MO_text [va p0] H Q = R d MO_text k_MO_text_0 [va p0, vu] [] H Q := sorry
theorem en_MO_stands {d : Nat} {p0 : Int} {H : Hp} {Q : AV → Hp → Prop} : CC d MO_stands [va p0] H Q = R d MO_stands k_MO_stands_0 [va p0, vu, vu] [] H Q := sorry
theorem en_MO_fault {d : Nat} {p0 p1 : Int} {H : Hp} {Q : AV → Hp → Prop} : CC d MO_fault [va p0, vi p1] H Q = R d MO_fault k_MO_fault_0 [va p0, vi p1] [] H Q := sorry
theorem en_MO_seats {d : Nat} {p0 : Int} {H : Hp} {Q : AV → Hp → Prop} : CC d MO_seats [va p0] H Q = R d MO_seats k_MO_seats_0 [va p0] [] H Q := sorry
theorem en_MO_rowers {d : Nat} {p0 : Int} {H : Hp} {Q : AV → Hp → Prop} : CC d MO_rowers [va p0] H Q = R d MO_rowers k_MO_rowers_0 [va p0] [] H Q := sorry
theorem en_MO_runs {d : Nat} {p0 : Int} {H : Hp} {Q : AV → Hp → Prop} : CC d MO_runs [va p0] H Q = R d MO_runs k_MO_runs_0 [va p0] [] H Q := sorry
theorem en_MO_each {d : Nat} {p0 : Int} {H : Hp} {Q : AV → Hp → Prop} : CC d MO_each [va p0] H Q = R d MO_each k_MO_each_0 [va p0] [] H Q := sorry
theorem en_MO_near {d : Nat} {p0 : Int} {H : Hp} {Q : AV → Hp → Prop} : CC d MO_near [va p0] H Q = R d MO_near k_MO_near_0 [va p0] [] H Q := sorry
theorem en_MO_isSeat {d : Nat} {p0 p1 : Int} {H : Hp} {Q : AV → Hp → Prop} : CC d MO_isSeat [va p0, vi p1] H Q = R d MO_isSeat k_MO_isSeat_0 [va p0, vi p1] [] H Q := sorry
theorem en_MO_isRower {d : Nat} {p0 p1 : Int} {H : Hp} {Q : AV → Hp → Prop} : CC d MO_isRower [va p0, vi p1] H Q = R d MO_isRower k_MO_isRower_0 [va p0, vi p1] [] H Q := sorry
theorem en_MO_isFixed {d : Nat} {p0 p1 : Int} {H : Hp} {Q : AV → Hp → Prop} : CC d MO_isFixed [va p0, vi p1] H Q = R d MO_isFixed k_MO_isFixed_0 [va p0, vi p1] [] H Q := sorry
theorem en_MO_strengthAt {d : Nat} {p0 p1 p2 : Int} {H : Hp} {Q : AV → Hp → Prop} : CC d MO_strengthAt [va p0, vi p1, vi p2] H Q = R d MO_strengthAt k_MO_strengthAt_0 [va p0, vi p1, vi p2, vu] [] H Q := sorry
theorem en_MO_pullOf {d : Nat} {p0 p1 p2 : Int} {H : Hp} {Q : AV → Hp → Prop} : CC d MO_pullOf [va p0, vi p1, vi p2] H Q = R d MO_pullOf k_MO_pullOf_0 [va p0, vi p1, vi p2] [] H Q := sorry
theorem en_MO_raised {d : Nat} {p0 p1 : Int} {H : Hp} {Q : AV → Hp → Prop} : CC d MO_raised [vi p0, vi p1] H Q = R d MO_raised k_MO_raised_0 [vi p0, vi p1, vu, vu, vu] [] H Q := sorry
theorem en_MO_swingBy {d : Nat} {p0 p1 p2 p3 : Int} {H : Hp} {Q : AV → Hp → Prop} : CC d MO_swingBy [va p0, vi p1, vi p2, vi p3] H Q = R d MO_swingBy k_MO_swingBy_0 [va p0, vi p1, vi p2, vi p3, vu, vu, vu, vu, vu] [] H Q := sorry
theorem en_MO_size {d : Nat} {p0 : Int} {H : Hp} {Q : AV → Hp → Prop} : CC d MO_size [vl p0] H Q = R d MO_size k_MO_size_0 [vl p0, vu] [] H Q := sorry
theorem en_MO_isWantedOf {d : Nat} {p0 p1 : Int} {H : Hp} {Q : AV → Hp → Prop} : CC d MO_isWantedOf [va p0, vi p1] H Q = R d MO_isWantedOf k_MO_isWantedOf_0 [va p0, vi p1] [] H Q := sorry
theorem en_MO_offBy {d : Nat} {p0 p1 : Int} {H : Hp} {Q : AV → Hp → Prop} : CC d MO_offBy [va p0, vi p1] H Q = R d MO_offBy k_MO_offBy_0 [va p0, vi p1, vu, vu, vu] [] H Q := sorry
theorem en_MO_isGood {d : Nat} {p0 p1 : Int} {H : Hp} {Q : AV → Hp → Prop} : CC d MO_isGood [va p0, vi p1] H Q = R d MO_isGood k_MO_isGood_0 [va p0, vi p1, vu] [] H Q := sorry
theorem en_MO_bits {d : Nat} {p0 : Int} {H : Hp} {Q : AV → Hp → Prop} : CC d MO_bits [vi p0] H Q = R d MO_bits k_MO_bits_0 [vi p0, vu, vu] [] H Q := sorry
theorem en_MO_isLawful {d : Nat} {p0 p1 : Int} {H : Hp} {Q : AV → Hp → Prop} : CC d MO_isLawful [va p0, vi p1] H Q = R d MO_isLawful k_MO_isLawful_0 [va p0, vi p1, vu] [] H Q := sorry
theorem en_MO_fixedMany {d : Nat} {p0 : Int} {H : Hp} {Q : AV → Hp → Prop} : CC d MO_fixedMany [va p0] H Q = R d MO_fixedMany k_MO_fixedMany_0 [va p0, vu, vu] [] H Q := sorry
theorem en_MO_wants {d : Nat} {p0 : Int} {H : Hp} {Q : AV → Hp → Prop} : CC d MO_wants [va p0] H Q = R d MO_wants k_MO_wants_0 [va p0, vu, vu] [] H Q := sorry
theorem en_MO_boat {d : Nat} {p0 p1 : Int} {H : Hp} {Q : AV → Hp → Prop} : CC d MO_boat [va p0, vi p1] H Q = R d MO_boat k_MO_boat_0 [va p0, vi p1] [] H Q := sorry
theorem en_MO_letter {d : Nat} {p0 p1 p2 : Int} {H : Hp} {Q : AV → Hp → Prop} : CC d MO_letter [va p0, vi p1, vi p2] H Q = R d MO_letter k_MO_letter_0 [va p0, vi p1, vi p2, vu, vu, vu, vu, vu] [] H Q := sorry
theorem en_MO_seat {d : Nat} {p0 p1 p2 : Int} {H : Hp} {Q : AV → Hp → Prop} : CC d MO_seat [va p0, vi p1, vi p2] H Q = R d MO_seat k_MO_seat_0 [va p0, vi p1, vi p2] [] H Q := sorry
theorem en_MO_seatOf {d : Nat} {p0 p1 : Int} {H : Hp} {Q : AV → Hp → Prop} : CC d MO_seatOf [va p0, vi p1] H Q = R d MO_seatOf k_MO_seatOf_0 [va p0, vi p1, vu] [] H Q := sorry
theorem en_MO_rower {d : Nat} {p0 p1 p2 : Int} {H : Hp} {Q : AV → Hp → Prop} : CC d MO_rower [va p0, vi p1, vi p2] H Q = R d MO_rower k_MO_rower_0 [va p0, vi p1, vi p2] [] H Q := sorry
theorem en_MO_isPower {d : Nat} {p0 : Int} {H : Hp} {Q : AV → Hp → Prop} : CC d MO_isPower [vi p0] H Q = R d MO_isPower k_MO_isPower_0 [vi p0] [] H Q := sorry
theorem en_MO_want {d : Nat} {p0 p1 : Int} {H : Hp} {Q : AV → Hp → Prop} : CC d MO_want [va p0, vi p1] H Q = R d MO_want k_MO_want_0 [va p0, vi p1] [] H Q := sorry
theorem en_MO_swing {d : Nat} {p0 p1 p2 : Int} {H : Hp} {Q : AV → Hp → Prop} : CC d MO_swing [va p0, vi p1, vi p2] H Q = R d MO_swing k_MO_swing_0 [va p0, vi p1, vi p2] [] H Q := sorry
theorem en_MO_off {d : Nat} {p0 : Int} {H : Hp} {Q : AV → Hp → Prop} : CC d MO_off [va p0] H Q = R d MO_off k_MO_off_0 [va p0] [] H Q := sorry
theorem en_MO_good {d : Nat} {p0 : Int} {H : Hp} {Q : AV → Hp → Prop} : CC d MO_good [va p0] H Q = R d MO_good k_MO_good_0 [va p0] [] H Q := sorry
theorem en_MO_lawful {d : Nat} {p0 : Int} {H : Hp} {Q : AV → Hp → Prop} : CC d MO_lawful [va p0] H Q = R d MO_lawful k_MO_lawful_0 [va p0] [] H Q := sorry
theorem en_MO_heading {d : Nat} {p0 : Int} {H : Hp} {Q : AV → Hp → Prop} : CC d MO_heading [va p0] H Q = R d MO_heading k_MO_heading_0 [va p0] [] H Q := sorry
theorem en_MO_keeps {d : Nat} {p0 : Int} {H : Hp} {Q : AV → Hp → Prop} : CC d MO_keeps [va p0] H Q = R d MO_keeps k_MO_keeps_0 [va p0, vu] [] H Q := sorry
theorem en_MO_undo {d : Nat} {p0 : Int} {H : Hp} {Q : AV → Hp → Prop} : CC d MO_undo [va p0] H Q = R d MO_undo k_MO_undo_0 [va p0, vu] [] H Q := sorry
theorem en_MO_turn {d : Nat} {p0 p1 : Int} {H : Hp} {Q : AV → Hp → Prop} : CC d MO_turn [va p0, vi p1] H Q = R d MO_turn k_MO_turn_0 [va p0, vi p1] [] H Q := sorry
theorem en_MO_changesSeats {d : Nat} {p0 p1 p2 : Int} {H : Hp} {Q : AV → Hp → Prop} : CC d MO_changesSeats [va p0, vi p1, vi p2] H Q = R d MO_changesSeats k_MO_changesSeats_0 [va p0, vi p1, vi p2, vu] [] H Q := sorry
theorem en_MO_canSwap {d : Nat} {p0 p1 p2 : Int} {H : Hp} {Q : AV → Hp → Prop} : CC d MO_canSwap [va p0, vi p1, vi p2] H Q = R d MO_canSwap k_MO_canSwap_0 [va p0, vi p1, vi p2] [] H Q := sorry
theorem en_MO_swap {d : Nat} {p0 p1 p2 : Int} {H : Hp} {Q : AV → Hp → Prop} : CC d MO_swap [va p0, vi p1, vi p2] H Q = R d MO_swap k_MO_swap_0 [va p0, vi p1, vi p2] [] H Q := sorry
theorem en_MO_canGo {d : Nat} {p0 p1 : Int} {H : Hp} {Q : AV → Hp → Prop} : CC d MO_canGo [va p0, vi p1] H Q = R d MO_canGo k_MO_canGo_0 [va p0, vi p1] [] H Q := sorry
theorem en_MO_stroke {d : Nat} {p0 p1 : Int} {H : Hp} {Q : AV → Hp → Prop} : CC d MO_stroke [va p0, vi p1] H Q = R d MO_stroke k_MO_stroke_0 [va p0, vi p1] [] H Q := sorry
theorem en_MO_seed {d : Nat} {p0 p1 : Int} {H : Hp} {Q : AV → Hp → Prop} : CC d MO_seed [va p0, vi p1] H Q = R d MO_seed k_MO_seed_0 [va p0, vi p1] [] H Q := sorry
theorem en_MO_drawOf {d : Nat} {p0 p1 : Int} {H : Hp} {Q : AV → Hp → Prop} : CC d MO_drawOf [va p0, vi p1] H Q = R d MO_drawOf k_MO_drawOf_0 [va p0, vi p1] [] H Q := sorry
theorem en_MO_rows {d : Nat} {p0 : Int} {H : Hp} {Q : AV → Hp → Prop} : CC d MO_rows [va p0] H Q = R d MO_rows k_MO_rows_0 [va p0, vu, vu, vu, vu] [] H Q := sorry
theorem en_MO_row {d : Nat} {p0 p1 : Int} {H : Hp} {Q : AV → Hp → Prop} : CC d MO_row [va p0, vi p1] H Q = R d MO_row k_MO_row_0 [va p0, vi p1, vu] [] H Q := sorry
theorem en_MO_ways {d : Nat} {p0 p1 : Int} {H : Hp} {Q : AV → Hp → Prop} : CC d MO_ways [va p0, vi p1] H Q = R d MO_ways k_MO_ways_0 [va p0, vi p1, vu, vu, vu, vu, vu] [] H Q := sorry
theorem en_MO_sumBy {d : Nat} {p0 p1 p2 : Int} {H : Hp} {Q : AV → Hp → Prop} : CC d MO_sumBy [vi p0, vi p1, vi p2] H Q = R d MO_sumBy k_MO_sumBy_0 [vi p0, vi p1, vi p2, vu, vu, vu] [] H Q := sorry
theorem en_MO_made {d : Nat} {p0 p1 p2 : Int} {H : Hp} {Q : AV → Hp → Prop} : CC d MO_made [va p0, vi p1, vi p2] H Q = R d MO_made k_MO_made_0 [va p0, vi p1, vi p2, vu, vu] [] H Q := sorry
theorem en_MO_doubled {d : Nat} {p0 p1 p2 : Int} {H : Hp} {Q : AV → Hp → Prop} : CC d MO_doubled [va p0, vi p1, vi p2] H Q = R d MO_doubled k_MO_doubled_0 [va p0, vi p1, vi p2, vu, vu, vu] [] H Q := sorry
theorem en_MO_still {d : Nat} {p0 p1 p2 : Int} {H : Hp} {Q : AV → Hp → Prop} : CC d MO_still [va p0, vi p1, vi p2] H Q = R d MO_still k_MO_still_0 [va p0, vi p1, vi p2, vu] [] H Q := sorry
theorem en_MO_isNearest {d : Nat} {p0 : Int} {H : Hp} {Q : AV → Hp → Prop} : CC d MO_isNearest [va p0] H Q = R d MO_isNearest k_MO_isNearest_0 [va p0, vu, vu, vu] [] H Q := sorry
theorem en_MO_nearest {d : Nat} {p0 p1 : Int} {H : Hp} {Q : AV → Hp → Prop} : CC d MO_nearest [va p0, vi p1] H Q = R d MO_nearest k_MO_nearest_0 [va p0, vi p1, vu, vu] [] H Q := sorry
theorem en_MO_putsAside {d : Nat} {p0 : Int} {H : Hp} {Q : AV → Hp → Prop} : CC d MO_putsAside [va p0] H Q = R d MO_putsAside k_MO_putsAside_0 [va p0, vu] [] H Q := sorry
theorem en_MO_takesBack {d : Nat} {p0 : Int} {H : Hp} {Q : AV → Hp → Prop} : CC d MO_takesBack [va p0] H Q = R d MO_takesBack k_MO_takesBack_0 [va p0, vu] [] H Q := sorry
theorem en_MO_sitBy {d : Nat} {p0 p1 : Int} {H : Hp} {Q : AV → Hp → Prop} : CC d MO_sitBy [va p0, vi p1] H Q = R d MO_sitBy k_MO_sitBy_0 [va p0, vi p1, vu, vu, vu] [] H Q := sorry
theorem en_MO_seated {d : Nat} {p0 p1 : Int} {H : Hp} {Q : AV → Hp → Prop} : CC d MO_seated [va p0, vi p1] H Q = R d MO_seated k_MO_seated_0 [va p0, vi p1, vu, vu, vu, vu, vu, vu, vu] [] H Q := sorry
theorem en_MO_actMany {d : Nat} {p0 : Int} {H : Hp} {Q : AV → Hp → Prop} : CC d MO_actMany [va p0] H Q = R d MO_actMany k_MO_actMany_0 [va p0] [] H Q := sorry
theorem en_MO_acts {d : Nat} {p0 p1 : Int} {H : Hp} {Q : AV → Hp → Prop} : CC d MO_acts [va p0, vi p1] H Q = R d MO_acts k_MO_acts_0 [va p0, vi p1, vu, vu, vu] [] H Q := sorry
theorem en_MO_isRight {d : Nat} {p0 : Int} {H : Hp} {Q : AV → Hp → Prop} : CC d MO_isRight [va p0] H Q = R d MO_isRight k_MO_isRight_0 [va p0] [] H Q := sorry
theorem en_MO_isOneOff {d : Nat} {p0 : Int} {H : Hp} {Q : AV → Hp → Prop} : CC d MO_isOneOff [va p0] H Q = R d MO_isOneOff k_MO_isOneOff_0 [va p0, vu, vu, vu] [] H Q := sorry
theorem en_MO_isTwoOff {d : Nat} {p0 : Int} {H : Hp} {Q : AV → Hp → Prop} : CC d MO_isTwoOff [va p0] H Q = R d MO_isTwoOff k_MO_isTwoOff_0 [va p0, vu, vu, vu] [] H Q := sorry
theorem en_MO_isThreeOff {d : Nat} {p0 : Int} {H : Hp} {Q : AV → Hp → Prop} : CC d MO_isThreeOff [va p0] H Q = R d MO_isThreeOff k_MO_isThreeOff_0 [va p0, vu, vu, vu] [] H Q := sorry
theorem en_MO_changes {d : Nat} {p0 : Int} {H : Hp} {Q : AV → Hp → Prop} : CC d MO_changes [va p0] H Q = R d MO_changes k_MO_changes_0 [va p0] [] H Q := sorry
theorem en_MO_greater {d : Nat} {p0 p1 : Int} {H : Hp} {Q : AV → Hp → Prop} : CC d MO_greater [vl p0, vl p1] H Q = R d MO_greater k_MO_greater_0 [vl p0, vu, vl p1, vu] [] H Q := sorry
theorem en_MO_greatest {d : Nat} {p0 p1 p2 p3 : Int} {H : Hp} {Q : AV → Hp → Prop} : CC d MO_greatest [va p0, vi p1, vi p2, vi p3] H Q = R d MO_greatest k_MO_greatest_0 [va p0, vi p1, vi p2, vi p3, vu, vu, vu] [] H Q := sorry
theorem en_MO_race {d : Nat} {p0 p1 : Int} {H : Hp} {Q : AV → Hp → Prop} : CC d MO_race [va p0, vi p1] H Q = R d MO_race k_MO_race_0 [va p0, vi p1] [] H Q := sorry
theorem en_MO_stillest {d : Nat} {p0 p1 p2 : Int} {H : Hp} {Q : AV → Hp → Prop} : CC d MO_stillest [va p0, vi p1, vi p2] H Q = R d MO_stillest k_MO_stillest_0 [va p0, vi p1, vi p2, vu, vu, vu, vu, vu, vu] [] H Q := sorry
theorem en_MO_underBy {d : Nat} {p0 p1 p2 p3 : Int} {H : Hp} {Q : AV → Hp → Prop} : CC d MO_underBy [va p0, vi p1, vi p2, vi p3] H Q = R d MO_underBy k_MO_underBy_0 [va p0, vi p1, vi p2, vi p3, vu, vu, vu, vu, vu, vu, vu] [] H Q := sorry
theorem en_MO_under {d : Nat} {p0 p1 p2 : Int} {H : Hp} {Q : AV → Hp → Prop} : CC d MO_under [va p0, vi p1, vi p2] H Q = R d MO_under k_MO_under_0 [va p0, vi p1, vi p2, vu, vu] [] H Q := sorry
theorem en_MO_triesTold {d : Nat} {p0 : Int} {H : Hp} {Q : AV → Hp → Prop} : CC d MO_triesTold [va p0] H Q = R d MO_triesTold k_MO_triesTold_0 [va p0, vu] [] H Q := sorry
theorem en_MO_isFit {d : Nat} {p0 p1 : Int} {H : Hp} {Q : AV → Hp → Prop} : CC d MO_isFit [va p0, vi p1] H Q = R d MO_isFit k_MO_isFit_0 [va p0, vi p1, vu, vu, vu, vu, vu, vu] [] H Q := sorry
theorem en_MO_firstUnfit {d : Nat} {p0 : Int} {H : Hp} {Q : AV → Hp → Prop} : CC d MO_firstUnfit [va p0] H Q = R d MO_firstUnfit k_MO_firstUnfit_0 [va p0, vu] [] H Q := sorry
theorem en_MO_fits {d : Nat} {p0 : Int} {H : Hp} {Q : AV → Hp → Prop} : CC d MO_fits [va p0] H Q = R d MO_fits k_MO_fits_0 [va p0] [] H Q := sorry
theorem en_MO_fittingRows {d : Nat} {p0 : Int} {H : Hp} {Q : AV → Hp → Prop} : CC d MO_fittingRows [va p0] H Q = R d MO_fittingRows k_MO_fittingRows_0 [va p0, vu, vu, vu, vu, vu, vu] [] H Q := sorry
theorem en_MO_strengths {d : Nat} {p0 p1 p2 : Int} {H : Hp} {Q : AV → Hp → Prop} : CC d MO_strengths [va p0, vi p1, vi p2] H Q = R d MO_strengths k_MO_strengths_0 [va p0, vi p1, vi p2, vu] [] H Q := sorry
theorem en_MO_crooked {d : Nat} {p0 : Int} {H : Hp} {Q : AV → Hp → Prop} : CC d MO_crooked [va p0] H Q = R d MO_crooked k_MO_crooked_0 [va p0, vu, vu, vu] [] H Q := sorry
theorem en_MO_payments {d : Nat} {p0 : Int} {H : Hp} {Q : AV → Hp → Prop} : CC d MO_payments [va p0] H Q = R d MO_payments k_MO_payments_0 [va p0] [] H Q := sorry
theorem en_MO_apartBy {d : Nat} {p0 p1 p2 : Int} {H : Hp} {Q : AV → Hp → Prop} : CC d MO_apartBy [va p0, vi p1, vi p2] H Q = R d MO_apartBy k_MO_apartBy_0 [va p0, vi p1, vi p2, vu, vu, vu, vu, vu] [] H Q := sorry
theorem en_MO_heirs {d : Nat} {p0 p1 : Int} {H : Hp} {Q : AV → Hp → Prop} : CC d MO_heirs [va p0, vi p1] H Q = R d MO_heirs k_MO_heirs_0 [va p0, vi p1, vu, vu] [] H Q := sorry
theorem en_MO_apart {d : Nat} {p0 p1 p2 : Int} {H : Hp} {Q : AV → Hp → Prop} : CC d MO_apart [va p0, vi p1, vi p2] H Q = R d MO_apart k_MO_apart_0 [va p0, vi p1, vi p2] [] H Q := sorry
theorem en_MO_qCode {d : Nat} {p0 p1 : Int} {H : Hp} {Q : AV → Hp → Prop} : CC d MO_qCode [va p0, vi p1] H Q = R d MO_qCode k_MO_qCode_0 [va p0, vi p1] [] H Q := sorry
theorem en_MO_qOpens {d : Nat} {p0 p1 p2 : Int} {H : Hp} {Q : AV → Hp → Prop} : CC d MO_qOpens [va p0, vi p1, vi p2] H Q = R d MO_qOpens k_MO_qOpens_0 [va p0, vi p1, vi p2] [] H Q := sorry
theorem en_MO_qIsOn {d : Nat} {p0 p1 : Int} {H : Hp} {Q : AV → Hp → Prop} : CC d MO_qIsOn [va p0, vi p1] H Q = R d MO_qIsOn k_MO_qIsOn_0 [va p0, vi p1] [] H Q := sorry
theorem en_MO_qDrops {d : Nat} {p0 : Int} {H : Hp} {Q : AV → Hp → Prop} : CC d MO_qDrops [va p0] H Q = R d MO_qDrops k_MO_qDrops_0 [va p0] [] H Q := sorry
theorem en_MO_qIsBracket {d : Nat} {p0 : Int} {H : Hp} {Q : AV → Hp → Prop} : CC d MO_qIsBracket [vi p0] H Q = R d MO_qIsBracket k_MO_qIsBracket_0 [vi p0] [] H Q := sorry
theorem en_MO_qBracket {d : Nat} {p0 : Int} {H : Hp} {Q : AV → Hp → Prop} : CC d MO_qBracket [va p0] H Q = R d MO_qBracket k_MO_qBracket_0 [va p0, vu] [] H Q := sorry
theorem en_MO_qDropsToBracket {d : Nat} {p0 : Int} {H : Hp} {Q : AV → Hp → Prop} : CC d MO_qDropsToBracket [va p0] H Q = R d MO_qDropsToBracket k_MO_qDropsToBracket_0 [va p0] [] H Q := sorry
theorem en_MO_qWordHere {d : Nat} {p0 : Int} {H : Hp} {Q : AV → Hp → Prop} : CC d MO_qWordHere [va p0] H Q = R d MO_qWordHere k_MO_qWordHere_0 [va p0] [] H Q := sorry
theorem en_MO_qWordOf {d : Nat} {p0 p1 p2 : Int} {H : Hp} {Q : AV → Hp → Prop} : CC d MO_qWordOf [va p0, vi p1, vi p2] H Q = R d MO_qWordOf k_MO_qWordOf_0 [va p0, vi p1, vi p2, vu] [] H Q := sorry
theorem en_MO_qAsksWord {d : Nat} {p0 p1 : Int} {H : Hp} {Q : AV → Hp → Prop} : CC d MO_qAsksWord [va p0, vi p1] H Q = R d MO_qAsksWord k_MO_qAsksWord_0 [va p0, vi p1] [] H Q := sorry
theorem en_MO_qEndsPart {d : Nat} {p0 : Int} {H : Hp} {Q : AV → Hp → Prop} : CC d MO_qEndsPart [va p0] H Q = R d MO_qEndsPart k_MO_qEndsPart_0 [va p0] [] H Q := sorry
theorem en_MO_qPartTold {d : Nat} {p0 : Int} {H : Hp} {Q : AV → Hp → Prop} : CC d MO_qPartTold [va p0] H Q = R d MO_qPartTold k_MO_qPartTold_0 [va p0, vu, vu, vu, vu, vu] [] H Q := sorry
theorem en_MO_qGoesOn {d : Nat} {p0 : Int} {H : Hp} {Q : AV → Hp → Prop} : CC d MO_qGoesOn [va p0] H Q = R d MO_qGoesOn k_MO_qGoesOn_0 [va p0, vu] [] H Q := sorry
theorem en_MO_qSums {d : Nat} {p0 : Int} {H : Hp} {Q : AV → Hp → Prop} : CC d MO_qSums [va p0] H Q = R d MO_qSums k_MO_qSums_0 [va p0, vu, vu] [] H Q := sorry
theorem en_MO_qFact {d : Nat} {p0 : Int} {H : Hp} {Q : AV → Hp → Prop} : CC d MO_qFact [va p0] H Q = R d MO_qFact k_MO_qFact_0 [va p0, vu] [] H Q := sorry
theorem en_MO_qHasSquare {d : Nat} {p0 : Int} {H : Hp} {Q : AV → Hp → Prop} : CC d MO_qHasSquare [va p0] H Q = R d MO_qHasSquare k_MO_qHasSquare_0 [va p0, vu] [] H Q := sorry
theorem en_MO_qDropsNots {d : Nat} {p0 : Int} {H : Hp} {Q : AV → Hp → Prop} : CC d MO_qDropsNots [va p0] H Q = R d MO_qDropsNots k_MO_qDropsNots_0 [va p0] [] H Q := sorry
theorem en_MO_qTest {d : Nat} {p0 : Int} {H : Hp} {Q : AV → Hp → Prop} : CC d MO_qTest [va p0] H Q = R d MO_qTest k_MO_qTest_0 [va p0, vu, vu] [] H Q := sorry
theorem en_MO_qGoesOnTest {d : Nat} {p0 : Int} {H : Hp} {Q : AV → Hp → Prop} : CC d MO_qGoesOnTest [va p0] H Q = R d MO_qGoesOnTest k_MO_qGoesOnTest_0 [va p0] [] H Q := sorry
theorem en_MO_qClip {d : Nat} {p0 : Int} {H : Hp} {Q : AV → Hp → Prop} : CC d MO_qClip [vl p0] H Q = R d MO_qClip k_MO_qClip_0 [vl p0, vu] [] H Q := sorry
theorem en_MO_qFloor {d : Nat} {p0 p1 : Int} {H : Hp} {Q : AV → Hp → Prop} : CC d MO_qFloor [vl p0, vl p1] H Q = R d MO_qFloor k_MO_qFloor_0 [vl p0, vu, vl p1, vu, vu, vu] [] H Q := sorry
theorem en_MO_qPuts {d : Nat} {p0 p1 : Int} {H : Hp} {Q : AV → Hp → Prop} : CC d MO_qPuts [va p0, vl p1] H Q = R d MO_qPuts k_MO_qPuts_0 [va p0, vl p1, vu] [] H Q := sorry
theorem en_MO_qJoins {d : Nat} {p0 p1 : Int} {H : Hp} {Q : AV → Hp → Prop} : CC d MO_qJoins [va p0, vi p1] H Q = R d MO_qJoins k_MO_qJoins_0 [va p0, vi p1, vu, vu, vu, vu] [] H Q := sorry
theorem en_MO_qPartOf {d : Nat} {p0 p1 p2 : Int} {H : Hp} {Q : AV → Hp → Prop} : CC d MO_qPartOf [va p0, vi p1, vi p2] H Q = R d MO_qPartOf k_MO_qPartOf_0 [va p0, vi p1, vi p2] [] H Q := sorry
theorem en_MO_qOf {d : Nat} {p0 p1 p2 p3 : Int} {H : Hp} {Q : AV → Hp → Prop} : CC d MO_qOf [va p0, vi p1, vl p2, vi p3] H Q = R d MO_qOf k_MO_qOf_0 [va p0, vi p1, vl p2, vu, vi p3] [] H Q := sorry
theorem en_MO_qTold {d : Nat} {p0 p1 : Int} {H : Hp} {Q : AV → Hp → Prop} : CC d MO_qTold [va p0, vi p1] H Q = R d MO_qTold k_MO_qTold_0 [va p0, vi p1, vu, vu] [] H Q := sorry
theorem en_MO_qKind {d : Nat} {p0 : Int} {H : Hp} {Q : AV → Hp → Prop} : CC d MO_qKind [va p0] H Q = R d MO_qKind k_MO_qKind_0 [va p0, vu] [] H Q := sorry
theorem en_MO_qTakes {d : Nat} {p0 p1 p2 p3 : Int} {H : Hp} {Q : AV → Hp → Prop} : CC d MO_qTakes [va p0, vi p1, vl p2, vi p3] H Q = R d MO_qTakes k_MO_qTakes_0 [va p0, vi p1, vl p2, vu, vi p3, vu] [] H Q := sorry
theorem en_MO_ask {d : Nat} {p0 : Int} {H : Hp} {Q : AV → Hp → Prop} : CC d MO_ask [va p0] H Q = R d MO_ask k_MO_ask_0 [va p0, vu, vu, vu] [] H Q := sorry
theorem en_MO_qOffAt {d : Nat} {p0 p1 : Int} {H : Hp} {Q : AV → Hp → Prop} : CC d MO_qOffAt [va p0, vi p1] H Q = R d MO_qOffAt k_MO_qOffAt_0 [va p0, vi p1, vu, vu, vu] [] H Q := sorry
theorem en_MO_qIsGoodAt {d : Nat} {p0 p1 : Int} {H : Hp} {Q : AV → Hp → Prop} : CC d MO_qIsGoodAt [va p0, vi p1] H Q = R d MO_qIsGoodAt k_MO_qIsGoodAt_0 [va p0, vi p1, vu, vu] [] H Q := sorry
theorem en_MO_checked {d : Nat} {p0 p1 : Int} {H : Hp} {Q : AV → Hp → Prop} : CC d MO_checked [va p0, vi p1] H Q = R d MO_checked k_MO_checked_0 [va p0, vi p1, vu, vu] [] H Q := sorry
theorem en_MO_image {d : Nat} {p0 : Int} {H : Hp} {Q : AV → Hp → Prop} : CC d MO_image [va p0] H Q = R d MO_image k_MO_image_0 [va p0, vu] [] H Q := sorry
theorem en_MO_octet {d : Nat} {p0 p1 : Int} {H : Hp} {Q : AV → Hp → Prop} : CC d MO_octet [va p0, vi p1] H Q = R d MO_octet k_MO_octet_0 [va p0, vi p1] [] H Q := sorry
theorem en_MO_isImage {d : Nat} {p0 p1 : Int} {H : Hp} {Q : AV → Hp → Prop} : CC d MO_isImage [va p0, vi p1] H Q = R d MO_isImage k_MO_isImage_0 [va p0, vi p1, vu, vu, vu, vu, vu] [] H Q := sorry
theorem en_MO_on {d : Nat} {p0 : Int} {H : Hp} {Q : AV → Hp → Prop} : CC d MO_on [va p0] H Q = R d MO_on k_MO_on_0 [va p0, vu, vu] [] H Q := sorry
theorem en_MO_status {d : Nat} {p0 p1 : Int} {H : Hp} {Q : AV → Hp → Prop} : CC d MO_status [va p0, vi p1] H Q = R d MO_status k_MO_status_0 [va p0, vi p1] [] H Q := sorry
theorem en_LW_law {d : Nat} {p0 : Int} {H : Hp} {Q : AV → Hp → Prop} : CC d LW_law [va p0] H Q = R d LW_law k_LW_law_0 [va p0, vu, vu, vu] [] H Q := sorry
end
section
/-! all rows of the machine, for simp -/
def rr := And.intro (And.intro (And.intro (And.intro (And.intro (And.intro (And.intro (@r_ic) (@r_lc)) (And.intro (@r_str) (And.intro (@r_ld0vi) (@r_ld0vl)))) (And.intro (And.intro (@r_ld0va) (And.intro (@r_ld1vi) (@r_ld1vl))) (And.intro (@r_ld1va) (And.intro (@r_ld2vi) (@r_ld2vl))))) (And.intro (And.intro (And.intro (@r_ld2va) (And.intro (@r_ld3vi) (@r_ld3vl))) (And.intro (@r_ld3va) (And.intro (@r_ld4vi) (@r_ld4vl)))) (And.intro (And.intro (@r_ld4va) (And.intro (@r_ld5vi) (@r_ld5vl))) (And.intro (@r_ld5va) (And.intro (@r_ld6vi) (@r_ld6vl)))))) (And.intro (And.intro (And.intro (And.intro (@r_ld6va) (And.intro (@r_ld7vi) (@r_ld7vl))) (And.intro (@r_ld7va) (And.intro (@r_ld8vi) (@r_ld8vl)))) (And.intro (And.intro (@r_ld8va) (And.intro (@r_ld9vi) (@r_ld9vl))) (And.intro (@r_ld9va) (And.intro (@r_ld10vi) (@r_ld10vl))))) (And.intro (And.intro (And.intro (@r_ld10va) (And.intro (@r_ld11vi) (@r_ld11vl))) (And.intro (@r_ld11va) (And.intro (@r_ld12vi) (@r_ld12vl)))) (And.intro (And.intro (@r_ld12va) (And.intro (@r_ld13vi) (@r_ld13vl))) (And.intro (@r_ld13va) (And.intro (@r_ld14vi) (@r_ld14vl))))))) (And.intro (And.intro (And.intro (And.intro (And.intro (@r_ld14va) (@r_ld15vi)) (And.intro (@r_ld15vl) (And.intro (@r_ld15va) (@r_ld16vi)))) (And.intro (And.intro (@r_ld16vl) (And.intro (@r_ld16va) (@r_ld17vi))) (And.intro (@r_ld17vl) (And.intro (@r_ld17va) (@r_s1i))))) (And.intro (And.intro (And.intro (@r_s1a) (And.intro (@r_s2) (@r_inc0))) (And.intro (@r_inc1) (And.intro (@r_inc2) (@r_inc3)))) (And.intro (And.intro (@r_inc4) (And.intro (@r_inc5) (@r_inc6))) (And.intro (@r_inc7) (And.intro (@r_inc8) (@r_inc9)))))) (And.intro (And.intro (And.intro (And.intro (@r_inc10) (And.intro (@r_inc11) (@r_inc12))) (And.intro (@r_inc13) (And.intro (@r_inc14) (@r_inc15)))) (And.intro (And.intro (@r_inc16) (And.intro (@r_inc17) (@r_iadd))) (And.intro (@r_isub) (And.intro (@r_imul) (@r_iand))))) (And.intro (And.intro (And.intro (@r_ior) (And.intro (@r_ixor) (@r_ishl))) (And.intro (@r_ishr) (And.intro (@r_iushr) (@r_ladd)))) (And.intro (And.intro (@r_lsub) (And.intro (@r_lmul) (@r_land))) (And.intro (@r_lor) (And.intro (@r_lxor) (@r_lshl)))))))) (And.intro (And.intro (And.intro (And.intro (And.intro (And.intro (@r_lshr) (@r_idiv)) (And.intro (@r_irem) (And.intro (@r_ldiv) (@r_lrem)))) (And.intro (And.intro (@r_ineg) (And.intro (@r_lneg) (@r_i2l))) (And.intro (@r_l2i) (And.intro (@r_i2b) (@r_i2c))))) (And.intro (And.intro (And.intro (@r_lcmp) (And.intro (@r_ifeq) (@r_iceq))) (And.intro (@r_ifne) (And.intro (@r_icne) (@r_iflt)))) (And.intro (And.intro (@r_iclt) (And.intro (@r_ifge) (@r_icge))) (And.intro (@r_ifgt) (And.intro (@r_icgt) (@r_ifle)))))) (And.intro (And.intro (And.intro (And.intro (@r_icle) (And.intro (@r_go) (@r_fall))) (And.intro (@r_gi) (And.intro (@r_gl) (@r_ga)))) (And.intro (And.intro (@r_pi) (And.intro (@r_pl) (@r_pa))) (And.intro (@r_pz) (And.intro (@r_ali) (@r_all))))) (And.intro (And.intro (And.intro (@r_alb) (And.intro (@r_alc) (@r_asi))) (And.intro (@r_asl) (And.intro (@r_asb) (@r_asc)))) (And.intro (And.intro (@r_len) (And.intro (@r_dupi) (@r_dupa))) (And.intro (@r_dup2) (And.intro (@r_dup2l) (@r_pop))))))) (And.intro (And.intro (And.intro (And.intro (And.intro (@r_new) (And.intro (@r_nw) (@r_acp))) (And.intro (@r_scl) (And.intro (@r_scn) (@r_sln)))) (And.intro (And.intro (@r_sch) (And.intro (@r_obj) (@r_ret))) (And.intro (@r_ri) (And.intro (@r_rl) (@r_rz))))) (And.intro (And.intro (And.intro (@RSW_n) (And.intro (@RSW_c) (@r_sw))) (And.intro (@r_lsw) (And.intro (@r_call) (@r_call0)))) (And.intro (And.intro (@r_calv) (And.intro (@r_cals) (@r_calv0))) (And.intro (@r_cals0) (And.intro (@wds_0) (@wds_i)))))) (And.intro (And.intro (And.intro (And.intro (@wds_a) (And.intro (@wds_l) (@tkr_0))) (And.intro (@tkr_s) (And.intro (@dpr_0) (@dpr_s)))) (And.intro (And.intro (@rcv_c) (And.intro (@lst1_0) (@lst1_1i))) (And.intro (@lst1_1a) (And.intro (@lst1_1u) (@lst1_1l))))) (And.intro (And.intro (And.intro (@lst1_s) (And.intro (@lst2_0) (@lst2_1i))) (And.intro (@lst2_1a) (And.intro (@lst2_1u) (@lst2_1l)))) (And.intro (And.intro (@lst2_s) (And.intro (@c3_lt) (@c3_ge))) (And.intro (@c3_gt) (And.intro (@c3_le) (@c3_eq))))))))
def sh := And.intro (And.intro (And.intro (And.intro (And.intro (And.intro (And.intro (And.intro (shc_1) (shc_2)) (And.intro (sht_3) (shl_3))) (And.intro (And.intro (shc_4) (shc_5)) (And.intro (sht_6) (shl_6)))) (And.intro (And.intro (And.intro (sht_7) (shl_7)) (And.intro (sht_8) (shl_8))) (And.intro (And.intro (sht_9) (shl_9)) (And.intro (sht_10) (shl_10))))) (And.intro (And.intro (And.intro (And.intro (sht_11) (shl_11)) (And.intro (sht_12) (shl_12))) (And.intro (And.intro (sht_13) (shl_13)) (And.intro (sht_14) (shl_14)))) (And.intro (And.intro (And.intro (sht_15) (shl_15)) (And.intro (sht_16) (shl_16))) (And.intro (And.intro (sht_17) (shl_17)) (And.intro (sht_18) (And.intro (shl_18) (sht_19))))))) (And.intro (And.intro (And.intro (And.intro (And.intro (shl_19) (sht_20)) (And.intro (shl_20) (sht_21))) (And.intro (And.intro (shl_21) (sht_22)) (And.intro (shl_22) (sht_23)))) (And.intro (And.intro (And.intro (shl_23) (sht_24)) (And.intro (shl_24) (shc_25))) (And.intro (And.intro (sht_26) (shl_26)) (And.intro (sht_27) (shl_27))))) (And.intro (And.intro (And.intro (And.intro (sht_28) (shl_28)) (And.intro (sht_29) (shl_29))) (And.intro (And.intro (sht_30) (shl_30)) (And.intro (sht_31) (shl_31)))) (And.intro (And.intro (And.intro (sht_32) (shl_32)) (And.intro (sht_33) (shl_33))) (And.intro (And.intro (sht_34) (shl_34)) (And.intro (sht_35) (And.intro (shl_35) (sht_36)))))))) (And.intro (And.intro (And.intro (And.intro (And.intro (And.intro (shl_36) (sht_37)) (And.intro (shl_37) (shc_38))) (And.intro (And.intro (sht_39) (shl_39)) (And.intro (sht_40) (shl_40)))) (And.intro (And.intro (And.intro (sht_41) (shl_41)) (And.intro (shc_42) (sht_43))) (And.intro (And.intro (shl_43) (sht_44)) (And.intro (shl_44) (shc_45))))) (And.intro (And.intro (And.intro (And.intro (sht_46) (shl_46)) (And.intro (sht_47) (shl_47))) (And.intro (And.intro (sht_48) (shl_48)) (And.intro (sht_49) (shl_49)))) (And.intro (And.intro (And.intro (shc_50) (sht_51)) (And.intro (shl_51) (sht_52))) (And.intro (And.intro (shl_52) (sht_53)) (And.intro (shl_53) (And.intro (shc_54) (sht_55))))))) (And.intro (And.intro (And.intro (And.intro (And.intro (shl_55) (sht_56)) (And.intro (shl_56) (sht_57))) (And.intro (And.intro (shl_57) (shc_58)) (And.intro (sht_59) (shl_59)))) (And.intro (And.intro (And.intro (sht_60) (shl_60)) (And.intro (sht_61) (shl_61))) (And.intro (And.intro (sht_62) (shl_62)) (And.intro (sht_63) (shl_63))))) (And.intro (And.intro (And.intro (And.intro (sht_64) (shl_64)) (And.intro (sht_65) (shl_65))) (And.intro (And.intro (shc_66) (sht_67)) (And.intro (shl_67) (sht_68)))) (And.intro (And.intro (And.intro (shl_68) (sht_69)) (And.intro (shl_69) (sht_70))) (And.intro (And.intro (shl_70) (shc_71)) (And.intro (sht_72) (And.intro (shl_72) (sht_73))))))))) (And.intro (And.intro (And.intro (And.intro (And.intro (And.intro (And.intro (shl_73) (sht_74)) (And.intro (shl_74) (sht_75))) (And.intro (And.intro (shl_75) (sht_76)) (And.intro (shl_76) (sht_77)))) (And.intro (And.intro (And.intro (shl_77) (sht_78)) (And.intro (shl_78) (sht_79))) (And.intro (And.intro (shl_79) (sht_80)) (And.intro (shl_80) (sht_81))))) (And.intro (And.intro (And.intro (And.intro (shl_81) (sht_82)) (And.intro (shl_82) (sht_83))) (And.intro (And.intro (shl_83) (sht_84)) (And.intro (shl_84) (sht_85)))) (And.intro (And.intro (And.intro (shl_85) (sht_86)) (And.intro (shl_86) (sht_87))) (And.intro (And.intro (shl_87) (sht_88)) (And.intro (shl_88) (And.intro (sht_89) (shl_89))))))) (And.intro (And.intro (And.intro (And.intro (And.intro (sht_90) (shl_90)) (And.intro (sht_91) (shl_91))) (And.intro (And.intro (sht_92) (shl_92)) (And.intro (sht_93) (shl_93)))) (And.intro (And.intro (And.intro (sht_94) (shl_94)) (And.intro (sht_95) (shl_95))) (And.intro (And.intro (sht_96) (shl_96)) (And.intro (sht_97) (shl_97))))) (And.intro (And.intro (And.intro (And.intro (sht_98) (shl_98)) (And.intro (sht_99) (shl_99))) (And.intro (And.intro (sht_100) (shl_100)) (And.intro (sht_101) (shl_101)))) (And.intro (And.intro (And.intro (sht_102) (shl_102)) (And.intro (sht_103) (shl_103))) (And.intro (And.intro (sht_104) (shl_104)) (And.intro (sht_105) (And.intro (shl_105) (sht_106)))))))) (And.intro (And.intro (And.intro (And.intro (And.intro (And.intro (shl_106) (sht_107)) (And.intro (shl_107) (sht_108))) (And.intro (And.intro (shl_108) (sht_109)) (And.intro (shl_109) (sht_110)))) (And.intro (And.intro (And.intro (shl_110) (sht_111)) (And.intro (shl_111) (sht_112))) (And.intro (And.intro (shl_112) (sht_113)) (And.intro (shl_113) (sht_114))))) (And.intro (And.intro (And.intro (And.intro (shl_114) (sht_115)) (And.intro (shl_115) (sht_116))) (And.intro (And.intro (shl_116) (sht_117)) (And.intro (shl_117) (sht_118)))) (And.intro (And.intro (And.intro (shl_118) (sht_119)) (And.intro (shl_119) (sht_120))) (And.intro (And.intro (shl_120) (sht_121)) (And.intro (shl_121) (And.intro (sht_122) (shl_122))))))) (And.intro (And.intro (And.intro (And.intro (And.intro (sht_123) (shl_123)) (And.intro (sht_124) (shl_124))) (And.intro (And.intro (sht_125) (shl_125)) (And.intro (sht_126) (shl_126)))) (And.intro (And.intro (And.intro (sht_127) (shl_127)) (And.intro (sht_128) (shl_128))) (And.intro (And.intro (sht_129) (shl_129)) (And.intro (sht_130) (And.intro (shl_130) (sht_131)))))) (And.intro (And.intro (And.intro (And.intro (shl_131) (sht_132)) (And.intro (shl_132) (sht_133))) (And.intro (And.intro (shl_133) (sht_134)) (And.intro (shl_134) (sht_135)))) (And.intro (And.intro (And.intro (shl_135) (sht_136)) (And.intro (shl_136) (sht_137))) (And.intro (And.intro (shl_137) (sht_138)) (And.intro (shl_138) (And.intro (sht_139) (shl_139)))))))))
end
section
/-! TABLES (printed by a program of ours out of the claim's NAMES and Statement): classes, fields, names, codes, links, and that their words stand in the tables -/
def RX1 : String := "EvenOars$Changes"
def TX1 : u_T := fun k => match k with
  | 0 => ("EvenOars$Changes", "force", "[I", true)
  | 1 => ("EvenOars$Changes", "lever", "[J", true)
  | 2 => ("EvenOars$Changes", "gap", "[J", true)
  | 3 => ("EvenOars$Changes", "lanes", "I", false)
  | _ => ("EvenOars$Changes", "bits", "I", false)
def tyX1 : Nat → FieldType := fun k => match k with
  | 0 => .array .int
  | 1 => .array .long
  | 2 => .array .long
  | 3 => .int
  | _ => .int
abbrev wsX10 : List Cond := u_ws RX1 TX1 5
theorem nmX1 : ∀ a, a < 5 → ∀ b, b < 5 → a ≠ b → (TX1 a).2.1 ≠ (TX1 b).2.1 := sorry
theorem tyX1_ok : ∀ k, k < 5 → parseFieldDescriptor (TX1 k).2.2.1 = some (tyX1 k) := sorry
def RX2 : String := "EvenOars$Crew"
def TX2 : u_T := fun k => match k with
  | 0 => ("EvenOars$Crew", "plan", "LEvenOars$Plan;", false)
  | 1 => ("EvenOars$Crew", "rowerOf", "[I", true)
  | 2 => ("EvenOars$Crew", "toRight", "[I", true)
  | 3 => ("EvenOars$Crew", "stroke", "I", false)
  | 4 => ("EvenOars$Crew", "heading", "J", false)
  | 5 => ("EvenOars$Crew", "drawn", "J", false)
  | 6 => ("EvenOars$Crew", "actKind", "[I", true)
  | 7 => ("EvenOars$Crew", "actFirst", "[I", true)
  | 8 => ("EvenOars$Crew", "actSecond", "[I", true)
  | 9 => ("EvenOars$Crew", "actHeading", "[J", true)
  | 10 => ("EvenOars$Crew", "actNext", "I", false)
  | 11 => ("EvenOars$Crew", "actsKept", "I", false)
  | 12 => ("EvenOars$Crew", "image", "[B", true)
  | _ => ("EvenOars$Crew", "imageSize", "I", false)
def tyX2 : Nat → FieldType := fun k => match k with
  | 0 => .object "EvenOars$Plan"
  | 1 => .array .int
  | 2 => .array .int
  | 3 => .int
  | 4 => .long
  | 5 => .long
  | 6 => .array .int
  | 7 => .array .int
  | 8 => .array .int
  | 9 => .array .long
  | 10 => .int
  | 11 => .int
  | 12 => .array .byte
  | _ => .int
abbrev wsX20 : List Cond := u_ws RX2 TX2 14
theorem nmX2 : ∀ a, a < 14 → ∀ b, b < 14 → a ≠ b → (TX2 a).2.1 ≠ (TX2 b).2.1 := sorry
theorem tyX2_ok : ∀ k, k < 14 → parseFieldDescriptor (TX2 k).2.2.1 = some (tyX2 k) := sorry
def RX3 : String := "EvenOars$Halves"
def TX3 : u_T := fun k => match k with
  | 0 => ("EvenOars$Halves", "sets", "[J", true)
  | 1 => ("EvenOars$Halves", "waysBySeats", "[J", true)
  | 2 => ("EvenOars$Halves", "counted", "Z", false)
  | 3 => ("EvenOars$Halves", "toSkip", "I", false)
  | 4 => ("EvenOars$Halves", "load", "[J", true)
  | 5 => ("EvenOars$Halves", "partings", "I", false)
  | _ => ("EvenOars$Halves", "leastParting", "I", false)
def tyX3 : Nat → FieldType := fun k => match k with
  | 0 => .array .long
  | 1 => .array .long
  | 2 => .boolean
  | 3 => .int
  | 4 => .array .long
  | 5 => .int
  | _ => .int
abbrev wsX30 : List Cond := u_ws RX3 TX3 7
theorem nmX3 : ∀ a, a < 7 → ∀ b, b < 7 → a ≠ b → (TX3 a).2.1 ≠ (TX3 b).2.1 := sorry
theorem tyX3_ok : ∀ k, k < 7 → parseFieldDescriptor (TX3 k).2.2.1 = some (tyX3 k) := sorry
def RX4 : String := "EvenOars$Lanes"
def TX4 : u_T := fun k => match k with
  | 0 => ("EvenOars$Lanes", "sum", "[J", true)
  | 1 => ("EvenOars$Lanes", "jump", "[J", true)
  | _ => ("EvenOars$Lanes", "used", "I", false)
def tyX4 : Nat → FieldType := fun k => match k with
  | 0 => .array .long
  | 1 => .array .long
  | _ => .int
abbrev wsX40 : List Cond := u_ws RX4 TX4 3
theorem nmX4 : ∀ a, a < 3 → ∀ b, b < 3 → a ≠ b → (TX4 a).2.1 ≠ (TX4 b).2.1 := sorry
theorem tyX4_ok : ∀ k, k < 3 → parseFieldDescriptor (TX4 k).2.2.1 = some (tyX4 k) := sorry
def RX5 : String := "EvenOars$Nearest"
def TX5 : u_T := fun k => match k with
  | 0 => ("EvenOars$Nearest", "load", "[J", true)
  | 1 => ("EvenOars$Nearest", "force", "[I", true)
  | 2 => ("EvenOars$Nearest", "found", "Z", false)
  | 3 => ("EvenOars$Nearest", "off", "J", false)
  | 4 => ("EvenOars$Nearest", "bits", "I", false)
  | 5 => ("EvenOars$Nearest", "goods", "I", false)
  | 6 => ("EvenOars$Nearest", "order", "[I", true)
  | 7 => ("EvenOars$Nearest", "bestOrder", "[I", true)
  | 8 => ("EvenOars$Nearest", "anyOrder", "Z", false)
  | 9 => ("EvenOars$Nearest", "bestOff", "J", false)
  | _ => ("EvenOars$Nearest", "bestBits", "I", false)
def tyX5 : Nat → FieldType := fun k => match k with
  | 0 => .array .long
  | 1 => .array .int
  | 2 => .boolean
  | 3 => .long
  | 4 => .int
  | 5 => .int
  | 6 => .array .int
  | 7 => .array .int
  | 8 => .boolean
  | 9 => .long
  | _ => .int
abbrev wsX50 : List Cond := u_ws RX5 TX5 11
theorem nmX5 : ∀ a, a < 11 → ∀ b, b < 11 → a ≠ b → (TX5 a).2.1 ≠ (TX5 b).2.1 := sorry
theorem tyX5_ok : ∀ k, k < 11 → parseFieldDescriptor (TX5 k).2.2.1 = some (tyX5 k) := sorry
def RX6 : String := "EvenOars$Plan"
def TX6 : u_T := fun k => match k with
  | 0 => ("EvenOars$Plan", "seats", "I", false)
  | 1 => ("EvenOars$Plan", "place", "[I", true)
  | 2 => ("EvenOars$Plan", "arm", "[I", true)
  | 3 => ("EvenOars$Plan", "lever", "[J", true)
  | 4 => ("EvenOars$Plan", "fixedLeft", "I", false)
  | 5 => ("EvenOars$Plan", "fixedRight", "I", false)
  | 6 => ("EvenOars$Plan", "rowers", "I", false)
  | 7 => ("EvenOars$Plan", "letters", "[I", true)
  | 8 => ("EvenOars$Plan", "strength", "[I", true)
  | 9 => ("EvenOars$Plan", "tires", "[I", true)
  | 10 => ("EvenOars$Plan", "toLeft", "I", false)
  | 11 => ("EvenOars$Plan", "wanted", "[J", true)
  | 12 => ("EvenOars$Plan", "near", "I", false)
  | 13 => ("EvenOars$Plan", "runs", "I", false)
  | 14 => ("EvenOars$Plan", "runSide", "[I", true)
  | 15 => ("EvenOars$Plan", "runPower", "[I", true)
  | 16 => ("EvenOars$Plan", "runSwung", "[I", true)
  | 17 => ("EvenOars$Plan", "payments", "I", false)
  | 18 => ("EvenOars$Plan", "paid", "[I", true)
  | _ => ("EvenOars$Plan", "paidOn", "[I", true)
def tyX6 : Nat → FieldType := fun k => match k with
  | 0 => .int
  | 1 => .array .int
  | 2 => .array .int
  | 3 => .array .long
  | 4 => .int
  | 5 => .int
  | 6 => .int
  | 7 => .array .int
  | 8 => .array .int
  | 9 => .array .int
  | 10 => .int
  | 11 => .array .long
  | 12 => .int
  | 13 => .int
  | 14 => .array .int
  | 15 => .array .int
  | 16 => .array .int
  | 17 => .int
  | 18 => .array .int
  | _ => .array .int
abbrev wsX60 : List Cond := u_ws RX6 TX6 20
theorem nmX6 : ∀ a, a < 20 → ∀ b, b < 20 → a ≠ b → (TX6 a).2.1 ≠ (TX6 b).2.1 := sorry
theorem tyX6_ok : ∀ k, k < 20 → parseFieldDescriptor (TX6 k).2.2.1 = some (tyX6 k) := sorry
def RX7 : String := "EvenOars$Question"
def TX7 : u_T := fun k => match k with
  | 0 => ("EvenOars$Question", "asked", "I", false)
  | 1 => ("EvenOars$Question", "codes", "[I", true)
  | 2 => ("EvenOars$Question", "used", "I", false)
  | 3 => ("EvenOars$Question", "stack", "[J", true)
  | 4 => ("EvenOars$Question", "top", "I", false)
  | 5 => ("EvenOars$Question", "keptTen", "I", false)
  | 6 => ("EvenOars$Question", "keptSwing", "[J", true)
  | 7 => ("EvenOars$Question", "keptOff", "J", false)
  | _ => ("EvenOars$Question", "keptGood", "J", false)
def tyX7 : Nat → FieldType := fun k => match k with
  | 0 => .int
  | 1 => .array .int
  | 2 => .int
  | 3 => .array .long
  | 4 => .int
  | 5 => .int
  | 6 => .array .long
  | 7 => .long
  | _ => .long
abbrev wsX70 : List Cond := u_ws RX7 TX7 9
theorem nmX7 : ∀ a, a < 9 → ∀ b, b < 9 → a ≠ b → (TX7 a).2.1 ≠ (TX7 b).2.1 := sorry
theorem tyX7_ok : ∀ k, k < 9 → parseFieldDescriptor (TX7 k).2.2.1 = some (tyX7 k) := sorry
def RX8 : String := "EvenOars$Race"
def TX8 : u_T := fun k => match k with
  | 0 => ("EvenOars$Race", "load", "[J", true)
  | 1 => ("EvenOars$Race", "swings", "[J", true)
  | 2 => ("EvenOars$Race", "ahead", "[J", true)
  | 3 => ("EvenOars$Race", "least", "J", false)
  | 4 => ("EvenOars$Race", "bits", "I", false)
  | 5 => ("EvenOars$Race", "changeAt", "I", false)
  | 6 => ("EvenOars$Race", "oneSeat", "I", false)
  | _ => ("EvenOars$Race", "otherSeat", "I", false)
def tyX8 : Nat → FieldType := fun k => match k with
  | 0 => .array .long
  | 1 => .array .long
  | 2 => .array .long
  | 3 => .long
  | 4 => .int
  | 5 => .int
  | 6 => .int
  | _ => .int
abbrev wsX80 : List Cond := u_ws RX8 TX8 8
theorem nmX8 : ∀ a, a < 8 → ∀ b, b < 8 → a ≠ b → (TX8 a).2.1 ≠ (TX8 b).2.1 := sorry
theorem tyX8_ok : ∀ k, k < 8 → parseFieldDescriptor (TX8 k).2.2.1 = some (tyX8 k) := sorry
def RX9 : String := "EvenOars$Tape"
def TX9 : u_T := fun k => match k with
  | 0 => ("EvenOars$Tape", "octets", "[B", true)
  | 1 => ("EvenOars$Tape", "length", "I", false)
  | 2 => ("EvenOars$Tape", "at", "I", false)
  | 3 => ("EvenOars$Tape", "joint", "I", false)
  | 4 => ("EvenOars$Tape", "value", "I", false)
  | 5 => ("EvenOars$Tape", "valueAt", "I", false)
  | 6 => ("EvenOars$Tape", "fault", "I", false)
  | _ => ("EvenOars$Tape", "faultAt", "I", false)
def tyX9 : Nat → FieldType := fun k => match k with
  | 0 => .array .byte
  | 1 => .int
  | 2 => .int
  | 3 => .int
  | 4 => .int
  | 5 => .int
  | 6 => .int
  | _ => .int
abbrev wsX90 : List Cond := u_ws RX9 TX9 8
theorem nmX9 : ∀ a, a < 8 → ∀ b, b < 8 → a ≠ b → (TX9 a).2.1 ≠ (TX9 b).2.1 := sorry
theorem tyX9_ok : ∀ k, k < 8 → parseFieldDescriptor (TX9 k).2.2.1 = some (tyX9 k) := sorry
def RX10 : String := "EvenOars$Trials"
def TX10 : u_T := fun k => match k with
  | 0 => ("EvenOars$Trials", "gap", "[J", true)
  | 1 => ("EvenOars$Trials", "perArm", "[J", true)
  | 2 => ("EvenOars$Trials", "lever", "[J", true)
  | 3 => ("EvenOars$Trials", "lowest", "[J", true)
  | 4 => ("EvenOars$Trials", "highest", "[J", true)
  | 5 => ("EvenOars$Trials", "least", "[I", true)
  | 6 => ("EvenOars$Trials", "greatest", "[I", true)
  | 7 => ("EvenOars$Trials", "counted", "Z", false)
  | _ => ("EvenOars$Trials", "rows", "I", false)
def tyX10 : Nat → FieldType := fun k => match k with
  | 0 => .array .long
  | 1 => .array .long
  | 2 => .array .long
  | 3 => .array .long
  | 4 => .array .long
  | 5 => .array .int
  | 6 => .array .int
  | 7 => .boolean
  | _ => .int
abbrev wsX100 : List Cond := u_ws RX10 TX10 9
theorem nmX10 : ∀ a, a < 9 → ∀ b, b < 9 → a ≠ b → (TX10 a).2.1 ≠ (TX10 b).2.1 := sorry
theorem tyX10_ok : ∀ k, k < 9 → parseFieldDescriptor (TX10 k).2.2.1 = some (tyX10 k) := sorry
def RX11 : String := "EvenOars"
def TX11 : u_T := fun k => match k with
  | 0 => ("EvenOars", "tape", "LEvenOars$Tape;", true)
  | 1 => ("EvenOars", "crew", "LEvenOars$Crew;", true)
  | 2 => ("EvenOars", "spare", "LEvenOars$Plan;", false)
  | 3 => ("EvenOars", "question", "LEvenOars$Question;", true)
  | 4 => ("EvenOars", "lanes", "LEvenOars$Lanes;", true)
  | 5 => ("EvenOars", "nearestSides", "LEvenOars$Nearest;", true)
  | 6 => ("EvenOars", "fewestChanges", "LEvenOars$Changes;", true)
  | 7 => ("EvenOars", "raceAhead", "LEvenOars$Race;", true)
  | 8 => ("EvenOars", "trials", "LEvenOars$Trials;", true)
  | 9 => ("EvenOars", "halves", "LEvenOars$Halves;", true)
  | 10 => ("EvenOars", "refused", "[I", true)
  | 11 => ("EvenOars", "faultKind", "I", false)
  | _ => ("EvenOars", "faultPlace", "I", false)
def tyX11 : Nat → FieldType := fun k => match k with
  | 0 => .object "EvenOars$Tape"
  | 1 => .object "EvenOars$Crew"
  | 2 => .object "EvenOars$Plan"
  | 3 => .object "EvenOars$Question"
  | 4 => .object "EvenOars$Lanes"
  | 5 => .object "EvenOars$Nearest"
  | 6 => .object "EvenOars$Changes"
  | 7 => .object "EvenOars$Race"
  | 8 => .object "EvenOars$Trials"
  | 9 => .object "EvenOars$Halves"
  | 10 => .array .int
  | 11 => .int
  | _ => .int
abbrev wsX110 : List Cond := u_ws RX11 TX11 13
theorem nmX11 : ∀ a, a < 13 → ∀ b, b < 13 → a ≠ b → (TX11 a).2.1 ≠ (TX11 b).2.1 := sorry
theorem tyX11_ok : ∀ k, k < 13 → parseFieldDescriptor (TX11 k).2.2.1 = some (tyX11 k) := sorry
def RX12 : String := "EvenOarsModel"
def TX12 : u_T := fun k => match k with
  | 0 => ("EvenOarsModel", "tape", "[I", true)
  | 1 => ("EvenOarsModel", "taped", "I", false)
  | 2 => ("EvenOarsModel", "at", "I", false)
  | 3 => ("EvenOarsModel", "end", "I", false)
  | 4 => ("EvenOarsModel", "ended", "I", false)
  | 5 => ("EvenOarsModel", "bad", "I", false)
  | 6 => ("EvenOarsModel", "badPlace", "I", false)
  | 7 => ("EvenOarsModel", "fault", "I", false)
  | 8 => ("EvenOarsModel", "faultPlace", "I", false)
  | 9 => ("EvenOarsModel", "refused", "[I", true)
  | 10 => ("EvenOarsModel", "numberPlace", "I", false)
  | 11 => ("EvenOarsModel", "seatWord", "[C", true)
  | 12 => ("EvenOarsModel", "armWord", "[C", true)
  | 13 => ("EvenOarsModel", "rowerWord", "[C", true)
  | 14 => ("EvenOarsModel", "strengthWord", "[C", true)
  | 15 => ("EvenOarsModel", "tiresWord", "[C", true)
  | 16 => ("EvenOarsModel", "eachWord", "[C", true)
  | 17 => ("EvenOarsModel", "fixWord", "[C", true)
  | 18 => ("EvenOarsModel", "leftWord", "[C", true)
  | 19 => ("EvenOarsModel", "rightWord", "[C", true)
  | 20 => ("EvenOarsModel", "wantWord", "[C", true)
  | 21 => ("EvenOarsModel", "isWord", "[C", true)
  | 22 => ("EvenOarsModel", "nearWord", "[C", true)
  | 23 => ("EvenOarsModel", "runWord", "[C", true)
  | 24 => ("EvenOarsModel", "powerWord", "[C", true)
  | 25 => ("EvenOarsModel", "swungWord", "[C", true)
  | 26 => ("EvenOarsModel", "payWord", "[C", true)
  | 27 => ("EvenOarsModel", "onWord", "[C", true)
  | 28 => ("EvenOarsModel", "namePlace", "I", false)
  | 29 => ("EvenOarsModel", "many", "[I", true)
  | 30 => ("EvenOarsModel", "places", "[I", true)
  | 31 => ("EvenOarsModel", "arms", "[I", true)
  | 32 => ("EvenOarsModel", "fixed", "[I", true)
  | 33 => ("EvenOarsModel", "names", "[J", true)
  | 34 => ("EvenOarsModel", "strengthOf", "[I", true)
  | 35 => ("EvenOarsModel", "tiresOf", "[I", true)
  | 36 => ("EvenOarsModel", "eachOf", "[I", true)
  | 37 => ("EvenOarsModel", "nearOf", "[I", true)
  | 38 => ("EvenOarsModel", "isWanted", "[I", true)
  | 39 => ("EvenOarsModel", "wanted", "[I", true)
  | 40 => ("EvenOarsModel", "runSides", "[I", true)
  | 41 => ("EvenOarsModel", "runPower", "[I", true)
  | 42 => ("EvenOarsModel", "runSwing", "[I", true)
  | 43 => ("EvenOarsModel", "paid", "[I", true)
  | 44 => ("EvenOarsModel", "paidOn", "[I", true)
  | 45 => ("EvenOarsModel", "statements", "I", false)
  | 46 => ("EvenOarsModel", "isTold", "Z", false)
  | 47 => ("EvenOarsModel", "stroke", "I", false)
  | 48 => ("EvenOarsModel", "heading", "J", false)
  | 49 => ("EvenOarsModel", "sides", "I", false)
  | 50 => ("EvenOarsModel", "sits", "[I", true)
  | 51 => ("EvenOarsModel", "keptStroke", "[I", true)
  | 52 => ("EvenOarsModel", "keptHeading", "[J", true)
  | 53 => ("EvenOarsModel", "keptSides", "[I", true)
  | 54 => ("EvenOarsModel", "keptSits", "[I", true)
  | 55 => ("EvenOarsModel", "undoable", "I", false)
  | 56 => ("EvenOarsModel", "newest", "I", false)
  | 57 => ("EvenOarsModel", "seeded", "J", false)
  | 58 => ("EvenOarsModel", "waysOf", "[J", true)
  | 59 => ("EvenOarsModel", "bestSides", "I", false)
  | 60 => ("EvenOarsModel", "bestOff", "J", false)
  | 61 => ("EvenOarsModel", "aside", "[I", true)
  | 62 => ("EvenOarsModel", "order", "[I", true)
  | 63 => ("EvenOarsModel", "underLeast", "J", false)
  | 64 => ("EvenOarsModel", "underStroke", "I", false)
  | 65 => ("EvenOarsModel", "underSeats", "I", false)
  | 66 => ("EvenOarsModel", "triedStrength", "[I", true)
  | 67 => ("EvenOarsModel", "triedArm", "[I", true)
  | 68 => ("EvenOarsModel", "leastOf", "[I", true)
  | 69 => ("EvenOarsModel", "mostOf", "[I", true)
  | 70 => ("EvenOarsModel", "firstAsked", "[C", true)
  | 71 => ("EvenOarsModel", "lastAsked", "[C", true)
  | 72 => ("EvenOarsModel", "oftenAsked", "[C", true)
  | 73 => ("EvenOarsModel", "totalAsked", "[C", true)
  | 74 => ("EvenOarsModel", "mostAsked", "[C", true)
  | 75 => ("EvenOarsModel", "leastAsked", "[C", true)
  | 76 => ("EvenOarsModel", "notAsked", "[C", true)
  | 77 => ("EvenOarsModel", "andAsked", "[C", true)
  | 78 => ("EvenOarsModel", "orAsked", "[C", true)
  | 79 => ("EvenOarsModel", "allAsked", "[C", true)
  | 80 => ("EvenOarsModel", "minAsked", "[C", true)
  | 81 => ("EvenOarsModel", "maxAsked", "[C", true)
  | 82 => ("EvenOarsModel", "strokeAsked", "[C", true)
  | 83 => ("EvenOarsModel", "offAsked", "[C", true)
  | 84 => ("EvenOarsModel", "goodAsked", "[C", true)
  | 85 => ("EvenOarsModel", "swingAsked", "[C", true)
  | 86 => ("EvenOarsModel", "forceAsked", "[C", true)
  | 87 => ("EvenOarsModel", "qCodes", "[I", true)
  | 88 => ("EvenOarsModel", "qCoded", "I", false)
  | 89 => ("EvenOarsModel", "qWait", "[I", true)
  | 90 => ("EvenOarsModel", "qWaits", "I", false)
  | 91 => ("EvenOarsModel", "qOpened", "I", false)
  | 92 => ("EvenOarsModel", "qBase", "I", false)
  | 93 => ("EvenOarsModel", "qPile", "[J", true)
  | 94 => ("EvenOarsModel", "qPiled", "I", false)
  | 95 => ("EvenOarsModel", "qAnswer", "J", false)
  | 96 => ("EvenOarsModel", "qIsNew", "Z", false)
  | 97 => ("EvenOarsModel", "octet", "[I", true)
  | _ => ("EvenOarsModel", "octets", "I", false)
def tyX12 : Nat → FieldType := fun k => match k with
  | 0 => .array .int
  | 1 => .int
  | 2 => .int
  | 3 => .int
  | 4 => .int
  | 5 => .int
  | 6 => .int
  | 7 => .int
  | 8 => .int
  | 9 => .array .int
  | 10 => .int
  | 11 => .array .char
  | 12 => .array .char
  | 13 => .array .char
  | 14 => .array .char
  | 15 => .array .char
  | 16 => .array .char
  | 17 => .array .char
  | 18 => .array .char
  | 19 => .array .char
  | 20 => .array .char
  | 21 => .array .char
  | 22 => .array .char
  | 23 => .array .char
  | 24 => .array .char
  | 25 => .array .char
  | 26 => .array .char
  | 27 => .array .char
  | 28 => .int
  | 29 => .array .int
  | 30 => .array .int
  | 31 => .array .int
  | 32 => .array .int
  | 33 => .array .long
  | 34 => .array .int
  | 35 => .array .int
  | 36 => .array .int
  | 37 => .array .int
  | 38 => .array .int
  | 39 => .array .int
  | 40 => .array .int
  | 41 => .array .int
  | 42 => .array .int
  | 43 => .array .int
  | 44 => .array .int
  | 45 => .int
  | 46 => .boolean
  | 47 => .int
  | 48 => .long
  | 49 => .int
  | 50 => .array .int
  | 51 => .array .int
  | 52 => .array .long
  | 53 => .array .int
  | 54 => .array .int
  | 55 => .int
  | 56 => .int
  | 57 => .long
  | 58 => .array .long
  | 59 => .int
  | 60 => .long
  | 61 => .array .int
  | 62 => .array .int
  | 63 => .long
  | 64 => .int
  | 65 => .int
  | 66 => .array .int
  | 67 => .array .int
  | 68 => .array .int
  | 69 => .array .int
  | 70 => .array .char
  | 71 => .array .char
  | 72 => .array .char
  | 73 => .array .char
  | 74 => .array .char
  | 75 => .array .char
  | 76 => .array .char
  | 77 => .array .char
  | 78 => .array .char
  | 79 => .array .char
  | 80 => .array .char
  | 81 => .array .char
  | 82 => .array .char
  | 83 => .array .char
  | 84 => .array .char
  | 85 => .array .char
  | 86 => .array .char
  | 87 => .array .int
  | 88 => .int
  | 89 => .array .int
  | 90 => .int
  | 91 => .int
  | 92 => .int
  | 93 => .array .long
  | 94 => .int
  | 95 => .long
  | 96 => .boolean
  | 97 => .array .int
  | _ => .int
abbrev wsX120 : List Cond := u_ws RX12 TX12 99
theorem nmX12 : ∀ a, a < 99 → ∀ b, b < 99 → a ≠ b → (TX12 a).2.1 ≠ (TX12 b).2.1 := sorry
theorem tyX12_ok : ∀ k, k < 99 → parseFieldDescriptor (TX12 k).2.2.1 = some (tyX12 k) := sorry
abbrev vwCl : List vw_C := [(RX1, TX1, 5), (RX2, TX2, 14), (RX3, TX3, 7), (RX4, TX4, 3), (RX5, TX5, 11), (RX6, TX6, 20), (RX7, TX7, 9), (RX8, TX8, 8), (RX9, TX9, 8), (RX10, TX10, 9), (RX11, TX11, 13), (RX12, TX12, 99)]
theorem sub_at {ws : List Cond} (ps : List Nat) (h : ws = ps.filterMap (fun i => lw_tbl[i]?)) : ∀ w ∈ ws, w ∈ lw_tbl := by
  intro w hw
  rw [h] at hw
  obtain ⟨i, -, hi⟩ := List.mem_filterMap.mp hw
  exact List.mem_of_getElem? hi
theorem sub_map {α : Type} {l : List α} {f : α → Cond} (ps : List Nat) (h : l.map f = ps.filterMap (fun i => lw_tbl[i]?)) : ∀ q ∈ l, f q ∈ lw_tbl := fun q hq => sub_at ps h _ (List.mem_map_of_mem hq)
set_option maxRecDepth 20000 in
theorem inX1 : ∀ w ∈ wsX10, w ∈ lw_tbl := sorry
set_option maxRecDepth 20000 in
theorem inX2 : ∀ w ∈ wsX20, w ∈ lw_tbl := sorry
set_option maxRecDepth 20000 in
theorem inX3 : ∀ w ∈ wsX30, w ∈ lw_tbl := sorry
set_option maxRecDepth 20000 in
theorem inX4 : ∀ w ∈ wsX40, w ∈ lw_tbl := sorry
set_option maxRecDepth 20000 in
theorem inX5 : ∀ w ∈ wsX50, w ∈ lw_tbl := sorry
set_option maxRecDepth 20000 in
theorem inX6 : ∀ w ∈ wsX60, w ∈ lw_tbl := sorry
set_option maxRecDepth 20000 in
theorem inX7 : ∀ w ∈ wsX70, w ∈ lw_tbl := sorry
set_option maxRecDepth 20000 in
theorem inX8 : ∀ w ∈ wsX80, w ∈ lw_tbl := sorry
set_option maxRecDepth 20000 in
theorem inX9 : ∀ w ∈ wsX90, w ∈ lw_tbl := sorry
set_option maxRecDepth 20000 in
theorem inX10 : ∀ w ∈ wsX100, w ∈ lw_tbl := sorry
set_option maxRecDepth 20000 in
theorem inX11 : ∀ w ∈ wsX110, w ∈ lw_tbl := sorry
set_option maxRecDepth 20000 in
theorem inX12 : ∀ w ∈ wsX120, w ∈ lw_tbl := sorry
def cnT : List String := ["EvenOars$BoatText", "EvenOars$Changes", "EvenOars$Crew", "EvenOars$Halves", "EvenOars$Lanes", "EvenOars$Nearest", "EvenOars$Plan", "EvenOars$Question", "EvenOars$Race", "EvenOars$Tape", "EvenOars$Trials", "EvenOars", "EvenOarsModel", "EvenOarsLaw", "java/lang/Integer", "java/lang/Math", "java/util/Arrays"]
def cn (k : Nat) : String := cnT.getD k ""
def onT : List Nat := [14, 15, 15, 15, 15, 15, 15, 15, 16, 16, 0, 0, 0, 0, 0, 0, 0, 0, 0, 0, 0, 0, 0, 0, 1, 1, 1, 1, 1, 1, 1, 1, 1, 2, 2, 2, 2, 2, 2, 2, 2, 2, 2, 2, 2, 2, 2, 2, 2, 2, 2, 2, 2, 2, 2, 2, 2, 2, 2, 2, 2, 3, 3, 3, 3, 3, 3, 3, 3, 3, 3, 3, 3, 4, 4, 4, 4, 5, 5, 5, 5, 5, 5, 5, 5, 5, 6, 6, 6, 6, 6, 6, 6, 6, 6, 6, 6, 6, 6, 6, 6, 6, 6, 6, 6, 6, 6, 6, 7, 7, 7, 7, 7, 7, 7, 7, 7, 7, 7, 7, 7, 7, 7, 7, 7, 7, 7, 7, 7, 7, 7, 7, 7, 7, 7, 8, 8, 8, 8, 8, 8, 8, 8, 8, 8, 9, 9, 9, 9, 9, 9, 9, 9, 9, 9, 9, 9, 9, 9, 9, 9, 9, 9, 9, 9, 9, 9, 10, 10, 10, 10, 10, 10, 10, 10, 10, 10, 10, 10, 10, 10, 10, 10, 11, 11, 11, 11, 11, 11, 11, 11, 11, 11, 11, 11, 11, 11, 11, 11, 11, 11, 11, 11, 11, 11, 11, 11, 11, 11, 11, 11, 11, 11, 11, 11, 11, 11, 11, 11, 11, 11, 11, 11, 11, 11, 11, 11, 12, 12, 12, 12, 12, 12, 12, 12, 12, 12, 12, 12, 12, 12, 12, 12, 12, 12, 12, 12, 12, 12, 12, 12, 12, 12, 12, 12, 12, 12, 12, 12, 12, 12, 12, 12, 12, 12, 12, 12, 12, 12, 12, 12, 12, 12, 12, 12, 12, 12, 12, 12, 12, 12, 12, 12, 12, 12, 12, 12, 12, 12, 12, 12, 12, 12, 12, 12, 12, 12, 12, 12, 12, 12, 12, 12, 12, 12, 12, 12, 12, 12, 12, 12, 12, 12, 12, 12, 12, 12, 12, 12, 12, 12, 12, 12, 12, 12, 12, 12, 12, 12, 12, 12, 12, 12, 12, 12, 12, 12, 12, 12, 12, 12, 12, 12, 12, 12, 12, 12, 12, 12, 12, 12, 12, 12, 12, 12, 12, 12, 12, 12, 12, 12, 12, 12, 12, 12, 12, 12, 12, 12, 12, 12, 12, 12, 13]
def on (m : Nat) : Nat := onT.getD m 0
def yT : List MethodName := [⟨"java/lang/Integer", "bitCount", "(I)I"⟩, ⟨"java/lang/Math", "floorDiv", "(JJ)J"⟩, ⟨"java/lang/Math", "abs", "(I)I"⟩, ⟨"java/lang/Math", "abs", "(J)J"⟩, ⟨"java/lang/Math", "max", "(II)I"⟩, ⟨"java/lang/Math", "max", "(JJ)J"⟩, ⟨"java/lang/Math", "min", "(II)I"⟩, ⟨"java/lang/Math", "min", "(JJ)J"⟩, ⟨"java/util/Arrays", "fill", "([JJ)V"⟩, ⟨"java/util/Arrays", "fill", "([II)V"⟩, ⟨"EvenOars$BoatText", "read", "(LEvenOars$Tape;LEvenOars$Plan;)I"⟩, ⟨"EvenOars$BoatText", "statement", "(LEvenOars$Tape;LEvenOars$Plan;)Z"⟩, ⟨"EvenOars$BoatText", "isOneTooMany", "(LEvenOars$Plan;I)Z"⟩, ⟨"EvenOars$BoatText", "seatTold", "(LEvenOars$Tape;LEvenOars$Plan;)Z"⟩, ⟨"EvenOars$BoatText", "rowerTold", "(LEvenOars$Tape;LEvenOars$Plan;)Z"⟩, ⟨"EvenOars$BoatText", "nameTold", "(LEvenOars$Tape;LEvenOars$Plan;)Z"⟩, ⟨"EvenOars$BoatText", "isName", "(LEvenOars$Tape;LEvenOars$Plan;II)Z"⟩, ⟨"EvenOars$BoatText", "eachTold", "(LEvenOars$Tape;LEvenOars$Plan;)Z"⟩, ⟨"EvenOars$BoatText", "fixTold", "(LEvenOars$Tape;LEvenOars$Plan;)Z"⟩, ⟨"EvenOars$BoatText", "wantTold", "(LEvenOars$Tape;LEvenOars$Plan;)Z"⟩, ⟨"EvenOars$BoatText", "nearTold", "(LEvenOars$Tape;LEvenOars$Plan;)Z"⟩, ⟨"EvenOars$BoatText", "runTold", "(LEvenOars$Tape;LEvenOars$Plan;)Z"⟩, ⟨"EvenOars$BoatText", "sidesTold", "(LEvenOars$Tape;LEvenOars$Plan;)Z"⟩, ⟨"EvenOars$BoatText", "payTold", "(LEvenOars$Tape;LEvenOars$Plan;)Z"⟩, ⟨"EvenOars$Changes", "<init>", "()V"⟩, ⟨"EvenOars$Changes", "fewest", "(LEvenOars$Crew;)I"⟩, ⟨"EvenOars$Changes", "load", "(LEvenOars$Crew;)V"⟩, ⟨"EvenOars$Changes", "canBeLawful", "(LEvenOars$Plan;I)Z"⟩, ⟨"EvenOars$Changes", "bySwaps", "(LEvenOars$Plan;III)Z"⟩, ⟨"EvenOars$Changes", "byTurns", "(LEvenOars$Plan;II)Z"⟩, ⟨"EvenOars$Changes", "isGood", "(I)Z"⟩, ⟨"EvenOars$Changes", "exchange", "(II)V"⟩, ⟨"EvenOars$Changes", "flip", "(I)V"⟩, ⟨"EvenOars$Crew", "<init>", "()V"⟩, ⟨"EvenOars$Crew", "board", "(LEvenOars$Plan;)V"⟩, ⟨"EvenOars$Crew", "seatOf", "(I)I"⟩, ⟨"EvenOars$Crew", "sides", "()I"⟩, ⟨"EvenOars$Crew", "strengthAt", "(II)I"⟩, ⟨"EvenOars$Crew", "forceIn", "(II)I"⟩, ⟨"EvenOars$Crew", "leverToSide", "(II)J"⟩, ⟨"EvenOars$Crew", "swingAt", "(II)J"⟩, ⟨"EvenOars$Crew", "offAt", "(I)J"⟩, ⟨"EvenOars$Crew", "isGoodAt", "(I)Z"⟩, ⟨"EvenOars$Crew", "turnSeat", "(I)Z"⟩, ⟨"EvenOars$Crew", "swapRowers", "(II)Z"⟩, ⟨"EvenOars$Crew", "passBy", "(I)V"⟩, ⟨"EvenOars$Crew", "rowOn", "(I)V"⟩, ⟨"EvenOars$Crew", "undoAct", "()Z"⟩, ⟨"EvenOars$Crew", "writeImage", "()I"⟩, ⟨"EvenOars$Crew", "takeImage", "(LEvenOars$Tape;)Z"⟩, ⟨"EvenOars$Crew", "isImage", "(LEvenOars$Tape;)Z"⟩, ⟨"EvenOars$Crew", "rowersCanSitSo", "(LEvenOars$Tape;)Z"⟩, ⟨"EvenOars$Crew", "sidesCanBeSo", "(LEvenOars$Tape;)Z"⟩, ⟨"EvenOars$Crew", "strokeIn", "(LEvenOars$Tape;)I"⟩, ⟨"EvenOars$Crew", "checkOn", "(II)I"⟩, ⟨"EvenOars$Crew", "writeOctet", "(I)V"⟩, ⟨"EvenOars$Crew", "noteAct", "(III)V"⟩, ⟨"EvenOars$Crew", "flip", "(I)V"⟩, ⟨"EvenOars$Crew", "exchange", "(II)V"⟩, ⟨"EvenOars$Crew", "drawnSwing", "()J"⟩, ⟨"EvenOars$Crew", "drawOfThree", "()I"⟩, ⟨"EvenOars$Halves", "<init>", "()V"⟩, ⟨"EvenOars$Halves", "waysFor", "(I)J"⟩, ⟨"EvenOars$Halves", "countWays", "()V"⟩, ⟨"EvenOars$Halves", "wayAt", "(II)I"⟩, ⟨"EvenOars$Halves", "choose", "(IIII)I"⟩, ⟨"EvenOars$Halves", "canBe", "(III)Z"⟩, ⟨"EvenOars$Halves", "sumDoubled", "(II)J"⟩, ⟨"EvenOars$Halves", "stillUpTo", "(II)I"⟩, ⟨"EvenOars$Halves", "power", "(JI)J"⟩, ⟨"EvenOars$Halves", "partPayments", "(LEvenOars$Plan;LEvenOars$Lanes;)V"⟩, ⟨"EvenOars$Halves", "addPayments", "(LEvenOars$Plan;LEvenOars$Lanes;Z)V"⟩, ⟨"EvenOars$Halves", "heirsApart", "(LEvenOars$Plan;IZ)J"⟩, ⟨"EvenOars$Lanes", "<init>", "()V"⟩, ⟨"EvenOars$Lanes", "clear", "()V"⟩, ⟨"EvenOars$Lanes", "add", "(J[JI)V"⟩, ⟨"EvenOars$Lanes", "advanceTo", "(I)V"⟩, ⟨"EvenOars$Nearest", "<init>", "()V"⟩, ⟨"EvenOars$Nearest", "findAsTheySit", "(LEvenOars$Crew;LEvenOars$Lanes;)Z"⟩, ⟨"EvenOars$Nearest", "findOrder", "(LEvenOars$Crew;LEvenOars$Lanes;)Z"⟩, ⟨"EvenOars$Nearest", "bestRower", "(I)I"⟩, ⟨"EvenOars$Nearest", "arrange", "(LEvenOars$Crew;LEvenOars$Lanes;II)V"⟩, ⟨"EvenOars$Nearest", "keepOrder", "()V"⟩, ⟨"EvenOars$Nearest", "scan", "(LEvenOars$Plan;LEvenOars$Lanes;)V"⟩, ⟨"EvenOars$Nearest", "setLanes", "(LEvenOars$Plan;LEvenOars$Lanes;)V"⟩, ⟨"EvenOars$Nearest", "weigh", "(LEvenOars$Lanes;II)V"⟩, ⟨"EvenOars$Plan", "<init>", "()V"⟩, ⟨"EvenOars$Plan", "clear", "()V"⟩, ⟨"EvenOars$Plan", "isSeat", "(I)Z"⟩, ⟨"EvenOars$Plan", "isRower", "(I)Z"⟩, ⟨"EvenOars$Plan", "isPower", "(I)Z"⟩, ⟨"EvenOars$Plan", "isFixed", "(I)Z"⟩, ⟨"EvenOars$Plan", "seatAtPlace", "(I)I"⟩, ⟨"EvenOars$Plan", "addSeat", "(II)V"⟩, ⟨"EvenOars$Plan", "fixSeat", "(IZ)V"⟩, ⟨"EvenOars$Plan", "addRower", "(II)V"⟩, ⟨"EvenOars$Plan", "wantSwing", "(II)V"⟩, ⟨"EvenOars$Plan", "addRun", "(II)V"⟩, ⟨"EvenOars$Plan", "setRunSide", "(II)V"⟩, ⟨"EvenOars$Plan", "addPayment", "(II)V"⟩, ⟨"EvenOars$Plan", "wants", "()I"⟩, ⟨"EvenOars$Plan", "leverOf", "(II)J"⟩, ⟨"EvenOars$Plan", "allows", "(I)Z"⟩, ⟨"EvenOars$Plan", "sideAtFirst", "(I)I"⟩, ⟨"EvenOars$Plan", "seatedAtFirst", "()I"⟩, ⟨"EvenOars$Plan", "runLever", "(II)J"⟩, ⟨"EvenOars$Plan", "swungOf", "(I)J"⟩, ⟨"EvenOars$Plan", "payment", "(IZ)J"⟩, ⟨"EvenOars$Question", "<init>", "()V"⟩, ⟨"EvenOars$Question", "read", "(LEvenOars$Tape;)Z"⟩, ⟨"EvenOars$Question", "test", "(LEvenOars$Tape;I)Z"⟩, ⟨"EvenOars$Question", "both", "(LEvenOars$Tape;I)Z"⟩, ⟨"EvenOars$Question", "fact", "(LEvenOars$Tape;I)Z"⟩, ⟨"EvenOars$Question", "comparison", "(LEvenOars$Tape;I)Z"⟩, ⟨"EvenOars$Question", "sum", "(LEvenOars$Tape;I)Z"⟩, ⟨"EvenOars$Question", "product", "(LEvenOars$Tape;I)Z"⟩, ⟨"EvenOars$Question", "part", "(LEvenOars$Tape;I)Z"⟩, ⟨"EvenOars$Question", "partOf", "(LEvenOars$Tape;II)Z"⟩, ⟨"EvenOars$Question", "pair", "(LEvenOars$Tape;II)Z"⟩, ⟨"EvenOars$Question", "mayOpen", "(LEvenOars$Tape;I)Z"⟩, ⟨"EvenOars$Question", "code", "(I)V"⟩, ⟨"EvenOars$Question", "keep", "(I)V"⟩, ⟨"EvenOars$Question", "answer", "(LEvenOars$Crew;)J"⟩, ⟨"EvenOars$Question", "answerTest", "(LEvenOars$Crew;II)J"⟩, ⟨"EvenOars$Question", "answerSum", "(LEvenOars$Crew;II)J"⟩, ⟨"EvenOars$Question", "valueAt", "(LEvenOars$Crew;I)J"⟩, ⟨"EvenOars$Question", "keepTen", "(LEvenOars$Crew;I)V"⟩, ⟨"EvenOars$Question", "apply", "(LEvenOars$Crew;II)V"⟩, ⟨"EvenOars$Question", "applyToTwo", "(I)V"⟩, ⟨"EvenOars$Question", "swingOf", "(J)J"⟩, ⟨"EvenOars$Question", "forceOf", "(LEvenOars$Crew;JI)J"⟩, ⟨"EvenOars$Question", "joined", "(IJJ)J"⟩, ⟨"EvenOars$Question", "held", "(J)J"⟩, ⟨"EvenOars$Question", "push", "(J)V"⟩, ⟨"EvenOars$Question", "pop", "()J"⟩, ⟨"EvenOars$Race", "<init>", "()V"⟩, ⟨"EvenOars$Race", "greatest", "(LEvenOars$Crew;I)J"⟩, ⟨"EvenOars$Race", "findStillest", "(LEvenOars$Crew;LEvenOars$Lanes;I)Z"⟩, ⟨"EvenOars$Race", "findUnderWay", "(LEvenOars$Crew;I)Z"⟩, ⟨"EvenOars$Race", "sailAsTheySit", "(LEvenOars$Crew;I)V"⟩, ⟨"EvenOars$Race", "tryChange", "(LEvenOars$Crew;III)V"⟩, ⟨"EvenOars$Race", "setLanes", "(LEvenOars$Crew;LEvenOars$Lanes;I)V"⟩, ⟨"EvenOars$Race", "greatestOf", "(LEvenOars$Lanes;)J"⟩, ⟨"EvenOars$Race", "firstTen", "(LEvenOars$Crew;)I"⟩, ⟨"EvenOars$Race", "lastTen", "(LEvenOars$Crew;I)I"⟩, ⟨"EvenOars$Tape", "<init>", "()V"⟩, ⟨"EvenOars$Tape", "hasRoomForFive", "()Z"⟩, ⟨"EvenOars$Tape", "put", "(I)V"⟩, ⟨"EvenOars$Tape", "cut", "(I)Z"⟩, ⟨"EvenOars$Tape", "clear", "()V"⟩, ⟨"EvenOars$Tape", "byteAt", "(I)I"⟩, ⟨"EvenOars$Tape", "begin", "()V"⟩, ⟨"EvenOars$Tape", "fail", "(II)Z"⟩, ⟨"EvenOars$Tape", "failHere", "()Z"⟩, ⟨"EvenOars$Tape", "next", "()I"⟩, ⟨"EvenOars$Tape", "takeSign", "(I)Z"⟩, ⟨"EvenOars$Tape", "wordHere", "(Ljava/lang/String;)I"⟩, ⟨"EvenOars$Tape", "passWord", "()V"⟩, ⟨"EvenOars$Tape", "takeWord", "(Ljava/lang/String;I)Z"⟩, ⟨"EvenOars$Tape", "anyWordEnd", "()I"⟩, ⟨"EvenOars$Tape", "placeIn", "(Ljava/lang/String;I)I"⟩, ⟨"EvenOars$Tape", "takeNumber", "(II)Z"⟩, ⟨"EvenOars$Tape", "takeSignedNumber", "(I)Z"⟩, ⟨"EvenOars$Tape", "wordEnd", "()I"⟩, ⟨"EvenOars$Tape", "isLetter", "(I)Z"⟩, ⟨"EvenOars$Tape", "isDigit", "(I)Z"⟩, ⟨"EvenOars$Tape", "isBlank", "(I)Z"⟩, ⟨"EvenOars$Trials", "<init>", "()V"⟩, ⟨"EvenOars$Trials", "forget", "()V"⟩, ⟨"EvenOars$Trials", "firstUnfit", "(LEvenOars$Plan;)I"⟩, ⟨"EvenOars$Trials", "told", "(LEvenOars$Plan;II)I"⟩, ⟨"EvenOars$Trials", "crookedSeats", "(LEvenOars$Plan;)I"⟩, ⟨"EvenOars$Trials", "gapAsTold", "(LEvenOars$Plan;I)J"⟩, ⟨"EvenOars$Trials", "canBeCrooked", "(LEvenOars$Plan;I)Z"⟩, ⟨"EvenOars$Trials", "allFitWith", "(LEvenOars$Plan;I)Z"⟩, ⟨"EvenOars$Trials", "countRows", "(LEvenOars$Plan;)V"⟩, ⟨"EvenOars$Trials", "setBounds", "(LEvenOars$Plan;I)V"⟩, ⟨"EvenOars$Trials", "rowsFrom", "(LEvenOars$Plan;I)I"⟩, ⟨"EvenOars$Trials", "verdictFrom", "(LEvenOars$Plan;I)I"⟩, ⟨"EvenOars$Trials", "allRowsFrom", "(LEvenOars$Plan;I)I"⟩, ⟨"EvenOars$Trials", "rowsOfLast", "(LEvenOars$Plan;I)I"⟩, ⟨"EvenOars$Trials", "tryMore", "(LEvenOars$Plan;II)V"⟩, ⟨"EvenOars$Trials", "noteStrengths", "(III)V"⟩, ⟨"EvenOars", "<init>", "()V"⟩, ⟨"EvenOars", "feed", "(IIIII)I"⟩, ⟨"EvenOars", "end", "(I)Z"⟩, ⟨"EvenOars", "text", "()I"⟩, ⟨"EvenOars", "fault", "(I)I"⟩, ⟨"EvenOars", "boat", "(I)I"⟩, ⟨"EvenOars", "letter", "(II)I"⟩, ⟨"EvenOars", "seat", "(II)I"⟩, ⟨"EvenOars", "rower", "(II)I"⟩, ⟨"EvenOars", "want", "(I)J"⟩, ⟨"EvenOars", "swing", "(II)J"⟩, ⟨"EvenOars", "off", "()J"⟩, ⟨"EvenOars", "good", "()I"⟩, ⟨"EvenOars", "lawful", "()I"⟩, ⟨"EvenOars", "heading", "()J"⟩, ⟨"EvenOars", "turn", "(I)Z"⟩, ⟨"EvenOars", "swap", "(II)Z"⟩, ⟨"EvenOars", "stroke", "(I)I"⟩, ⟨"EvenOars", "row", "(I)J"⟩, ⟨"EvenOars", "undo", "()Z"⟩, ⟨"EvenOars", "seed", "(I)Z"⟩, ⟨"EvenOars", "ways", "(I)J"⟩, ⟨"EvenOars", "made", "(II)I"⟩, ⟨"EvenOars", "doubled", "(II)J"⟩, ⟨"EvenOars", "still", "(II)I"⟩, ⟨"EvenOars", "nearest", "(I)J"⟩, ⟨"EvenOars", "seated", "(I)J"⟩, ⟨"EvenOars", "changes", "()I"⟩, ⟨"EvenOars", "race", "(I)J"⟩, ⟨"EvenOars", "stillest", "(II)J"⟩, ⟨"EvenOars", "under", "(II)J"⟩, ⟨"EvenOars", "fits", "()I"⟩, ⟨"EvenOars", "strengths", "(II)I"⟩, ⟨"EvenOars", "crooked", "()I"⟩, ⟨"EvenOars", "heirs", "(I)I"⟩, ⟨"EvenOars", "apart", "(IZ)J"⟩, ⟨"EvenOars", "ask", "()J"⟩, ⟨"EvenOars", "image", "()I"⟩, ⟨"EvenOars", "octet", "(I)I"⟩, ⟨"EvenOars", "on", "()Z"⟩, ⟨"EvenOars", "status", "(I)I"⟩, ⟨"EvenOars", "refuse", "(I)Z"⟩, ⟨"EvenOars", "canGoBy", "(I)Z"⟩, ⟨"EvenOars", "keepFault", "()V"⟩, ⟨"EvenOarsModel", "<init>", "()V"⟩, ⟨"EvenOarsModel", "isIn", "(JJJ)Z"⟩, ⟨"EvenOarsModel", "feed", "(IIIII)I"⟩, ⟨"EvenOarsModel", "end", "(I)Z"⟩, ⟨"EvenOarsModel", "fail", "(II)V"⟩, ⟨"EvenOarsModel", "isLetter", "(I)Z"⟩, ⟨"EvenOarsModel", "isDigit", "(I)Z"⟩, ⟨"EvenOarsModel", "look", "()I"⟩, ⟨"EvenOarsModel", "isHere", "([C)Z"⟩, ⟨"EvenOarsModel", "takes", "([C)Z"⟩, ⟨"EvenOarsModel", "asks", "([C)V"⟩, ⟨"EvenOarsModel", "takesSign", "(I)Z"⟩, ⟨"EvenOarsModel", "asksSign", "(I)V"⟩, ⟨"EvenOarsModel", "number", "(II)I"⟩, ⟨"EvenOarsModel", "signed", "(I)I"⟩, ⟨"EvenOarsModel", "isOwnHere", "()Z"⟩, ⟨"EvenOarsModel", "name", "()J"⟩, ⟨"EvenOarsModel", "isFull", "(III)Z"⟩, ⟨"EvenOarsModel", "seatAt", "(I)I"⟩, ⟨"EvenOarsModel", "seatTold", "(I)V"⟩, ⟨"EvenOarsModel", "rowerTold", "(I)V"⟩, ⟨"EvenOarsModel", "fixTold", "()V"⟩, ⟨"EvenOarsModel", "wantTold", "()V"⟩, ⟨"EvenOarsModel", "sidesTold", "(I)V"⟩, ⟨"EvenOarsModel", "runTold", "(I)V"⟩, ⟨"EvenOarsModel", "payTold", "(I)V"⟩, ⟨"EvenOarsModel", "statementTold", "()V"⟩, ⟨"EvenOarsModel", "text", "()I"⟩, ⟨"EvenOarsModel", "stands", "()V"⟩, ⟨"EvenOarsModel", "fault", "(I)I"⟩, ⟨"EvenOarsModel", "seats", "()I"⟩, ⟨"EvenOarsModel", "rowers", "()I"⟩, ⟨"EvenOarsModel", "runs", "()I"⟩, ⟨"EvenOarsModel", "each", "()I"⟩, ⟨"EvenOarsModel", "near", "()I"⟩, ⟨"EvenOarsModel", "isSeat", "(I)Z"⟩, ⟨"EvenOarsModel", "isRower", "(I)Z"⟩, ⟨"EvenOarsModel", "isFixed", "(I)Z"⟩, ⟨"EvenOarsModel", "strengthAt", "(II)I"⟩, ⟨"EvenOarsModel", "pullOf", "(II)I"⟩, ⟨"EvenOarsModel", "raised", "(II)J"⟩, ⟨"EvenOarsModel", "swingBy", "(III)J"⟩, ⟨"EvenOarsModel", "size", "(J)J"⟩, ⟨"EvenOarsModel", "isWantedOf", "(I)Z"⟩, ⟨"EvenOarsModel", "offBy", "(I)J"⟩, ⟨"EvenOarsModel", "isGood", "(I)Z"⟩, ⟨"EvenOarsModel", "bits", "(I)I"⟩, ⟨"EvenOarsModel", "isLawful", "(I)Z"⟩, ⟨"EvenOarsModel", "fixedMany", "()I"⟩, ⟨"EvenOarsModel", "wants", "()I"⟩, ⟨"EvenOarsModel", "boat", "(I)I"⟩, ⟨"EvenOarsModel", "letter", "(II)I"⟩, ⟨"EvenOarsModel", "seat", "(II)I"⟩, ⟨"EvenOarsModel", "seatOf", "(I)I"⟩, ⟨"EvenOarsModel", "rower", "(II)I"⟩, ⟨"EvenOarsModel", "isPower", "(I)Z"⟩, ⟨"EvenOarsModel", "want", "(I)J"⟩, ⟨"EvenOarsModel", "swing", "(II)J"⟩, ⟨"EvenOarsModel", "off", "()J"⟩, ⟨"EvenOarsModel", "good", "()I"⟩, ⟨"EvenOarsModel", "lawful", "()I"⟩, ⟨"EvenOarsModel", "heading", "()J"⟩, ⟨"EvenOarsModel", "keeps", "()V"⟩, ⟨"EvenOarsModel", "undo", "()Z"⟩, ⟨"EvenOarsModel", "turn", "(I)Z"⟩, ⟨"EvenOarsModel", "changesSeats", "(II)V"⟩, ⟨"EvenOarsModel", "canSwap", "(II)Z"⟩, ⟨"EvenOarsModel", "swap", "(II)Z"⟩, ⟨"EvenOarsModel", "canGo", "(I)Z"⟩, ⟨"EvenOarsModel", "stroke", "(I)I"⟩, ⟨"EvenOarsModel", "seed", "(I)Z"⟩, ⟨"EvenOarsModel", "drawOf", "(I)I"⟩, ⟨"EvenOarsModel", "rows", "()V"⟩, ⟨"EvenOarsModel", "row", "(I)J"⟩, ⟨"EvenOarsModel", "ways", "(I)J"⟩, ⟨"EvenOarsModel", "sumBy", "(III)J"⟩, ⟨"EvenOarsModel", "made", "(II)I"⟩, ⟨"EvenOarsModel", "doubled", "(II)J"⟩, ⟨"EvenOarsModel", "still", "(II)I"⟩, ⟨"EvenOarsModel", "isNearest", "()Z"⟩, ⟨"EvenOarsModel", "nearest", "(I)J"⟩, ⟨"EvenOarsModel", "putsAside", "()V"⟩, ⟨"EvenOarsModel", "takesBack", "()V"⟩, ⟨"EvenOarsModel", "sitBy", "(I)Z"⟩, ⟨"EvenOarsModel", "seated", "(I)J"⟩, ⟨"EvenOarsModel", "actMany", "()I"⟩, ⟨"EvenOarsModel", "acts", "(I)Z"⟩, ⟨"EvenOarsModel", "isRight", "()Z"⟩, ⟨"EvenOarsModel", "isOneOff", "()Z"⟩, ⟨"EvenOarsModel", "isTwoOff", "()Z"⟩, ⟨"EvenOarsModel", "isThreeOff", "()Z"⟩, ⟨"EvenOarsModel", "changes", "()I"⟩, ⟨"EvenOarsModel", "greater", "(JJ)J"⟩, ⟨"EvenOarsModel", "greatest", "(III)J"⟩, ⟨"EvenOarsModel", "race", "(I)J"⟩, ⟨"EvenOarsModel", "stillest", "(II)J"⟩, ⟨"EvenOarsModel", "underBy", "(III)V"⟩, ⟨"EvenOarsModel", "under", "(II)J"⟩, ⟨"EvenOarsModel", "triesTold", "()V"⟩, ⟨"EvenOarsModel", "isFit", "(I)Z"⟩, ⟨"EvenOarsModel", "firstUnfit", "()I"⟩, ⟨"EvenOarsModel", "fits", "()I"⟩, ⟨"EvenOarsModel", "fittingRows", "()I"⟩, ⟨"EvenOarsModel", "strengths", "(II)I"⟩, ⟨"EvenOarsModel", "crooked", "()I"⟩, ⟨"EvenOarsModel", "payments", "()I"⟩, ⟨"EvenOarsModel", "apartBy", "(IZ)J"⟩, ⟨"EvenOarsModel", "heirs", "(I)I"⟩, ⟨"EvenOarsModel", "apart", "(IZ)J"⟩, ⟨"EvenOarsModel", "qCode", "(I)V"⟩, ⟨"EvenOarsModel", "qOpens", "(II)V"⟩, ⟨"EvenOarsModel", "qIsOn", "(I)Z"⟩, ⟨"EvenOarsModel", "qDrops", "()V"⟩, ⟨"EvenOarsModel", "qIsBracket", "(I)Z"⟩, ⟨"EvenOarsModel", "qBracket", "()I"⟩, ⟨"EvenOarsModel", "qDropsToBracket", "()V"⟩, ⟨"EvenOarsModel", "qWordHere", "()I"⟩, ⟨"EvenOarsModel", "qWordOf", "(II)I"⟩, ⟨"EvenOarsModel", "qAsksWord", "(I)V"⟩, ⟨"EvenOarsModel", "qEndsPart", "()V"⟩, ⟨"EvenOarsModel", "qPartTold", "()V"⟩, ⟨"EvenOarsModel", "qGoesOn", "()Z"⟩, ⟨"EvenOarsModel", "qSums", "()V"⟩, ⟨"EvenOarsModel", "qFact", "()V"⟩, ⟨"EvenOarsModel", "qHasSquare", "()Z"⟩, ⟨"EvenOarsModel", "qDropsNots", "()V"⟩, ⟨"EvenOarsModel", "qTest", "()V"⟩, ⟨"EvenOarsModel", "qGoesOnTest", "()Z"⟩, ⟨"EvenOarsModel", "qClip", "(J)J"⟩, ⟨"EvenOarsModel", "qFloor", "(JJ)J"⟩, ⟨"EvenOarsModel", "qPuts", "(J)V"⟩, ⟨"EvenOarsModel", "qJoins", "(I)V"⟩, ⟨"EvenOarsModel", "qPartOf", "(II)J"⟩, ⟨"EvenOarsModel", "qOf", "(IJI)J"⟩, ⟨"EvenOarsModel", "qTold", "(I)J"⟩, ⟨"EvenOarsModel", "qKind", "()I"⟩, ⟨"EvenOarsModel", "qTakes", "(IJI)V"⟩, ⟨"EvenOarsModel", "ask", "()J"⟩, ⟨"EvenOarsModel", "qOffAt", "(I)J"⟩, ⟨"EvenOarsModel", "qIsGoodAt", "(I)J"⟩, ⟨"EvenOarsModel", "checked", "([II)I"⟩, ⟨"EvenOarsModel", "image", "()I"⟩, ⟨"EvenOarsModel", "octet", "(I)I"⟩, ⟨"EvenOarsModel", "isImage", "(I)Z"⟩, ⟨"EvenOarsModel", "on", "()Z"⟩, ⟨"EvenOarsModel", "status", "(I)I"⟩, ⟨"EvenOarsLaw", "law", "([I)Z"⟩]
def yM (m : Nat) : MethodName := yT.getD m ⟨"", "", ""⟩
def bT : List ByteArray := [prog_15_method_49_code, prog_16_method_49_code, prog_16_method_59_code, prog_16_method_61_code, prog_16_method_65_code, prog_16_method_66_code, prog_16_method_69_code, prog_16_method_70_code, prog_21_method_101_code, prog_21_method_103_code, prog_2_method_2_code, prog_2_method_3_code, prog_2_method_4_code, prog_2_method_5_code, prog_2_method_6_code, prog_2_method_7_code, prog_2_method_8_code, prog_2_method_9_code, prog_2_method_10_code, prog_2_method_11_code, prog_2_method_12_code, prog_2_method_13_code, prog_2_method_14_code, prog_2_method_15_code, prog_3_method_1_code, prog_3_method_2_code, prog_3_method_3_code, prog_3_method_4_code, prog_3_method_5_code, prog_3_method_6_code, prog_3_method_7_code, prog_3_method_8_code, prog_3_method_9_code, prog_4_method_1_code, prog_4_method_2_code, prog_4_method_3_code, prog_4_method_4_code, prog_4_method_5_code, prog_4_method_6_code, prog_4_method_7_code, prog_4_method_8_code, prog_4_method_9_code, prog_4_method_10_code, prog_4_method_11_code, prog_4_method_12_code, prog_4_method_13_code, prog_4_method_14_code, prog_4_method_15_code, prog_4_method_16_code, prog_4_method_17_code, prog_4_method_18_code, prog_4_method_19_code, prog_4_method_20_code, prog_4_method_21_code, prog_4_method_22_code, prog_4_method_23_code, prog_4_method_24_code, prog_4_method_25_code, prog_4_method_26_code, prog_4_method_27_code, prog_4_method_28_code, prog_5_method_1_code, prog_5_method_2_code, prog_5_method_3_code, prog_5_method_4_code, prog_5_method_5_code, prog_5_method_6_code, prog_5_method_7_code, prog_5_method_8_code, prog_5_method_9_code, prog_5_method_10_code, prog_5_method_11_code, prog_5_method_12_code, prog_6_method_1_code, prog_6_method_2_code, prog_6_method_3_code, prog_6_method_4_code, prog_7_method_1_code, prog_7_method_2_code, prog_7_method_3_code, prog_7_method_4_code, prog_7_method_5_code, prog_7_method_6_code, prog_7_method_7_code, prog_7_method_8_code, prog_7_method_9_code, prog_8_method_1_code, prog_8_method_2_code, prog_8_method_3_code, prog_8_method_4_code, prog_8_method_5_code, prog_8_method_6_code, prog_8_method_7_code, prog_8_method_8_code, prog_8_method_9_code, prog_8_method_10_code, prog_8_method_11_code, prog_8_method_12_code, prog_8_method_13_code, prog_8_method_14_code, prog_8_method_15_code, prog_8_method_16_code, prog_8_method_17_code, prog_8_method_18_code, prog_8_method_19_code, prog_8_method_20_code, prog_8_method_21_code, prog_8_method_22_code, prog_9_method_1_code, prog_9_method_2_code, prog_9_method_3_code, prog_9_method_4_code, prog_9_method_5_code, prog_9_method_6_code, prog_9_method_7_code, prog_9_method_8_code, prog_9_method_9_code, prog_9_method_10_code, prog_9_method_11_code, prog_9_method_12_code, prog_9_method_13_code, prog_9_method_14_code, prog_9_method_15_code, prog_9_method_16_code, prog_9_method_17_code, prog_9_method_18_code, prog_9_method_19_code, prog_9_method_20_code, prog_9_method_21_code, prog_9_method_22_code, prog_9_method_23_code, prog_9_method_24_code, prog_9_method_25_code, prog_9_method_26_code, prog_9_method_27_code, prog_10_method_1_code, prog_10_method_2_code, prog_10_method_3_code, prog_10_method_4_code, prog_10_method_5_code, prog_10_method_6_code, prog_10_method_7_code, prog_10_method_8_code, prog_10_method_9_code, prog_10_method_10_code, prog_11_method_1_code, prog_11_method_2_code, prog_11_method_3_code, prog_11_method_4_code, prog_11_method_5_code, prog_11_method_6_code, prog_11_method_7_code, prog_11_method_8_code, prog_11_method_9_code, prog_11_method_10_code, prog_11_method_11_code, prog_11_method_12_code, prog_11_method_13_code, prog_11_method_14_code, prog_11_method_15_code, prog_11_method_16_code, prog_11_method_17_code, prog_11_method_18_code, prog_11_method_19_code, prog_11_method_20_code, prog_11_method_21_code, prog_11_method_22_code, prog_12_method_1_code, prog_12_method_2_code, prog_12_method_3_code, prog_12_method_4_code, prog_12_method_5_code, prog_12_method_6_code, prog_12_method_7_code, prog_12_method_8_code, prog_12_method_9_code, prog_12_method_10_code, prog_12_method_11_code, prog_12_method_12_code, prog_12_method_13_code, prog_12_method_14_code, prog_12_method_15_code, prog_12_method_16_code, prog_1_method_1_code, prog_1_method_2_code, prog_1_method_3_code, prog_1_method_4_code, prog_1_method_5_code, prog_1_method_6_code, prog_1_method_7_code, prog_1_method_8_code, prog_1_method_9_code, prog_1_method_10_code, prog_1_method_11_code, prog_1_method_12_code, prog_1_method_13_code, prog_1_method_14_code, prog_1_method_15_code, prog_1_method_16_code, prog_1_method_17_code, prog_1_method_18_code, prog_1_method_19_code, prog_1_method_20_code, prog_1_method_21_code, prog_1_method_22_code, prog_1_method_23_code, prog_1_method_24_code, prog_1_method_25_code, prog_1_method_26_code, prog_1_method_27_code, prog_1_method_28_code, prog_1_method_29_code, prog_1_method_30_code, prog_1_method_31_code, prog_1_method_32_code, prog_1_method_33_code, prog_1_method_34_code, prog_1_method_35_code, prog_1_method_36_code, prog_1_method_37_code, prog_1_method_38_code, prog_1_method_39_code, prog_1_method_40_code, prog_1_method_41_code, prog_1_method_42_code, prog_1_method_43_code, prog_1_method_44_code, prog_14_method_1_code, prog_14_method_2_code, prog_14_method_3_code, prog_14_method_4_code, prog_14_method_5_code, prog_14_method_6_code, prog_14_method_7_code, prog_14_method_8_code, prog_14_method_9_code, prog_14_method_10_code, prog_14_method_11_code, prog_14_method_12_code, prog_14_method_13_code, prog_14_method_14_code, prog_14_method_15_code, prog_14_method_16_code, prog_14_method_17_code, prog_14_method_18_code, prog_14_method_19_code, prog_14_method_20_code, prog_14_method_21_code, prog_14_method_22_code, prog_14_method_23_code, prog_14_method_24_code, prog_14_method_25_code, prog_14_method_26_code, prog_14_method_27_code, prog_14_method_28_code, prog_14_method_29_code, prog_14_method_30_code, prog_14_method_31_code, prog_14_method_32_code, prog_14_method_33_code, prog_14_method_34_code, prog_14_method_35_code, prog_14_method_36_code, prog_14_method_37_code, prog_14_method_38_code, prog_14_method_39_code, prog_14_method_40_code, prog_14_method_41_code, prog_14_method_42_code, prog_14_method_43_code, prog_14_method_44_code, prog_14_method_45_code, prog_14_method_46_code, prog_14_method_47_code, prog_14_method_48_code, prog_14_method_49_code, prog_14_method_50_code, prog_14_method_51_code, prog_14_method_52_code, prog_14_method_53_code, prog_14_method_54_code, prog_14_method_55_code, prog_14_method_56_code, prog_14_method_57_code, prog_14_method_58_code, prog_14_method_59_code, prog_14_method_60_code, prog_14_method_61_code, prog_14_method_62_code, prog_14_method_63_code, prog_14_method_64_code, prog_14_method_65_code, prog_14_method_66_code, prog_14_method_67_code, prog_14_method_68_code, prog_14_method_69_code, prog_14_method_70_code, prog_14_method_71_code, prog_14_method_72_code, prog_14_method_73_code, prog_14_method_74_code, prog_14_method_75_code, prog_14_method_76_code, prog_14_method_77_code, prog_14_method_78_code, prog_14_method_79_code, prog_14_method_80_code, prog_14_method_81_code, prog_14_method_82_code, prog_14_method_83_code, prog_14_method_84_code, prog_14_method_85_code, prog_14_method_86_code, prog_14_method_87_code, prog_14_method_88_code, prog_14_method_89_code, prog_14_method_90_code, prog_14_method_91_code, prog_14_method_92_code, prog_14_method_93_code, prog_14_method_94_code, prog_14_method_95_code, prog_14_method_96_code, prog_14_method_97_code, prog_14_method_98_code, prog_14_method_99_code, prog_14_method_100_code, prog_14_method_101_code, prog_14_method_102_code, prog_14_method_103_code, prog_14_method_104_code, prog_14_method_105_code, prog_14_method_106_code, prog_14_method_107_code, prog_14_method_108_code, prog_14_method_109_code, prog_14_method_110_code, prog_14_method_111_code, prog_14_method_112_code, prog_14_method_113_code, prog_14_method_114_code, prog_14_method_115_code, prog_14_method_116_code, prog_14_method_117_code, prog_14_method_118_code, prog_14_method_119_code, prog_14_method_120_code, prog_14_method_121_code, prog_14_method_122_code, prog_14_method_123_code, prog_14_method_124_code, prog_14_method_125_code, prog_14_method_126_code, prog_14_method_127_code, prog_14_method_128_code, prog_14_method_129_code, prog_14_method_130_code, prog_14_method_131_code, prog_14_method_132_code, prog_14_method_133_code, prog_14_method_134_code, prog_14_method_135_code, prog_14_method_136_code, prog_14_method_137_code, prog_14_method_138_code, prog_14_method_139_code, prog_14_method_140_code, prog_14_method_141_code, prog_14_method_142_code, prog_14_method_143_code, prog_14_method_144_code, prog_14_method_145_code, prog_14_method_146_code, code]
def bM (m : Nat) : ByteArray := bT.getD m ⟨#[]⟩
def rT : List (Option FieldType) := [some .int, some .long, some .int, some .long, some .int, some .long, some .int, some .long, none, none, some .int, some .boolean, some .boolean, some .boolean, some .boolean, some .boolean, some .boolean, some .boolean, some .boolean, some .boolean, some .boolean, some .boolean, some .boolean, some .boolean, none, some .int, none, some .boolean, some .boolean, some .boolean, some .boolean, none, none, none, none, some .int, some .int, some .int, some .int, some .long, some .long, some .long, some .boolean, some .boolean, some .boolean, none, none, some .boolean, some .int, some .boolean, some .boolean, some .boolean, some .boolean, some .int, some .int, none, none, none, none, some .long, some .int, none, some .long, none, some .int, some .int, some .boolean, some .long, some .int, some .long, none, none, some .long, none, none, none, none, none, some .boolean, some .boolean, some .int, none, none, none, none, none, none, none, some .boolean, some .boolean, some .boolean, some .boolean, some .int, none, none, none, none, none, none, none, some .int, some .long, some .boolean, some .int, some .int, some .long, some .long, some .long, none, some .boolean, some .boolean, some .boolean, some .boolean, some .boolean, some .boolean, some .boolean, some .boolean, some .boolean, some .boolean, some .boolean, none, none, some .long, some .long, some .long, some .long, none, none, none, some .long, some .long, some .long, some .long, none, some .long, none, some .long, some .boolean, some .boolean, none, none, none, some .long, some .int, some .int, none, some .boolean, none, some .boolean, none, some .int, none, some .boolean, some .boolean, some .int, some .boolean, some .int, none, some .boolean, some .int, some .int, some .boolean, some .boolean, some .int, some .boolean, some .boolean, some .boolean, none, none, some .int, some .int, some .int, some .long, some .boolean, some .boolean, none, none, some .int, some .int, some .int, some .int, none, none, none, some .int, some .boolean, some .int, some .int, some .int, some .int, some .int, some .int, some .long, some .long, some .long, some .int, some .int, some .long, some .boolean, some .boolean, some .int, some .long, some .boolean, some .boolean, some .long, some .int, some .long, some .int, some .long, some .long, some .int, some .long, some .long, some .long, some .int, some .int, some .int, some .int, some .long, some .long, some .int, some .int, some .boolean, some .int, some .boolean, some .boolean, none, none, some .boolean, some .int, some .boolean, none, some .boolean, some .boolean, some .int, some .boolean, some .boolean, none, some .boolean, none, some .int, some .int, some .boolean, some .long, some .boolean, some .int, none, none, none, none, none, none, none, none, some .int, none, some .int, some .int, some .int, some .int, some .int, some .int, some .boolean, some .boolean, some .boolean, some .int, some .int, some .long, some .long, some .long, some .boolean, some .long, some .boolean, some .int, some .boolean, some .int, some .int, some .int, some .int, some .int, some .int, some .int, some .boolean, some .long, some .long, some .long, some .int, some .int, some .long, none, some .boolean, some .boolean, none, some .boolean, some .boolean, some .boolean, some .int, some .boolean, some .int, none, some .long, some .long, some .long, some .int, some .long, some .int, some .boolean, some .long, none, none, some .boolean, some .long, some .int, some .boolean, some .boolean, some .boolean, some .boolean, some .boolean, some .int, some .long, some .long, some .long, some .long, none, some .long, none, some .boolean, some .int, some .int, some .int, some .int, some .int, some .int, some .long, some .int, some .long, none, none, some .boolean, none, some .boolean, some .int, none, some .int, some .int, none, none, none, some .boolean, none, none, some .boolean, none, none, some .boolean, some .long, some .long, none, none, some .long, some .long, some .long, some .int, none, some .long, some .long, some .long, some .int, some .int, some .int, some .boolean, some .boolean, some .int, some .boolean]
def rM (m : Nat) : Option FieldType := rT.getD m none
def nT : List Nat := [1, 2, 1, 1, 2, 2, 2, 2, 2, 2, 2, 2, 2, 2, 2, 2, 4, 2, 2, 2, 2, 2, 2, 2, 0, 1, 1, 2, 4, 3, 1, 2, 1, 0, 1, 1, 0, 2, 2, 2, 2, 1, 1, 1, 2, 1, 1, 0, 0, 1, 1, 1, 1, 1, 2, 1, 3, 1, 2, 0, 0, 0, 1, 0, 2, 4, 3, 2, 2, 2, 2, 3, 3, 0, 0, 3, 1, 0, 2, 2, 1, 4, 0, 2, 2, 3, 0, 0, 1, 1, 1, 1, 1, 2, 2, 2, 2, 2, 2, 2, 0, 2, 1, 1, 0, 2, 1, 2, 0, 1, 2, 2, 2, 2, 2, 2, 2, 3, 3, 2, 1, 1, 1, 3, 3, 2, 2, 3, 1, 1, 3, 3, 1, 1, 0, 0, 2, 3, 2, 2, 4, 3, 1, 1, 2, 0, 0, 1, 1, 0, 1, 0, 2, 0, 0, 1, 1, 0, 2, 0, 2, 2, 1, 0, 1, 1, 1, 0, 0, 1, 3, 1, 2, 2, 2, 1, 2, 2, 2, 2, 2, 3, 3, 0, 5, 1, 0, 1, 1, 2, 2, 2, 1, 2, 0, 0, 0, 0, 1, 2, 1, 1, 0, 1, 1, 2, 2, 2, 1, 1, 0, 1, 2, 2, 0, 2, 0, 1, 2, 0, 0, 1, 0, 1, 1, 1, 0, 0, 3, 5, 1, 2, 1, 1, 0, 1, 1, 1, 1, 1, 2, 1, 0, 0, 3, 1, 1, 1, 0, 0, 1, 1, 1, 0, 0, 0, 1, 0, 0, 0, 0, 0, 1, 1, 1, 2, 2, 2, 3, 1, 1, 1, 1, 1, 1, 0, 0, 1, 2, 2, 1, 2, 1, 1, 2, 0, 0, 0, 0, 0, 0, 1, 2, 2, 2, 1, 1, 1, 1, 0, 1, 1, 3, 2, 2, 2, 0, 1, 0, 0, 1, 1, 0, 1, 0, 0, 0, 0, 0, 2, 3, 1, 2, 3, 2, 0, 1, 0, 0, 0, 2, 0, 0, 2, 1, 2, 1, 2, 1, 0, 1, 0, 0, 0, 2, 1, 0, 0, 0, 0, 0, 0, 0, 0, 0, 1, 2, 1, 1, 2, 3, 1, 0, 3, 0, 1, 1, 2, 0, 1, 1, 0, 1, 1]
def nP (m : Nat) : Nat := nT.getD m 0
def sT : List Bool := [true, true, true, true, true, true, true, true, true, true, true, true, true, true, true, true, true, true, true, true, true, true, true, true, false, false, false, false, false, false, false, false, false, false, false, false, false, false, false, false, false, false, false, false, false, false, false, false, false, false, false, false, false, true, true, false, false, false, false, false, false, false, false, false, false, false, true, true, true, true, false, false, true, false, false, false, false, false, false, false, false, false, false, false, false, false, false, false, false, false, true, false, false, false, false, false, false, false, false, false, false, false, false, false, false, false, false, false, false, false, false, false, false, false, false, false, false, false, false, true, false, false, false, false, false, false, false, false, false, false, true, true, true, false, false, false, true, false, false, false, false, false, true, true, true, false, false, false, false, false, false, false, false, false, false, false, false, false, false, false, false, false, false, false, true, true, true, false, false, true, false, false, true, false, false, false, false, false, false, false, false, false, false, false, false, false, false, false, false, false, false, false, false, false, false, false, false, false, false, false, false, false, false, false, false, false, false, false, false, false, false, false, false, false, false, false, false, false, false, false, false, false, false, false, false, false, false, false, true, false, false, false, true, true, false, false, false, false, false, false, false, false, false, false, false, false, false, false, false, false, false, false, false, false, false, false, false, false, false, false, false, false, false, false, false, false, false, true, false, true, false, false, false, true, false, false, false, false, false, false, false, false, true, false, false, false, false, false, false, false, false, false, false, false, false, false, false, false, false, false, false, false, true, false, false, false, false, false, false, false, false, false, false, false, false, false, false, false, false, true, false, false, false, false, false, false, false, false, false, false, false, false, false, false, false, false, false, false, false, false, true, false, false, false, false, false, false, false, false, false, false, false, false, false, false, true, true, false, false, false, false, false, false, false, false, false, false, true, false, false, false, false, false, true]
def sM (m : Nat) : Bool := sT.getD m false
def lpT : List (List Nat) := [[0], [0, 27], [0, 9, 10], [0, 11, 12], [0, 9, 10], [0, 10, 11], [0, 9, 10], [0, 10, 11], [0, 6, 22], [0, 5, 20], [0, 10, 26, 45, 60, 69, 75], [0, 25, 35, 124, 130, 136, 142, 148, 154, 160, 166, 172], [0, 44, 57, 58, 59, 72, 73, 74, 87, 88, 89, 102, 103, 104], [0, 12, 36, 56, 58], [0, 28, 30, 55, 57], [0, 26, 31, 49, 52, 79, 85, 97, 147], [0, 3, 40, 41, 62, 68], [0, 12], [0, 12, 36, 51, 52, 65, 67, 75], [0, 11, 37, 39], [0, 13], [0, 28, 30, 55, 57], [0, 23, 28, 30, 76, 87, 88, 103, 105, 114], [0, 13, 40, 42], [0], [0, 7, 14, 48, 54, 60], [0, 10, 37, 44, 70, 105, 135, 141], [0, 10, 48, 49], [0, 12, 16, 28, 90, 96, 102], [0, 30, 31, 32, 35, 86, 92], [0, 2, 27, 33], [0, 18, 71], [0, 14, 73], [0], [0, 7, 30, 31, 49], [0, 2, 25, 31], [0, 4, 32], [0, 13], [0, 25, 26], [0, 13, 37, 39], [0, 5, 42], [0, 5, 52, 58], [0, 2, 56, 62], [0, 22, 24], [0, 27, 29, 51], [0], [0, 9, 43], [0, 9, 80, 88, 105, 128], [0, 27, 48, 50, 89, 94, 123], [0, 10, 25, 55, 57, 108], [0, 23, 29, 54, 95, 96], [0, 4, 57, 59, 66, 72, 90, 91], [0, 2, 52, 54, 60], [0], [0], [0, 33], [0], [0, 25], [0, 48], [0, 4, 60, 66], [0], [0], [0, 11, 15, 31], [0, 9, 22, 38, 77, 83, 115, 121], [0, 21, 23], [0, 26, 27, 28, 61, 98], [0, 39, 40], [0, 20, 24, 29, 65, 68, 76], [0, 22, 24, 26, 36, 69, 72, 80, 90, 96], [0, 5, 21], [0, 38, 55, 97, 101, 114, 120], [0, 3, 32], [0, 28, 32, 37, 72, 74, 82], [0], [0], [0, 23, 24, 30, 78], [0, 17, 19, 53], [0], [0, 2, 29], [0, 37], [0, 18, 19], [0, 20, 53, 57, 58, 61, 121, 127], [0], [0, 26, 43, 63, 69], [0, 6, 27, 65, 84, 90], [0, 9, 54, 55, 63, 78, 95, 111], [0], [0], [0, 16, 17], [0, 16, 17], [0, 13, 14], [0, 21, 22], [0, 2, 22, 28], [0, 10, 36, 69], [0, 20, 26, 43, 51], [0, 10], [0, 15], [0, 10], [0, 32], [0, 10], [0, 4, 25, 31], [0, 29, 30], [0, 46, 50, 51], [0, 17], [0], [0, 24, 26], [0, 22, 23], [0, 12, 14, 36, 43], [0], [0, 34, 39, 60, 66, 86, 90, 91], [0, 11, 13, 46, 58], [0, 11, 13, 46, 58], [0, 25, 41, 64, 114, 115, 116], [0, 11, 39, 68, 80, 82, 85], [0, 11, 13, 38, 62, 64, 77, 79, 88], [0, 11, 13, 38, 62, 64, 77, 79, 88], [0, 52, 53, 54, 81, 132, 144, 153, 162], [0, 10], [0, 18, 79, 80], [0, 18, 22, 23], [0], [0, 32], [0, 39, 46], [0, 12, 41, 43, 52, 58, 70, 83, 86], [0, 16, 62, 73, 86, 88], [0, 13, 44, 54, 60], [0, 12, 22, 48, 73, 74], [0, 44, 52, 61, 72, 83, 97, 98, 104, 119, 135, 140], [0], [0, 24, 25], [0, 25, 26], [0, 84, 90, 96, 102, 108, 115, 122, 129, 139, 144, 145, 155, 156, 157, 167, 168, 169, 179, 180], [0], [0, 32], [0, 9], [0], [0, 8, 42], [0, 28, 46, 77, 92, 98], [0, 13, 28, 44, 71, 77], [0, 19, 89], [0, 51, 175, 198, 204], [0, 10, 23, 71, 93], [0, 4, 32], [0], [0], [0], [0, 17, 18], [0, 3, 46], [0, 12, 14], [0], [0, 25, 26], [0], [0], [0], [0, 38], [0, 13], [0, 21, 23], [0], [0, 14], [0, 28, 29], [0, 14, 64, 65, 73, 86, 98, 104], [0, 25, 26, 49, 52, 111, 130, 154, 166, 170, 171], [0, 13, 14, 34, 46, 64, 84, 88, 89], [0, 5, 30], [0, 16, 17], [0, 16, 17], [0, 12, 16, 17], [0], [0], [0, 2, 29, 35], [0, 32, 34, 51, 60, 69, 83, 89], [0, 10, 12, 37, 41, 64, 70], [0, 10, 44], [0, 10, 33, 51, 58, 61, 82, 88], [0, 2, 40, 46], [0, 19, 51], [0, 32, 125], [0, 13, 25, 42, 48, 86, 99], [0, 12, 79, 81, 96, 99, 105], [0, 5, 34], [0, 10, 51, 58, 113, 119, 128], [0, 3, 43], [0, 42], [0], [0, 18], [0, 19, 23, 24], [0, 29], [0, 9, 21, 22], [0, 68, 73, 78, 83, 96, 101, 106, 111, 116, 124, 132, 148], [0, 24, 26], [0, 18, 56, 63, 70, 80, 90, 102, 103, 104, 127], [0, 18, 48, 55, 62, 78, 87], [0, 22, 25], [0, 18, 22], [0], [0, 21, 22], [0, 24, 25], [0], [0, 19, 23, 24], [0, 20, 24, 25], [0, 16], [0, 18], [0, 18, 22, 23], [0, 10], [0], [0], [0], [0], [0, 27, 31, 60, 68, 77], [0, 25, 29, 30, 53, 57, 70, 87, 96], [0], [0, 12, 18, 26], [0, 40, 44, 58, 66], [0, 35, 39, 68, 76, 85, 94], [0], [0], [0], [0, 22, 24, 56, 63], [0], [0, 34, 37], [0], [0, 31, 32], [0, 31, 35, 36], [0, 22, 23], [0, 23], [0, 31, 32], [0], [0], [0, 17, 18], [0, 25, 28, 45, 56, 67, 79, 81, 124], [0, 12, 24], [0, 8], [0, 16, 17], [0, 16, 17], [0, 39, 52, 75, 76], [0, 28, 30, 35, 61, 74, 76, 101, 107], [0, 10], [0, 24], [0, 15, 17], [0, 24], [0, 9, 30, 41, 49, 96, 129, 161], [0, 9, 22, 23, 43, 59, 67, 96], [0, 66, 70, 71, 142, 146, 147, 207, 211, 212], [0, 9, 37, 48, 58, 109, 145], [0, 23, 34, 35], [0, 2, 24, 30], [0, 12, 52, 77], [0, 12, 27, 61, 67, 109], [0, 36, 57, 77, 78, 79], [0, 31], [0, 8, 29, 39, 46, 114, 121, 142, 153, 154, 171, 195, 198, 224], [0, 12, 64], [0, 12, 46], [0, 21, 40, 59, 86, 104, 122, 150, 169, 189], [0, 54, 72, 74, 92, 114, 149], [0, 2, 27, 29, 161, 187, 226, 228, 255, 257, 299, 321, 352, 353, 384, 397, 401, 402, 419, 425], [0, 11, 23, 24], [0], [0], [0], [0, 16, 17], [0], [0], [0], [0, 16, 17], [0, 33, 34], [0, 14, 35], [0, 5, 22], [0, 6, 57, 60, 69], [0, 11, 12], [0, 16, 17], [0, 5, 48, 54], [0, 2, 49, 55], [0, 4, 20], [0, 26, 28, 65, 71], [0, 4, 23, 29], [0, 4, 20, 26], [0, 60, 65, 70, 75, 80, 85, 90, 95, 103, 108, 113, 126], [0, 20, 22, 38, 59, 67, 73, 91], [0, 10, 48, 58, 68, 75, 84, 96, 97, 98, 108], [0, 2, 22, 28], [0, 10, 40, 50, 60, 70, 76], [0], [0, 27, 30], [0, 32, 35], [0], [0, 15, 16], [0, 15, 16], [0], [0, 54, 86, 105], [0, 19, 60, 92], [0, 16, 28], [0], [0, 41, 45, 46], [0, 21], [0, 28, 29], [0, 20], [0, 16], [0], [0, 12, 33, 64, 66, 110, 112, 116, 122], [0, 22, 28, 43], [0, 16, 38, 40, 47, 69, 79, 90, 98, 147, 153, 159], [0, 5, 33, 42, 50], [0, 16, 18, 23, 58, 66, 69, 75], [0, 24, 28, 33, 64, 73, 81], [0, 27, 29, 31, 53], [0, 7, 28, 54, 64, 70, 82, 83], [0, 19, 23, 39, 44, 45, 49, 78, 84], [0, 2, 26], [0, 2, 26], [0, 12, 55, 71, 72], [0, 39, 43, 48, 64, 77, 118, 133, 159, 165, 181, 191, 203, 210], [0], [0, 20, 34, 63, 65], [0, 26, 27], [0, 2, 21, 38, 44], [0, 2, 21, 38, 44], [0, 2, 21, 38, 44], [0, 11, 22, 33, 44, 45], [0, 10, 11], [0, 6, 36], [0, 35, 38], [0, 22, 26, 34, 57, 93, 100, 106, 117, 126, 128], [0, 6, 104, 108, 109, 166, 189, 195], [0, 32, 36, 43, 56, 79, 85, 96, 109, 125, 133], [0, 2, 31, 33, 62], [0, 5, 93, 105, 106, 114, 142, 143], [0, 2, 20, 26], [0], [0, 6, 25, 27, 38, 74, 85, 88, 122, 131, 147, 156, 162, 165, 171], [0, 29, 31, 48, 56, 70, 76], [0, 14, 18, 28, 63, 69, 90], [0], [0, 5, 43, 54, 73, 75, 83], [0, 17, 19, 23, 58, 65, 68, 74, 82, 83], [0, 40, 43], [0], [0, 8, 24], [0, 26, 27], [0], [0, 16, 17], [0, 7, 33, 50, 51], [0, 35], [0, 13, 26, 39, 52, 65], [0, 19, 20], [0, 32, 43, 54, 65, 76, 84], [0, 51], [0, 2, 54, 76, 99, 115, 116, 135, 137, 142, 151, 178, 180, 183, 191, 208, 221, 233], [0, 43, 110, 112, 115, 122, 140, 160, 161, 162, 178, 185, 207, 225, 245, 246, 247, 279, 286, 308, 326, 341, 362, 386], [0, 15, 48, 49, 53, 78], [0, 18, 30, 63, 89, 100, 102], [0, 2, 23, 29], [0, 33], [0, 2, 47, 79, 105, 106, 110, 131], [0, 33, 49, 76, 87, 103, 126, 137, 155, 162, 185, 208], [0, 14, 28, 29], [0, 8, 31, 32, 42, 43, 53, 55], [0], [0, 92, 106, 120, 134, 147, 160, 161, 167, 180, 181, 187, 199, 200, 206, 218, 219, 225, 237, 238, 244, 255, 269, 270, 273], [0, 28, 31, 37], [0, 20, 46, 47, 48, 75, 76], [0, 7, 42, 85, 110, 124, 157, 162, 168], [0, 15, 30, 45, 60, 75, 76, 90], [0, 15, 16, 38, 48, 55, 75, 90, 119, 128, 133], [0, 77, 88, 112, 139, 151, 152, 179, 186, 192, 214], [0], [0, 32, 33], [0, 5, 28], [0, 30, 67, 75, 135], [0, 21, 22], [0, 57, 59, 66, 97, 141, 143, 171, 184, 203, 207, 214, 215], [0, 30, 58, 91, 98, 153], [0, 21, 22], [0, 18, 208, 271, 294, 307, 330, 353, 386, 419, 452, 476, 510, 524, 537, 550, 564, 587, 620, 643, 667, 680, 703, 727, 760, 794, 827, 851, 875, 888, 912, 946, 980, 993, 1026, 1039, 1062, 1080, 1081, 1102, 1103, 1112, 1126, 1139, 1162, 1175, 1198, 1204]]
def lpc (m n : Nat) : Nat := (lpT.getD m []).getD n 0
def clD (k : Nat) : vw_C := vwCl.getD k ("", fun _ => ("", "", "", false), 0)
def FL_0 : List (Nat × Nat × Nat × Nat) := [(0, 25, 8, 2), (0, 41, 8, 6), (0, 85, 5, 0), (0, 88, 5, 6), (0, 91, 5, 13), (0, 94, 5, 17), (0, 100, 8, 4), (0, 107, 8, 5), (0, 135, 5, 7), (0, 142, 5, 10), (0, 156, 5, 12), (1, 11, 0, 0), (1, 17, 0, 1), (1, 21, 0, 2), (1, 24, 0, 3), (1, 28, 0, 4), (1, 35, 1, 0), (1, 53, 1, 3), (1, 60, 5, 11), (1, 72, 5, 10), (1, 75, 5, 0), (1, 101, 5, 12), (2, 12, 1, 0), (2, 18, 1, 1), (2, 22, 1, 2), (2, 25, 1, 3), (2, 29, 1, 4), (2, 33, 1, 5), (2, 36, 1, 6), (2, 39, 1, 7), (2, 42, 1, 8), (2, 45, 1, 9), (2, 49, 1, 10), (2, 52, 1, 11), (2, 55, 1, 12), (2, 59, 1, 13), (2, 76, 5, 0), (2, 83, 5, 8), (2, 86, 5, 9), (2, 111, 5, 11)]
def FL_1 : List (Nat × Nat × Nat × Nat) := [(2, 123, 5, 12), (2, 164, 8, 1), (3, 11, 2, 0), (3, 15, 2, 1), (3, 18, 2, 2), (3, 22, 2, 3), (3, 28, 2, 4), (3, 31, 2, 5), (3, 34, 2, 6), (3, 77, 5, 17), (3, 84, 3, 0), (4, 9, 3, 0), (4, 13, 3, 1), (4, 16, 3, 2), (5, 11, 4, 0), (5, 17, 4, 1), (5, 21, 4, 2), (5, 25, 4, 3), (5, 29, 4, 4), (5, 33, 4, 5), (5, 36, 4, 6), (5, 39, 4, 7), (5, 42, 4, 8), (5, 45, 4, 9), (5, 48, 4, 10), (5, 51, 1, 3), (5, 60, 1, 0), (5, 68, 5, 0), (5, 71, 5, 6), (5, 103, 5, 12), (5, 113, 5, 11), (5, 126, 3, 2), (5, 129, 3, 0), (6, 9, 5, 0), (6, 15, 5, 1), (6, 19, 5, 2), (6, 22, 5, 3), (6, 26, 5, 4), (6, 29, 5, 5), (6, 32, 5, 6)]
def FL_2 : List (Nat × Nat × Nat × Nat) := [(6, 35, 5, 7), (6, 38, 5, 8), (6, 41, 5, 9), (6, 44, 5, 10), (6, 47, 5, 11), (6, 50, 5, 12), (6, 53, 5, 13), (6, 56, 5, 14), (6, 59, 5, 15), (6, 62, 5, 16), (6, 65, 5, 17), (6, 68, 5, 18), (6, 71, 5, 19), (7, 9, 6, 0), (7, 17, 6, 1), (7, 21, 6, 2), (7, 24, 6, 3), (7, 28, 6, 4), (7, 31, 6, 5), (7, 36, 6, 6), (7, 39, 6, 7), (7, 43, 6, 8), (7, 107, 8, 4), (7, 120, 8, 2), (7, 126, 1, 3), (8, 11, 7, 0), (8, 19, 7, 1), (8, 22, 7, 2), (8, 25, 7, 3), (8, 29, 7, 4), (8, 33, 7, 5), (8, 36, 7, 6), (8, 39, 7, 7), (8, 66, 1, 0), (8, 74, 5, 0), (8, 109, 1, 3), (8, 124, 3, 2), (8, 127, 3, 0), (9, 11, 8, 0), (9, 15, 8, 1)]
def FL_3 : List (Nat × Nat × Nat × Nat) := [(9, 19, 8, 2), (9, 22, 8, 3), (9, 25, 8, 4), (9, 28, 8, 5), (9, 31, 8, 6), (9, 34, 8, 7), (10, 11, 9, 0), (10, 17, 9, 1), (10, 20, 9, 2), (10, 23, 9, 3), (10, 26, 9, 4), (10, 29, 9, 5), (10, 33, 9, 6), (10, 36, 9, 7), (10, 40, 9, 8), (10, 44, 5, 13), (10, 57, 5, 12), (10, 60, 5, 6), (10, 91, 5, 8), (10, 94, 5, 2), (11, 10, 10, 0), (11, 19, 10, 1), (11, 26, 10, 2), (11, 33, 10, 3), (11, 40, 10, 4), (11, 47, 10, 5), (11, 54, 10, 6), (11, 61, 10, 7), (11, 68, 10, 8), (11, 75, 10, 9), (11, 79, 10, 10), (11, 83, 10, 11), (11, 87, 10, 12), (11, 102, 8, 1), (11, 117, 1, 0), (11, 127, 5, 0), (11, 130, 5, 6), (11, 133, 5, 10), (11, 136, 5, 4), (11, 139, 5, 5)]
def FL_4 : List (Nat × Nat × Nat × Nat) := [(11, 152, 5, 12), (11, 155, 5, 13), (11, 158, 5, 17), (11, 161, 1, 3), (11, 164, 1, 11), (11, 173, 5, 7), (11, 179, 5, 1), (11, 182, 5, 2), (11, 185, 1, 1), (11, 188, 1, 2), (11, 198, 5, 8), (11, 201, 5, 9), (11, 213, 5, 11), (11, 233, 1, 4), (11, 256, 1, 5), (11, 277, 4, 3), (11, 280, 4, 4), (11, 283, 4, 5), (11, 289, 4, 9), (11, 292, 4, 10), (11, 310, 7, 3), (11, 313, 7, 4), (11, 318, 7, 5), (11, 321, 7, 6), (11, 324, 7, 7), (11, 342, 2, 5), (11, 345, 2, 6), (11, 362, 1, 13), (11, 365, 1, 12), (11, 375, 8, 6), (11, 378, 8, 7), (12, 7, 11, 0), (12, 13, 11, 8), (12, 17, 11, 9), (12, 20, 11, 11), (12, 24, 11, 12), (12, 27, 11, 13), (12, 30, 11, 14), (12, 33, 11, 15), (12, 36, 11, 16)]
def FL_5 : List (Nat × Nat × Nat × Nat) := [(12, 39, 11, 17), (12, 42, 11, 18), (12, 45, 11, 19), (12, 48, 11, 20), (12, 51, 11, 21), (12, 54, 11, 22), (12, 57, 11, 23), (12, 60, 11, 24), (12, 63, 11, 25), (12, 66, 11, 26), (12, 69, 11, 27), (12, 72, 11, 29), (12, 75, 11, 30), (12, 78, 11, 31), (12, 81, 11, 32), (12, 84, 11, 33), (12, 88, 11, 34), (12, 91, 11, 35), (12, 94, 11, 36), (12, 97, 11, 37), (12, 100, 11, 38), (12, 103, 11, 39), (12, 106, 11, 40), (12, 109, 11, 41), (12, 112, 11, 42), (12, 115, 11, 43), (12, 118, 11, 44), (12, 121, 11, 50), (12, 124, 11, 51), (12, 127, 11, 52), (12, 130, 11, 53), (12, 133, 11, 54), (12, 136, 11, 57), (12, 140, 11, 58), (12, 143, 11, 61), (12, 146, 11, 62), (12, 149, 11, 66), (12, 152, 11, 67), (12, 155, 11, 68), (12, 158, 11, 69)]
def FL_6 : List (Nat × Nat × Nat × Nat) := [(12, 161, 11, 70), (12, 164, 11, 71), (12, 167, 11, 72), (12, 170, 11, 73), (12, 173, 11, 74), (12, 176, 11, 75), (12, 179, 11, 76), (12, 182, 11, 77), (12, 185, 11, 78), (12, 188, 11, 79), (12, 191, 11, 80), (12, 194, 11, 81), (12, 197, 11, 82), (12, 200, 11, 83), (12, 203, 11, 84), (12, 206, 11, 85), (12, 209, 11, 86), (12, 212, 11, 87), (12, 215, 11, 89), (12, 218, 11, 93), (12, 221, 11, 97), (12, 224, 11, 1), (12, 227, 11, 5), (12, 230, 11, 6), (12, 233, 11, 2), (12, 236, 11, 3), (12, 247, 11, 4), (12, 267, 11, 10), (12, 283, 11, 28), (12, 313, 11, 45), (12, 340, 11, 7), (12, 346, 11, 46), (12, 350, 11, 47), (12, 353, 11, 48), (12, 356, 11, 49), (12, 365, 11, 55), (12, 440, 11, 56), (12, 483, 11, 59), (12, 486, 11, 60), (12, 530, 11, 65)]
def FL_7 : List (Nat × Nat × Nat × Nat) := [(12, 533, 11, 63), (12, 536, 11, 64), (12, 564, 11, 88), (12, 567, 11, 91), (12, 570, 11, 90), (12, 576, 11, 92), (12, 634, 11, 94), (12, 663, 11, 95), (12, 666, 11, 96), (12, 684, 11, 98)]
def FL : List (Nat × Nat × Nat × Nat) := FL_0 ++ (FL_1 ++ (FL_2 ++ (FL_3 ++ (FL_4 ++ (FL_5 ++ (FL_6 ++ (FL_7 ++ ([]))))))))
set_option maxRecDepth 20000 in
theorem FL_0_ok : ∀ q ∈ FL_0, Cond.fieldLink (cn q.1) q.2.1 (clD q.2.2.1).1 ((clD q.2.2.1).2.1 q.2.2.2).2.1 ((clD q.2.2.1).2.1 q.2.2.2).2.2.1 ∈ lw_tbl := sorry
set_option maxRecDepth 20000 in
theorem FL_1_ok : ∀ q ∈ FL_1, Cond.fieldLink (cn q.1) q.2.1 (clD q.2.2.1).1 ((clD q.2.2.1).2.1 q.2.2.2).2.1 ((clD q.2.2.1).2.1 q.2.2.2).2.2.1 ∈ lw_tbl := sorry
set_option maxRecDepth 20000 in
theorem FL_2_ok : ∀ q ∈ FL_2, Cond.fieldLink (cn q.1) q.2.1 (clD q.2.2.1).1 ((clD q.2.2.1).2.1 q.2.2.2).2.1 ((clD q.2.2.1).2.1 q.2.2.2).2.2.1 ∈ lw_tbl := sorry
set_option maxRecDepth 20000 in
theorem FL_3_ok : ∀ q ∈ FL_3, Cond.fieldLink (cn q.1) q.2.1 (clD q.2.2.1).1 ((clD q.2.2.1).2.1 q.2.2.2).2.1 ((clD q.2.2.1).2.1 q.2.2.2).2.2.1 ∈ lw_tbl := sorry
set_option maxRecDepth 20000 in
theorem FL_4_ok : ∀ q ∈ FL_4, Cond.fieldLink (cn q.1) q.2.1 (clD q.2.2.1).1 ((clD q.2.2.1).2.1 q.2.2.2).2.1 ((clD q.2.2.1).2.1 q.2.2.2).2.2.1 ∈ lw_tbl := sorry
set_option maxRecDepth 20000 in
theorem FL_5_ok : ∀ q ∈ FL_5, Cond.fieldLink (cn q.1) q.2.1 (clD q.2.2.1).1 ((clD q.2.2.1).2.1 q.2.2.2).2.1 ((clD q.2.2.1).2.1 q.2.2.2).2.2.1 ∈ lw_tbl := sorry
set_option maxRecDepth 20000 in
theorem FL_6_ok : ∀ q ∈ FL_6, Cond.fieldLink (cn q.1) q.2.1 (clD q.2.2.1).1 ((clD q.2.2.1).2.1 q.2.2.2).2.1 ((clD q.2.2.1).2.1 q.2.2.2).2.2.1 ∈ lw_tbl := sorry
set_option maxRecDepth 20000 in
theorem FL_7_ok : ∀ q ∈ FL_7, Cond.fieldLink (cn q.1) q.2.1 (clD q.2.2.1).1 ((clD q.2.2.1).2.1 q.2.2.2).2.1 ((clD q.2.2.1).2.1 q.2.2.2).2.2.1 ∈ lw_tbl := sorry
theorem FL_ok : ∀ q ∈ FL, Cond.fieldLink (cn q.1) q.2.1 (clD q.2.2.1).1 ((clD q.2.2.1).2.1 q.2.2.2).2.1 ((clD q.2.2.1).2.1 q.2.2.2).2.2.1 ∈ lw_tbl := by
  intro q h
  rcases List.mem_append.mp h with h | h
  · exact FL_0_ok q h
  rcases List.mem_append.mp h with h | h
  · exact FL_1_ok q h
  rcases List.mem_append.mp h with h | h
  · exact FL_2_ok q h
  rcases List.mem_append.mp h with h | h
  · exact FL_3_ok q h
  rcases List.mem_append.mp h with h | h
  · exact FL_4_ok q h
  rcases List.mem_append.mp h with h | h
  · exact FL_5_ok q h
  rcases List.mem_append.mp h with h | h
  · exact FL_6_ok q h
  rcases List.mem_append.mp h with h | h
  · exact FL_7_ok q h
  cases h
def KI_0 : List (Nat × Nat × Int) := [(14, 265, 1431655765), (14, 266, 858993459), (14, 267, 252645135), (0, 145, 99999), (7, 102, 99999), (9, 85, 99999), (12, 274, 99999)]
def KI : List (Nat × Nat × Int) := KI_0 ++ ([])
set_option maxRecDepth 20000 in
theorem KI_0_ok : ∀ q ∈ KI_0, Cond.constant (cn q.1) q.2.1 (Int32.ofInt q.2.2) ∈ lw_tbl := sorry
theorem KI_ok : ∀ q ∈ KI, Cond.constant (cn q.1) q.2.1 (Int32.ofInt q.2.2) ∈ lw_tbl := by
  intro q h
  rcases List.mem_append.mp h with h | h
  · exact KI_0_ok q h
  cases h
def KL_0 : List (Nat × Nat × Int) := [(1, 63, (-1000000000000000)), (2, 114, (-1000000000000000)), (2, 184, 1103515245), (2, 186, 12345), (2, 188, 2147483647), (2, 190, 64), (2, 192, 3), (3, 37, (-1)), (3, 56, (-1000000000000000)), (4, 20, 2), (5, 116, (-1000000000000000)), (6, 74, (-1000000000000000)), (7, 148, (-1000000)), (7, 150, 1000000), (7, 203, 4), (7, 205, 12), (8, 93, (-1)), (10, 114, 9), (11, 217, (-1000000000000000)), (11, 275, (-1)), (12, 286, 27), (12, 288, 97), (12, 413, 5), (12, 421, 3), (12, 426, (-1000000000000000)), (12, 428, 9999), (12, 453, 200), (12, 458, 1103515245), (12, 460, 12345), (12, 462, 2147483648), (12, 464, 64), (12, 472, 40), (12, 474, (-1)), (12, 476, 16), (12, 481, 10), (12, 489, 2), (12, 525, 300), (12, 539, 100), (12, 630, 1000000), (12, 632, (-1000000))]
def KL_1 : List (Nat × Nat × Int) := [(12, 682, 255)]
def KL : List (Nat × Nat × Int) := KL_0 ++ (KL_1 ++ ([]))
set_option maxRecDepth 20000 in
theorem KL_0_ok : ∀ q ∈ KL_0, Cond.constantLong (cn q.1) q.2.1 (Int64.ofInt q.2.2) ∈ lw_tbl := sorry
set_option maxRecDepth 20000 in
theorem KL_1_ok : ∀ q ∈ KL_1, Cond.constantLong (cn q.1) q.2.1 (Int64.ofInt q.2.2) ∈ lw_tbl := sorry
theorem KL_ok : ∀ q ∈ KL, Cond.constantLong (cn q.1) q.2.1 (Int64.ofInt q.2.2) ∈ lw_tbl := by
  intro q h
  rcases List.mem_append.mp h with h | h
  · exact KL_0_ok q h
  rcases List.mem_append.mp h with h | h
  · exact KL_1_ok q h
  cases h
def KC_0 : List (Nat × Nat × Nat) := [(2, 1, 5), (11, 7, 8), (11, 16, 1), (11, 23, 5), (11, 30, 6), (11, 37, 3), (11, 44, 4), (11, 51, 0), (11, 58, 7), (11, 65, 9), (11, 72, 2), (13, 7, 10), (13, 10, 11)]
def KC : List (Nat × Nat × Nat) := KC_0 ++ ([])
set_option maxRecDepth 20000 in
theorem KC_0_ok : ∀ q ∈ KC_0, Cond.classLink (cn q.1) q.2.1 (clD q.2.2).1 ∈ lw_tbl := sorry
theorem KC_ok : ∀ q ∈ KC, Cond.classLink (cn q.1) q.2.1 (clD q.2.2).1 ∈ lw_tbl := by
  intro q h
  rcases List.mem_append.mp h with h | h
  · exact KC_0_ok q h
  cases h
def KD_0 : List (Nat) := [0, 1, 2, 3, 4, 5, 6, 7, 8, 9, 10, 11]
def KD : List (Nat) := KD_0 ++ ([])
set_option maxRecDepth 20000 in
theorem KD1_0_ok : ∀ q ∈ KD_0, Cond.instantiable (clD q).1 (clD q).2.2 ∈ lw_tbl := sorry
theorem KD1_ok : ∀ q ∈ KD, Cond.instantiable (clD q).1 (clD q).2.2 ∈ lw_tbl := by
  intro q h
  rcases List.mem_append.mp h with h | h
  · exact KD1_0_ok q h
  cases h
set_option maxRecDepth 20000 in
theorem KD2_0_ok : ∀ q ∈ KD_0, Cond.initialized (clD q).1 ∈ lw_tbl := sorry
theorem KD2_ok : ∀ q ∈ KD, Cond.initialized (clD q).1 ∈ lw_tbl := by
  intro q h
  rcases List.mem_append.mp h with h | h
  · exact KD2_0_ok q h
  cases h
/-- what a link says: kinds 0 static, 1 virtual, 2 a constructor, 3 a nest mate's, 4 Object's own, 5 the JDK's that are not walked -/
def mlW (q : Nat × Nat × Nat × Nat) : Cond := match q.2.2.2 with
  | 0 => Cond.methodLink (cn q.1) q.2.1 (yM q.2.2.1)
  | 1 => Cond.methodLink (cn q.1) q.2.1 (yM q.2.2.1)
  | 2 => Cond.methodLink (cn q.1) q.2.1 (yM q.2.2.1)
  | 3 => Cond.methodLinkNest (cn q.1) q.2.1 (yM q.2.2.1) "EvenOars"
  | 4 => Cond.methodLink (cn q.1) q.2.1 Lib.objectInit
  | _ => match q.2.2.1 with
    | 0 => Cond.methodLink (cn q.1) q.2.1 ⟨"java/lang/String", "length", "()I"⟩
    | 1 => Cond.methodLink (cn q.1) q.2.1 ⟨"java/lang/String", "charAt", "(I)C"⟩
    | _ => Cond.methodLink (cn q.1) q.2.1 arraycopyName
def ML_0 : List (Nat × Nat × Nat × Nat) := [(0, 9, 151, 1), (0, 14, 87, 1), (0, 21, 154, 1), (0, 29, 152, 1), (0, 33, 11, 0), (0, 37, 155, 1), (0, 46, 156, 1), (0, 50, 12, 0), (0, 54, 153, 1), (0, 58, 157, 1), (0, 61, 13, 0), (0, 64, 14, 0), (0, 67, 17, 0), (0, 70, 18, 0), (0, 73, 19, 0), (0, 76, 20, 0), (0, 79, 21, 0), (0, 82, 23, 0), (0, 97, 161, 1), (0, 103, 92, 1), (0, 110, 158, 1), (0, 114, 93, 1), (0, 118, 15, 0), (0, 121, 95, 1), (0, 124, 159, 1), (0, 127, 160, 1), (0, 131, 16, 0), (0, 139, 150, 1), (0, 146, 94, 1), (0, 150, 162, 1), (0, 153, 96, 1), (0, 159, 22, 0), (0, 162, 97, 1), (0, 165, 98, 1), (0, 168, 99, 1), (1, 3, 0, 4), (1, 31, 26, 1), (1, 41, 27, 1), (1, 45, 28, 1), (1, 49, 36, 1)]
def ML_1 : List (Nat × Nat × Nat × Nat) := [(1, 56, 38, 1), (1, 65, 39, 1), (1, 69, 40, 1), (1, 78, 0, 0), (1, 84, 2, 0), (1, 89, 29, 1), (1, 93, 31, 1), (1, 97, 102, 1), (1, 104, 30, 1), (1, 107, 91, 1), (1, 110, 32, 1), (1, 114, 3, 0), (2, 5, 0, 4), (2, 11, 86, 2), (2, 62, 9, 0), (2, 68, 104, 1), (2, 72, 103, 1), (2, 79, 89, 1), (2, 89, 4, 0), (2, 95, 88, 1), (2, 98, 37, 1), (2, 101, 101, 1), (2, 105, 38, 1), (2, 108, 39, 1), (2, 116, 40, 1), (2, 119, 3, 0), (2, 126, 91, 1), (2, 129, 56, 1), (2, 133, 57, 1), (2, 137, 58, 1), (2, 141, 59, 1), (2, 145, 55, 1), (2, 148, 54, 0), (2, 151, 50, 1), (2, 155, 53, 0), (2, 159, 150, 1), (2, 167, 51, 1), (2, 170, 52, 1), (2, 173, 0, 0), (2, 178, 6, 0)]
def ML_2 : List (Nat × Nat × Nat × Nat) := [(2, 181, 60, 1), (3, 5, 0, 4), (3, 39, 63, 1), (3, 42, 6, 0), (3, 48, 65, 1), (3, 52, 66, 0), (3, 58, 69, 0), (3, 62, 0, 0), (3, 68, 74, 1), (3, 73, 71, 1), (3, 80, 76, 1), (3, 87, 107, 1), (3, 91, 75, 1), (4, 1, 0, 4), (4, 22, 0, 0), (5, 3, 0, 4), (5, 56, 38, 1), (5, 64, 83, 1), (5, 74, 81, 1), (5, 78, 82, 1), (5, 81, 37, 1), (5, 84, 2, 5), (5, 90, 84, 1), (5, 93, 76, 1), (5, 99, 102, 1), (5, 106, 85, 1), (5, 110, 74, 1), (5, 118, 101, 1), (5, 122, 75, 1), (5, 132, 3, 0), (6, 3, 0, 4), (6, 76, 8, 0), (6, 82, 9, 0), (6, 85, 90, 0), (6, 89, 88, 1), (6, 92, 0, 0), (6, 98, 91, 1), (6, 101, 6, 0), (6, 107, 104, 1), (6, 111, 101, 1)]
def ML_3 : List (Nat × Nat × Nat × Nat) := [(7, 3, 0, 4), (7, 46, 151, 1), (7, 51, 156, 1), (7, 55, 153, 1), (7, 59, 157, 1), (7, 62, 110, 1), (7, 66, 114, 1), (7, 69, 154, 1), (7, 73, 111, 1), (7, 76, 120, 1), (7, 80, 112, 1), (7, 83, 119, 0), (7, 86, 155, 1), (7, 90, 113, 1), (7, 93, 115, 1), (7, 96, 116, 1), (7, 99, 165, 0), (7, 103, 161, 1), (7, 110, 121, 1), (7, 113, 117, 1), (7, 117, 118, 1), (7, 123, 152, 1), (7, 131, 6, 0), (7, 137, 123, 1), (7, 141, 124, 1), (7, 144, 125, 1), (7, 152, 5, 0), (7, 156, 7, 0), (7, 158, 126, 1), (7, 162, 133, 1), (7, 166, 127, 1), (7, 170, 134, 1), (7, 174, 40, 1), (7, 178, 132, 0), (7, 182, 41, 1), (7, 186, 42, 1), (7, 189, 129, 1), (7, 192, 130, 0), (7, 196, 128, 1), (7, 199, 131, 0)]
def ML_4 : List (Nat × Nat × Nat × Nat) := [(7, 207, 37, 1), (7, 210, 1, 0), (8, 3, 0, 4), (8, 42, 143, 0), (8, 46, 144, 0), (8, 50, 40, 1), (8, 56, 3, 0), (8, 62, 5, 0), (8, 70, 141, 1), (8, 77, 76, 1), (8, 81, 102, 1), (8, 85, 142, 0), (8, 89, 139, 1), (8, 95, 140, 1), (8, 99, 6, 0), (8, 103, 39, 1), (8, 106, 38, 1), (8, 112, 4, 0), (8, 114, 74, 1), (8, 117, 101, 1), (8, 120, 75, 1), (9, 3, 0, 4), (9, 37, 152, 1), (9, 41, 150, 1), (9, 45, 166, 0), (9, 49, 154, 1), (9, 53, 153, 1), (9, 57, 164, 0), (9, 60, 163, 1), (9, 63, 160, 1), (9, 67, 156, 1), (9, 71, 157, 1), (9, 74, 0, 5), (9, 78, 1, 5), (9, 82, 165, 0), (9, 86, 161, 1), (9, 89, 2, 0), (10, 3, 0, 4), (10, 47, 172, 0), (10, 51, 3, 0)]
def ML_5 : List (Nat × Nat × Nat × Nat) := [(10, 63, 89, 1), (10, 67, 175, 1), (10, 71, 169, 0), (10, 75, 104, 1), (10, 79, 173, 1), (10, 83, 106, 1), (10, 87, 105, 1), (10, 97, 174, 1), (10, 100, 9, 0), (10, 106, 176, 1), (10, 110, 177, 1), (10, 116, 7, 0), (10, 120, 5, 0), (10, 123, 178, 1), (10, 126, 179, 1), (10, 129, 180, 1), (10, 132, 181, 1), (10, 136, 182, 1), (10, 140, 1, 0), (10, 143, 6, 0), (10, 146, 4, 0), (11, 1, 0, 4), (11, 9, 145, 3), (11, 18, 33, 2), (11, 25, 86, 2), (11, 32, 108, 3), (11, 39, 73, 3), (11, 46, 77, 3), (11, 53, 24, 3), (11, 60, 135, 3), (11, 67, 167, 3), (11, 74, 61, 3), (11, 90, 146, 1), (11, 94, 224, 1), (11, 98, 147, 1), (11, 105, 148, 1), (11, 108, 10, 0), (11, 114, 226, 1), (11, 120, 34, 1), (11, 124, 168, 1)]
def ML_6 : List (Nat × Nat × Nat × Nat) := [(11, 142, 0, 0), (11, 148, 100, 1), (11, 167, 36, 1), (11, 170, 89, 1), (11, 176, 88, 1), (11, 191, 91, 1), (11, 194, 38, 1), (11, 204, 37, 1), (11, 207, 35, 1), (11, 210, 90, 0), (11, 219, 40, 1), (11, 223, 41, 1), (11, 227, 42, 1), (11, 230, 102, 1), (11, 237, 43, 1), (11, 240, 44, 1), (11, 244, 225, 1), (11, 247, 45, 1), (11, 250, 46, 1), (11, 253, 47, 1), (11, 259, 62, 1), (11, 262, 64, 1), (11, 265, 67, 0), (11, 268, 68, 0), (11, 271, 78, 1), (11, 286, 79, 1), (11, 295, 80, 1), (11, 298, 25, 1), (11, 302, 136, 0), (11, 306, 137, 1), (11, 314, 138, 1), (11, 327, 169, 0), (11, 331, 170, 1), (11, 335, 171, 1), (11, 338, 70, 1), (11, 348, 72, 0), (11, 352, 109, 1), (11, 355, 122, 1), (11, 359, 48, 1), (11, 369, 49, 1)]
def ML_7 : List (Nat × Nat × Nat × Nat) := [(11, 372, 149, 1), (12, 1, 0, 4), (12, 239, 234, 1), (12, 243, 232, 0), (12, 250, 235, 1), (12, 254, 236, 1), (12, 257, 231, 1), (12, 261, 238, 1), (12, 264, 233, 0), (12, 270, 228, 0), (12, 275, 240, 1), (12, 279, 242, 1), (12, 290, 244, 1), (12, 294, 245, 1), (12, 298, 237, 1), (12, 302, 243, 1), (12, 306, 241, 1), (12, 309, 250, 1), (12, 316, 246, 1), (12, 319, 247, 1), (12, 322, 248, 1), (12, 325, 249, 1), (12, 328, 251, 1), (12, 331, 252, 1), (12, 334, 239, 1), (12, 337, 253, 1), (12, 343, 255, 1), (12, 359, 257, 1), (12, 362, 258, 1), (12, 368, 265, 1), (12, 371, 266, 1), (12, 374, 267, 0), (12, 378, 270, 1), (12, 381, 268, 1), (12, 385, 269, 0), (12, 389, 261, 1), (12, 392, 260, 1), (12, 395, 273, 0), (12, 398, 264, 1), (12, 401, 275, 1)]
def ML_8 : List (Nat × Nat × Nat × Nat) := [(12, 404, 276, 1), (12, 407, 259, 1), (12, 410, 263, 1), (12, 415, 262, 1), (12, 418, 280, 1), (12, 423, 282, 0), (12, 430, 271, 1), (12, 434, 272, 1), (12, 437, 274, 1), (12, 443, 289, 1), (12, 446, 293, 1), (12, 450, 292, 1), (12, 455, 295, 1), (12, 466, 298, 1), (12, 469, 299, 1), (12, 478, 302, 0), (12, 491, 306, 1), (12, 494, 308, 1), (12, 497, 310, 1), (12, 500, 309, 1), (12, 503, 312, 1), (12, 506, 313, 1), (12, 509, 314, 1), (12, 512, 315, 1), (12, 515, 316, 1), (12, 518, 317, 1), (12, 521, 319, 0), (12, 527, 320, 1), (12, 541, 323, 1), (12, 545, 326, 1), (12, 548, 325, 1), (12, 551, 327, 1), (12, 554, 329, 1), (12, 557, 332, 1), (12, 560, 333, 1), (12, 573, 336, 1), (12, 579, 340, 0), (12, 582, 339, 1), (12, 585, 343, 1), (12, 588, 344, 1)]
def ML_9 : List (Nat × Nat × Nat × Nat) := [(12, 591, 337, 1), (12, 594, 345, 1), (12, 597, 346, 1), (12, 600, 341, 1), (12, 603, 342, 1), (12, 606, 338, 1), (12, 609, 347, 1), (12, 612, 348, 1), (12, 615, 349, 1), (12, 618, 350, 1), (12, 621, 352, 1), (12, 624, 354, 1), (12, 627, 351, 1), (12, 637, 355, 0), (12, 640, 357, 1), (12, 644, 356, 0), (12, 647, 365, 1), (12, 650, 366, 1), (12, 653, 360, 1), (12, 657, 359, 1), (12, 660, 358, 1), (12, 669, 362, 1), (12, 672, 353, 1), (12, 675, 361, 1), (12, 678, 363, 1), (12, 687, 367, 0), (12, 691, 370, 1), (13, 9, 183, 2), (13, 12, 227, 2), (13, 13, 184, 1), (13, 17, 229, 1), (13, 18, 185, 1), (13, 22, 230, 1), (13, 23, 186, 1), (13, 27, 254, 1), (13, 28, 187, 1), (13, 32, 256, 1), (13, 33, 188, 1), (13, 36, 277, 1), (13, 37, 189, 1)]
def ML_10 : List (Nat × Nat × Nat × Nat) := [(13, 41, 278, 1), (13, 42, 190, 1), (13, 45, 279, 1), (13, 46, 191, 1), (13, 49, 281, 1), (13, 50, 192, 1), (13, 54, 283, 1), (13, 55, 193, 1), (13, 59, 284, 1), (13, 60, 194, 1), (13, 64, 285, 1), (13, 65, 195, 1), (13, 68, 286, 1), (13, 69, 196, 1), (13, 72, 287, 1), (13, 73, 197, 1), (13, 76, 288, 1), (13, 77, 198, 1), (13, 80, 291, 1), (13, 81, 199, 1), (13, 85, 294, 1), (13, 86, 200, 1), (13, 89, 296, 1), (13, 90, 201, 1), (13, 93, 300, 1), (13, 94, 202, 1), (13, 98, 290, 1), (13, 99, 203, 1), (13, 102, 297, 1), (13, 103, 204, 1), (13, 106, 301, 1), (13, 107, 205, 1), (13, 110, 303, 1), (13, 111, 206, 1), (13, 114, 304, 1), (13, 115, 207, 1), (13, 118, 305, 1), (13, 119, 208, 1), (13, 122, 307, 1), (13, 123, 209, 1)]
def ML_11 : List (Nat × Nat × Nat × Nat) := [(13, 126, 311, 1), (13, 127, 210, 1), (13, 130, 318, 1), (13, 131, 211, 1), (13, 134, 321, 1), (13, 135, 212, 1), (13, 138, 322, 1), (13, 139, 213, 1), (13, 142, 324, 1), (13, 143, 214, 1), (13, 146, 328, 1), (13, 147, 215, 1), (13, 150, 330, 1), (13, 151, 216, 1), (13, 154, 331, 1), (13, 155, 217, 1), (13, 158, 334, 1), (13, 159, 218, 1), (13, 163, 335, 1), (13, 164, 219, 1), (13, 167, 364, 1), (13, 168, 220, 1), (13, 171, 368, 1), (13, 172, 221, 1), (13, 175, 369, 1), (13, 176, 222, 1), (13, 179, 371, 1), (13, 180, 223, 1), (13, 183, 372, 1)]
def ML : List (Nat × Nat × Nat × Nat) := ML_0 ++ (ML_1 ++ (ML_2 ++ (ML_3 ++ (ML_4 ++ (ML_5 ++ (ML_6 ++ (ML_7 ++ (ML_8 ++ (ML_9 ++ (ML_10 ++ (ML_11 ++ ([]))))))))))))
set_option maxRecDepth 20000 in
theorem ML_0_ok : ∀ q ∈ ML_0, mlW q ∈ lw_tbl := sorry
set_option maxRecDepth 20000 in
theorem ML_1_ok : ∀ q ∈ ML_1, mlW q ∈ lw_tbl := sorry
set_option maxRecDepth 20000 in
theorem ML_2_ok : ∀ q ∈ ML_2, mlW q ∈ lw_tbl := sorry
set_option maxRecDepth 20000 in
theorem ML_3_ok : ∀ q ∈ ML_3, mlW q ∈ lw_tbl := sorry
set_option maxRecDepth 20000 in
theorem ML_4_ok : ∀ q ∈ ML_4, mlW q ∈ lw_tbl := sorry
set_option maxRecDepth 20000 in
theorem ML_5_ok : ∀ q ∈ ML_5, mlW q ∈ lw_tbl := sorry
set_option maxRecDepth 20000 in
theorem ML_6_ok : ∀ q ∈ ML_6, mlW q ∈ lw_tbl := sorry
set_option maxRecDepth 20000 in
theorem ML_7_ok : ∀ q ∈ ML_7, mlW q ∈ lw_tbl := sorry
set_option maxRecDepth 20000 in
theorem ML_8_ok : ∀ q ∈ ML_8, mlW q ∈ lw_tbl := sorry
set_option maxRecDepth 20000 in
theorem ML_9_ok : ∀ q ∈ ML_9, mlW q ∈ lw_tbl := sorry
set_option maxRecDepth 20000 in
theorem ML_10_ok : ∀ q ∈ ML_10, mlW q ∈ lw_tbl := sorry
set_option maxRecDepth 20000 in
theorem ML_11_ok : ∀ q ∈ ML_11, mlW q ∈ lw_tbl := sorry
theorem ML_ok : ∀ q ∈ ML, mlW q ∈ lw_tbl := by
  intro q h
  rcases List.mem_append.mp h with h | h
  · exact ML_0_ok q h
  rcases List.mem_append.mp h with h | h
  · exact ML_1_ok q h
  rcases List.mem_append.mp h with h | h
  · exact ML_2_ok q h
  rcases List.mem_append.mp h with h | h
  · exact ML_3_ok q h
  rcases List.mem_append.mp h with h | h
  · exact ML_4_ok q h
  rcases List.mem_append.mp h with h | h
  · exact ML_5_ok q h
  rcases List.mem_append.mp h with h | h
  · exact ML_6_ok q h
  rcases List.mem_append.mp h with h | h
  · exact ML_7_ok q h
  rcases List.mem_append.mp h with h | h
  · exact ML_8_ok q h
  rcases List.mem_append.mp h with h | h
  · exact ML_9_ok q h
  rcases List.mem_append.mp h with h | h
  · exact ML_10_ok q h
  rcases List.mem_append.mp h with h | h
  · exact ML_11_ok q h
  cases h
def MA_0 : List (Nat) := [0, 1, 2, 3, 4, 5, 6, 7, 8, 9, 10, 11, 12, 13, 14, 15, 16, 17, 18, 19, 20, 21, 22, 23, 24, 25, 26, 27, 28, 29, 30, 31, 32, 33, 34, 35, 36, 37, 38, 39]
def MA_1 : List (Nat) := [40, 41, 42, 43, 44, 45, 46, 47, 48, 49, 50, 51, 52, 53, 54, 55, 56, 57, 58, 59, 60, 61, 62, 63, 64, 65, 66, 67, 68, 69, 70, 71, 72, 73, 74, 75, 76, 77, 78, 79]
def MA_2 : List (Nat) := [80, 81, 82, 83, 84, 85, 86, 87, 88, 89, 90, 91, 92, 93, 94, 95, 96, 97, 98, 99, 100, 101, 102, 103, 104, 105, 106, 107, 108, 109, 110, 111, 112, 113, 114, 115, 116, 117, 118, 119]
def MA_3 : List (Nat) := [120, 121, 122, 123, 124, 125, 126, 127, 128, 129, 130, 131, 132, 133, 134, 135, 136, 137, 138, 139, 140, 141, 142, 143, 144, 145, 146, 147, 148, 149, 150, 151, 152, 153, 154, 155, 156, 157, 158, 159]
def MA_4 : List (Nat) := [160, 161, 162, 163, 164, 165, 166, 167, 168, 169, 170, 171, 172, 173, 174, 175, 176, 177, 178, 179, 180, 181, 182, 183, 184, 185, 186, 187, 188, 189, 190, 191, 192, 193, 194, 195, 196, 197, 198, 199]
def MA_5 : List (Nat) := [200, 201, 202, 203, 204, 205, 206, 207, 208, 209, 210, 211, 212, 213, 214, 215, 216, 217, 218, 219, 220, 221, 222, 223, 224, 225, 226, 227, 228, 229, 230, 231, 232, 233, 234, 235, 236, 237, 238, 239]
def MA_6 : List (Nat) := [240, 241, 242, 243, 244, 245, 246, 247, 248, 249, 250, 251, 252, 253, 254, 255, 256, 257, 258, 259, 260, 261, 262, 263, 264, 265, 266, 267, 268, 269, 270, 271, 272, 273, 274, 275, 276, 277, 278, 279]
def MA_7 : List (Nat) := [280, 281, 282, 283, 284, 285, 286, 287, 288, 289, 290, 291, 292, 293, 294, 295, 296, 297, 298, 299, 300, 301, 302, 303, 304, 305, 306, 307, 308, 309, 310, 311, 312, 313, 314, 315, 316, 317, 318, 319]
def MA_8 : List (Nat) := [320, 321, 322, 323, 324, 325, 326, 327, 328, 329, 330, 331, 332, 333, 334, 335, 336, 337, 338, 339, 340, 341, 342, 343, 344, 345, 346, 347, 348, 349, 350, 351, 352, 353, 354, 355, 356, 357, 358, 359]
def MA_9 : List (Nat) := [360, 361, 362, 363, 364, 365, 366, 367, 368, 369, 370, 371, 372]
def MA : List (Nat) := MA_0 ++ (MA_1 ++ (MA_2 ++ (MA_3 ++ (MA_4 ++ (MA_5 ++ (MA_6 ++ (MA_7 ++ (MA_8 ++ (MA_9 ++ ([]))))))))))
set_option maxRecDepth 20000 in
theorem MA1_0_ok : ∀ q ∈ MA_0, Cond.code (yM q) (bM q) (mxl q) (rM q) ∈ lw_tbl := sorry
set_option maxRecDepth 20000 in
theorem MA1_1_ok : ∀ q ∈ MA_1, Cond.code (yM q) (bM q) (mxl q) (rM q) ∈ lw_tbl := sorry
set_option maxRecDepth 20000 in
theorem MA1_2_ok : ∀ q ∈ MA_2, Cond.code (yM q) (bM q) (mxl q) (rM q) ∈ lw_tbl := sorry
set_option maxRecDepth 20000 in
theorem MA1_3_ok : ∀ q ∈ MA_3, Cond.code (yM q) (bM q) (mxl q) (rM q) ∈ lw_tbl := sorry
set_option maxRecDepth 20000 in
theorem MA1_4_ok : ∀ q ∈ MA_4, Cond.code (yM q) (bM q) (mxl q) (rM q) ∈ lw_tbl := sorry
set_option maxRecDepth 20000 in
theorem MA1_5_ok : ∀ q ∈ MA_5, Cond.code (yM q) (bM q) (mxl q) (rM q) ∈ lw_tbl := sorry
set_option maxRecDepth 20000 in
theorem MA1_6_ok : ∀ q ∈ MA_6, Cond.code (yM q) (bM q) (mxl q) (rM q) ∈ lw_tbl := sorry
set_option maxRecDepth 20000 in
theorem MA1_7_ok : ∀ q ∈ MA_7, Cond.code (yM q) (bM q) (mxl q) (rM q) ∈ lw_tbl := sorry
set_option maxRecDepth 20000 in
theorem MA1_8_ok : ∀ q ∈ MA_8, Cond.code (yM q) (bM q) (mxl q) (rM q) ∈ lw_tbl := sorry
set_option maxRecDepth 20000 in
theorem MA1_9_ok : ∀ q ∈ MA_9, Cond.code (yM q) (bM q) (mxl q) (rM q) ∈ lw_tbl := sorry
theorem MA1_ok : ∀ q ∈ MA, Cond.code (yM q) (bM q) (mxl q) (rM q) ∈ lw_tbl := by
  intro q h
  rcases List.mem_append.mp h with h | h
  · exact MA1_0_ok q h
  rcases List.mem_append.mp h with h | h
  · exact MA1_1_ok q h
  rcases List.mem_append.mp h with h | h
  · exact MA1_2_ok q h
  rcases List.mem_append.mp h with h | h
  · exact MA1_3_ok q h
  rcases List.mem_append.mp h with h | h
  · exact MA1_4_ok q h
  rcases List.mem_append.mp h with h | h
  · exact MA1_5_ok q h
  rcases List.mem_append.mp h with h | h
  · exact MA1_6_ok q h
  rcases List.mem_append.mp h with h | h
  · exact MA1_7_ok q h
  rcases List.mem_append.mp h with h | h
  · exact MA1_8_ok q h
  rcases List.mem_append.mp h with h | h
  · exact MA1_9_ok q h
  cases h
set_option maxRecDepth 20000 in
theorem MA2_0_ok : ∀ q ∈ MA_0, Cond.initialized (yM q).cls ∈ lw_tbl := sorry
set_option maxRecDepth 20000 in
theorem MA2_1_ok : ∀ q ∈ MA_1, Cond.initialized (yM q).cls ∈ lw_tbl := sorry
set_option maxRecDepth 20000 in
theorem MA2_2_ok : ∀ q ∈ MA_2, Cond.initialized (yM q).cls ∈ lw_tbl := sorry
set_option maxRecDepth 20000 in
theorem MA2_3_ok : ∀ q ∈ MA_3, Cond.initialized (yM q).cls ∈ lw_tbl := sorry
set_option maxRecDepth 20000 in
theorem MA2_4_ok : ∀ q ∈ MA_4, Cond.initialized (yM q).cls ∈ lw_tbl := sorry
set_option maxRecDepth 20000 in
theorem MA2_5_ok : ∀ q ∈ MA_5, Cond.initialized (yM q).cls ∈ lw_tbl := sorry
set_option maxRecDepth 20000 in
theorem MA2_6_ok : ∀ q ∈ MA_6, Cond.initialized (yM q).cls ∈ lw_tbl := sorry
set_option maxRecDepth 20000 in
theorem MA2_7_ok : ∀ q ∈ MA_7, Cond.initialized (yM q).cls ∈ lw_tbl := sorry
set_option maxRecDepth 20000 in
theorem MA2_8_ok : ∀ q ∈ MA_8, Cond.initialized (yM q).cls ∈ lw_tbl := sorry
set_option maxRecDepth 20000 in
theorem MA2_9_ok : ∀ q ∈ MA_9, Cond.initialized (yM q).cls ∈ lw_tbl := sorry
theorem MA2_ok : ∀ q ∈ MA, Cond.initialized (yM q).cls ∈ lw_tbl := by
  intro q h
  rcases List.mem_append.mp h with h | h
  · exact MA2_0_ok q h
  rcases List.mem_append.mp h with h | h
  · exact MA2_1_ok q h
  rcases List.mem_append.mp h with h | h
  · exact MA2_2_ok q h
  rcases List.mem_append.mp h with h | h
  · exact MA2_3_ok q h
  rcases List.mem_append.mp h with h | h
  · exact MA2_4_ok q h
  rcases List.mem_append.mp h with h | h
  · exact MA2_5_ok q h
  rcases List.mem_append.mp h with h | h
  · exact MA2_6_ok q h
  rcases List.mem_append.mp h with h | h
  · exact MA2_7_ok q h
  rcases List.mem_append.mp h with h | h
  · exact MA2_8_ok q h
  rcases List.mem_append.mp h with h | h
  · exact MA2_9_ok q h
  cases h
def MS_0 : List (Nat) := [0, 1, 2, 3, 4, 5, 6, 7, 8, 9, 10, 11, 12, 13, 14, 15, 16, 17, 18, 19, 20, 21, 22, 23, 53, 54, 66, 67, 68, 69, 72, 90, 119, 130, 131, 132, 136, 142, 143, 144]
def MS_1 : List (Nat) := [164, 165, 166, 169, 172, 228, 232, 233, 267, 269, 273, 282, 302, 319, 340, 355, 356, 367]
def MS : List (Nat) := MS_0 ++ (MS_1 ++ ([]))
set_option maxRecDepth 20000 in
theorem MS1_0_ok : ∀ q ∈ MS_0, Cond.static (yM q) ∈ lw_tbl := sorry
set_option maxRecDepth 20000 in
theorem MS1_1_ok : ∀ q ∈ MS_1, Cond.static (yM q) ∈ lw_tbl := sorry
theorem MS1_ok : ∀ q ∈ MS, Cond.static (yM q) ∈ lw_tbl := by
  intro q h
  rcases List.mem_append.mp h with h | h
  · exact MS1_0_ok q h
  rcases List.mem_append.mp h with h | h
  · exact MS1_1_ok q h
  cases h
def MI_0 : List (Nat) := [24, 25, 26, 27, 28, 29, 30, 31, 32, 33, 34, 35, 36, 37, 38, 39, 40, 41, 42, 43, 44, 45, 46, 47, 48, 49, 50, 51, 52, 55, 56, 57, 58, 59, 60, 61, 62, 63, 64, 65]
def MI_1 : List (Nat) := [70, 71, 73, 74, 75, 76, 77, 78, 79, 80, 81, 82, 83, 84, 85, 86, 87, 88, 89, 91, 92, 93, 94, 95, 96, 97, 98, 99, 100, 101, 102, 103, 104, 105, 106, 107, 108, 109, 110, 111]
def MI_2 : List (Nat) := [112, 113, 114, 115, 116, 117, 118, 120, 121, 122, 123, 124, 125, 126, 127, 128, 129, 133, 134, 135, 137, 138, 139, 140, 141, 145, 146, 147, 148, 149, 150, 151, 152, 153, 154, 155, 156, 157, 158, 159]
def MI_3 : List (Nat) := [160, 161, 162, 163, 167, 168, 170, 171, 173, 174, 175, 176, 177, 178, 179, 180, 181, 182, 183, 184, 185, 186, 187, 188, 189, 190, 191, 192, 193, 194, 195, 196, 197, 198, 199, 200, 201, 202, 203, 204]
def MI_4 : List (Nat) := [205, 206, 207, 208, 209, 210, 211, 212, 213, 214, 215, 216, 217, 218, 219, 220, 221, 222, 223, 224, 225, 226, 227, 229, 230, 231, 234, 235, 236, 237, 238, 239, 240, 241, 242, 243, 244, 245, 246, 247]
def MI_5 : List (Nat) := [248, 249, 250, 251, 252, 253, 254, 255, 256, 257, 258, 259, 260, 261, 262, 263, 264, 265, 266, 268, 270, 271, 272, 274, 275, 276, 277, 278, 279, 280, 281, 283, 284, 285, 286, 287, 288, 289, 290, 291]
def MI_6 : List (Nat) := [292, 293, 294, 295, 296, 297, 298, 299, 300, 301, 303, 304, 305, 306, 307, 308, 309, 310, 311, 312, 313, 314, 315, 316, 317, 318, 320, 321, 322, 323, 324, 325, 326, 327, 328, 329, 330, 331, 332, 333]
def MI_7 : List (Nat) := [334, 335, 336, 337, 338, 339, 341, 342, 343, 344, 345, 346, 347, 348, 349, 350, 351, 352, 353, 354, 357, 358, 359, 360, 361, 362, 363, 364, 365, 366, 368, 369, 370, 371, 372]
def MI : List (Nat) := MI_0 ++ (MI_1 ++ (MI_2 ++ (MI_3 ++ (MI_4 ++ (MI_5 ++ (MI_6 ++ (MI_7 ++ ([]))))))))
set_option maxRecDepth 20000 in
theorem MI1_0_ok : ∀ q ∈ MI_0, Cond.instanceMethod (yM q) ∈ lw_tbl := sorry
set_option maxRecDepth 20000 in
theorem MI1_1_ok : ∀ q ∈ MI_1, Cond.instanceMethod (yM q) ∈ lw_tbl := sorry
set_option maxRecDepth 20000 in
theorem MI1_2_ok : ∀ q ∈ MI_2, Cond.instanceMethod (yM q) ∈ lw_tbl := sorry
set_option maxRecDepth 20000 in
theorem MI1_3_ok : ∀ q ∈ MI_3, Cond.instanceMethod (yM q) ∈ lw_tbl := sorry
set_option maxRecDepth 20000 in
theorem MI1_4_ok : ∀ q ∈ MI_4, Cond.instanceMethod (yM q) ∈ lw_tbl := sorry
set_option maxRecDepth 20000 in
theorem MI1_5_ok : ∀ q ∈ MI_5, Cond.instanceMethod (yM q) ∈ lw_tbl := sorry
set_option maxRecDepth 20000 in
theorem MI1_6_ok : ∀ q ∈ MI_6, Cond.instanceMethod (yM q) ∈ lw_tbl := sorry
set_option maxRecDepth 20000 in
theorem MI1_7_ok : ∀ q ∈ MI_7, Cond.instanceMethod (yM q) ∈ lw_tbl := sorry
theorem MI1_ok : ∀ q ∈ MI, Cond.instanceMethod (yM q) ∈ lw_tbl := by
  intro q h
  rcases List.mem_append.mp h with h | h
  · exact MI1_0_ok q h
  rcases List.mem_append.mp h with h | h
  · exact MI1_1_ok q h
  rcases List.mem_append.mp h with h | h
  · exact MI1_2_ok q h
  rcases List.mem_append.mp h with h | h
  · exact MI1_3_ok q h
  rcases List.mem_append.mp h with h | h
  · exact MI1_4_ok q h
  rcases List.mem_append.mp h with h | h
  · exact MI1_5_ok q h
  rcases List.mem_append.mp h with h | h
  · exact MI1_6_ok q h
  rcases List.mem_append.mp h with h | h
  · exact MI1_7_ok q h
  cases h
def MV_0 : List (Nat) := [25, 26, 27, 28, 29, 30, 31, 32, 34, 35, 36, 37, 38, 39, 40, 41, 42, 43, 44, 45, 46, 47, 48, 49, 50, 51, 52, 55, 56, 57, 58, 59, 60, 62, 63, 64, 65, 70, 71, 74]
def MV_1 : List (Nat) := [75, 76, 78, 79, 80, 81, 82, 83, 84, 85, 87, 88, 89, 91, 92, 93, 94, 95, 96, 97, 98, 99, 100, 101, 102, 103, 104, 105, 106, 107, 109, 110, 111, 112, 113, 114, 115, 116, 117, 118]
def MV_2 : List (Nat) := [120, 121, 122, 123, 124, 125, 126, 127, 128, 129, 133, 134, 137, 138, 139, 140, 141, 146, 147, 148, 149, 150, 151, 152, 153, 154, 155, 156, 157, 158, 159, 160, 161, 162, 163, 168, 170, 171, 173, 174]
def MV_3 : List (Nat) := [175, 176, 177, 178, 179, 180, 181, 182, 184, 185, 186, 187, 188, 189, 190, 191, 192, 193, 194, 195, 196, 197, 198, 199, 200, 201, 202, 203, 204, 205, 206, 207, 208, 209, 210, 211, 212, 213, 214, 215]
def MV_4 : List (Nat) := [216, 217, 218, 219, 220, 221, 222, 223, 224, 225, 226, 229, 230, 231, 234, 235, 236, 237, 238, 239, 240, 241, 242, 243, 244, 245, 246, 247, 248, 249, 250, 251, 252, 253, 254, 255, 256, 257, 258, 259]
def MV_5 : List (Nat) := [260, 261, 262, 263, 264, 265, 266, 268, 270, 271, 272, 274, 275, 276, 277, 278, 279, 280, 281, 283, 284, 285, 286, 287, 288, 289, 290, 291, 292, 293, 294, 295, 296, 297, 298, 299, 300, 301, 303, 304]
def MV_6 : List (Nat) := [305, 306, 307, 308, 309, 310, 311, 312, 313, 314, 315, 316, 317, 318, 320, 321, 322, 323, 324, 325, 326, 327, 328, 329, 330, 331, 332, 333, 334, 335, 336, 337, 338, 339, 341, 342, 343, 344, 345, 346]
def MV_7 : List (Nat) := [347, 348, 349, 350, 351, 352, 353, 354, 357, 358, 359, 360, 361, 362, 363, 364, 365, 366, 368, 369, 370, 371, 372]
def MV : List (Nat) := MV_0 ++ (MV_1 ++ (MV_2 ++ (MV_3 ++ (MV_4 ++ (MV_5 ++ (MV_6 ++ (MV_7 ++ ([]))))))))
set_option maxRecDepth 20000 in
theorem MV1_0_ok : ∀ q ∈ MV_0, Cond.selects (yM q).cls (yM q) (yM q) ∈ lw_tbl := sorry
set_option maxRecDepth 20000 in
theorem MV1_1_ok : ∀ q ∈ MV_1, Cond.selects (yM q).cls (yM q) (yM q) ∈ lw_tbl := sorry
set_option maxRecDepth 20000 in
theorem MV1_2_ok : ∀ q ∈ MV_2, Cond.selects (yM q).cls (yM q) (yM q) ∈ lw_tbl := sorry
set_option maxRecDepth 20000 in
theorem MV1_3_ok : ∀ q ∈ MV_3, Cond.selects (yM q).cls (yM q) (yM q) ∈ lw_tbl := sorry
set_option maxRecDepth 20000 in
theorem MV1_4_ok : ∀ q ∈ MV_4, Cond.selects (yM q).cls (yM q) (yM q) ∈ lw_tbl := sorry
set_option maxRecDepth 20000 in
theorem MV1_5_ok : ∀ q ∈ MV_5, Cond.selects (yM q).cls (yM q) (yM q) ∈ lw_tbl := sorry
set_option maxRecDepth 20000 in
theorem MV1_6_ok : ∀ q ∈ MV_6, Cond.selects (yM q).cls (yM q) (yM q) ∈ lw_tbl := sorry
set_option maxRecDepth 20000 in
theorem MV1_7_ok : ∀ q ∈ MV_7, Cond.selects (yM q).cls (yM q) (yM q) ∈ lw_tbl := sorry
theorem MV1_ok : ∀ q ∈ MV, Cond.selects (yM q).cls (yM q) (yM q) ∈ lw_tbl := by
  intro q h
  rcases List.mem_append.mp h with h | h
  · exact MV1_0_ok q h
  rcases List.mem_append.mp h with h | h
  · exact MV1_1_ok q h
  rcases List.mem_append.mp h with h | h
  · exact MV1_2_ok q h
  rcases List.mem_append.mp h with h | h
  · exact MV1_3_ok q h
  rcases List.mem_append.mp h with h | h
  · exact MV1_4_ok q h
  rcases List.mem_append.mp h with h | h
  · exact MV1_5_ok q h
  rcases List.mem_append.mp h with h | h
  · exact MV1_6_ok q h
  rcases List.mem_append.mp h with h | h
  · exact MV1_7_ok q h
  cases h
/-- what is plain of a method's name -/
def mfB (m : Nat) : Bool := decide ((yM m).cls ≠ "java/lang/invoke/MethodHandle" ∧ (yM m).cls ≠ "java/lang/invoke/VarHandle") && (decide ((parseMethodDescriptor (yM m).desc).map (fun d => d.parameters.length) = some (nP m)) && (plainFor (yM m) && (decide ((yM m).cls = cn (on m)) && (decide ((sM m = true ∧ m ∈ MS) ∨ (sM m = false ∧ m ∈ MI)))))) && decide (mxl m ≤ 21)
set_option maxRecDepth 20000 in
theorem mfB_0 : MA_0.all mfB = true := sorry
set_option maxRecDepth 20000 in
theorem mfB_1 : MA_1.all mfB = true := sorry
set_option maxRecDepth 20000 in
theorem mfB_2 : MA_2.all mfB = true := sorry
set_option maxRecDepth 20000 in
theorem mfB_3 : MA_3.all mfB = true := sorry
set_option maxRecDepth 20000 in
theorem mfB_4 : MA_4.all mfB = true := sorry
set_option maxRecDepth 20000 in
theorem mfB_5 : MA_5.all mfB = true := sorry
set_option maxRecDepth 20000 in
theorem mfB_6 : MA_6.all mfB = true := sorry
set_option maxRecDepth 20000 in
theorem mfB_7 : MA_7.all mfB = true := sorry
set_option maxRecDepth 20000 in
theorem mfB_8 : MA_8.all mfB = true := sorry
set_option maxRecDepth 20000 in
theorem mfB_9 : MA_9.all mfB = true := sorry
theorem mfB_ok : ∀ q ∈ MA, mfB q = true := by
  intro q h
  rcases List.mem_append.mp h with h | h
  · exact List.all_eq_true.mp mfB_0 q h
  rcases List.mem_append.mp h with h | h
  · exact List.all_eq_true.mp mfB_1 q h
  rcases List.mem_append.mp h with h | h
  · exact List.all_eq_true.mp mfB_2 q h
  rcases List.mem_append.mp h with h | h
  · exact List.all_eq_true.mp mfB_3 q h
  rcases List.mem_append.mp h with h | h
  · exact List.all_eq_true.mp mfB_4 q h
  rcases List.mem_append.mp h with h | h
  · exact List.all_eq_true.mp mfB_5 q h
  rcases List.mem_append.mp h with h | h
  · exact List.all_eq_true.mp mfB_6 q h
  rcases List.mem_append.mp h with h | h
  · exact List.all_eq_true.mp mfB_7 q h
  rcases List.mem_append.mp h with h | h
  · exact List.all_eq_true.mp mfB_8 q h
  rcases List.mem_append.mp h with h | h
  · exact List.all_eq_true.mp mfB_9 q h
  cases h
theorem MA_lt {m : Nat} (h : m < 373) : m ∈ MA := by
  rw [show MA = List.range 373 from sorry]
  exact List.mem_range.mpr h
def lw_g : List Cond := lw_tbl.filter goodWord
theorem mem_g {w : Cond} (h : w ∈ lw_tbl) (hg : goodWord w = true) : w ∈ lw_g := List.mem_filter.mpr ⟨h, hg⟩
theorem igX1 : ∀ w ∈ wsX10, w ∈ lw_g := fun w h => mem_g (inX1 w h) (List.all_eq_true.mp (show wsX10.all goodWord = true from sorry) w h)
theorem igX2 : ∀ w ∈ wsX20, w ∈ lw_g := fun w h => mem_g (inX2 w h) (List.all_eq_true.mp (show wsX20.all goodWord = true from sorry) w h)
theorem igX3 : ∀ w ∈ wsX30, w ∈ lw_g := fun w h => mem_g (inX3 w h) (List.all_eq_true.mp (show wsX30.all goodWord = true from sorry) w h)
theorem igX4 : ∀ w ∈ wsX40, w ∈ lw_g := fun w h => mem_g (inX4 w h) (List.all_eq_true.mp (show wsX40.all goodWord = true from sorry) w h)
theorem igX5 : ∀ w ∈ wsX50, w ∈ lw_g := fun w h => mem_g (inX5 w h) (List.all_eq_true.mp (show wsX50.all goodWord = true from sorry) w h)
theorem igX6 : ∀ w ∈ wsX60, w ∈ lw_g := fun w h => mem_g (inX6 w h) (List.all_eq_true.mp (show wsX60.all goodWord = true from sorry) w h)
theorem igX7 : ∀ w ∈ wsX70, w ∈ lw_g := fun w h => mem_g (inX7 w h) (List.all_eq_true.mp (show wsX70.all goodWord = true from sorry) w h)
theorem igX8 : ∀ w ∈ wsX80, w ∈ lw_g := fun w h => mem_g (inX8 w h) (List.all_eq_true.mp (show wsX80.all goodWord = true from sorry) w h)
theorem igX9 : ∀ w ∈ wsX90, w ∈ lw_g := fun w h => mem_g (inX9 w h) (List.all_eq_true.mp (show wsX90.all goodWord = true from sorry) w h)
theorem igX10 : ∀ w ∈ wsX100, w ∈ lw_g := fun w h => mem_g (inX10 w h) (List.all_eq_true.mp (show wsX100.all goodWord = true from sorry) w h)
theorem igX11 : ∀ w ∈ wsX110, w ∈ lw_g := fun w h => mem_g (inX11 w h) (List.all_eq_true.mp (show wsX110.all goodWord = true from sorry) w h)
theorem igX12 : ∀ w ∈ wsX120, w ∈ lw_g := fun w h => mem_g (inX12 w h) (List.all_eq_true.mp (show wsX120.all goodWord = true from sorry) w h)
end
section
/-! THE CHECK: each abstract instruction against the bytecode at its place; by the kernel, a method at a time -/
abbrev JI : Type := Jvm.ClassFile.Instr
def tyD (k : Nat) : Nat → FieldType := [tyX1, tyX2, tyX3, tyX4, tyX5, tyX6, tyX7, tyX8, tyX9, tyX10, tyX11, tyX12].getD k (fun _ => .int)
def cnd (z : Int) : Jvm.ClassFile.Cond := if z = 0 then .eq else if z = 1 then .ne else if z = 2 then .lt else if z = 3 then .ge else if z = 4 then .gt else .le
def i32 (z : Int) : Bool := decide (-2147483648 ≤ z ∧ z < 2147483648)
def i64 (z : Int) : Bool := decide (-9223372036854775808 ≤ z ∧ z < 9223372036854775808)
def opg (c : Bool) (a : Nat) : Option Nat := if c = true then some a else none
theorem opg_s {c : Bool} {a b : Nat} (h : opg c a = some b) : c = true ∧ b = a := by
  unfold opg at h
  split at h
  · exact ⟨by assumption, (Option.some.inj h).symm⟩
  · cases h
def fin_ok (m ci k : Nat) : Bool := !((clD ci).2.1 k).2.2.2 || (decide ((yM m).name = "<init>") && decide (((clD ci).2.1 k).1 = cn (on m)))
def ck_f (m len idx ci k : Nat) : Bool := decide (len = 3) && (FL.contains (on m, idx, ci, k) && (decide (k < (clD ci).2.2) && decide (ci < 12)))
def ck_1 (m pc : Nat) (i : AI) (o : JI) (len : Nat) : Option Nat := match o with
    | .iconst n => opg (decide (len = 1) && (decide (n = i.2.2.1) && i32 n)) (pc + 1)
    | .bipush n => opg (decide (len = 2) && (decide (n = i.2.2.1) && decide (-128 ≤ n ∧ n < 128))) (pc + 2)
    | .sipush n => opg (decide (len = 3) && (decide (n = i.2.2.1) && decide (-32768 ≤ n ∧ n < 32768))) (pc + 3)
    | .ldc x => opg (decide (len = 2) && (KI.contains (on m, x, i.2.2.1) && i32 i.2.2.1)) (pc + 2)
    | .ldc_w x => opg (decide (len = 3) && (KI.contains (on m, x, i.2.2.1) && i32 i.2.2.1)) (pc + 3)
    | _ => none
def ck_2 (m pc : Nat) (i : AI) (o : JI) (len : Nat) : Option Nat := match o with
    | .lconst x => opg (decide (len = 1) && decide (((x : Nat) : Int) = i.2.2.1)) (pc + 1)
    | .ldc2_w x => opg (decide (len = 3) && (KL.contains (on m, x, i.2.2.1) && i64 i.2.2.1)) (pc + 3)
    | _ => none
def ck_3 (m pc : Nat) (i : AI) (o : JI) (len : Nat) : Option Nat := match o with
    | .iload_n k => opg (decide (len = 1) && decide ((k : Nat) = i.2.1)) (pc + 1)
    | .iload k => opg (decide (len = 2) && decide (k = i.2.1)) (pc + 2)
    | _ => none
def ck_53 (m pc : Nat) (i : AI) (o : JI) (len : Nat) : Option Nat := match o with
    | .lload_n k => opg (decide (len = 1) && decide ((k : Nat) = i.2.1)) (pc + 1)
    | .lload k => opg (decide (len = 2) && decide (k = i.2.1)) (pc + 2)
    | _ => none
def ck_54 (m pc : Nat) (i : AI) (o : JI) (len : Nat) : Option Nat := match o with
    | .aload_n k => opg (decide (len = 1) && decide ((k : Nat) = i.2.1)) (pc + 1)
    | .aload k => opg (decide (len = 2) && decide (k = i.2.1)) (pc + 2)
    | _ => none
def ck_4 (m pc : Nat) (i : AI) (o : JI) (len : Nat) : Option Nat := match o with
    | .istore_n k => opg (decide (len = 1) && decide ((k : Nat) = i.2.1)) (pc + 1)
    | .istore k => opg (decide (len = 2) && decide (k = i.2.1)) (pc + 2)
    | _ => none
def ck_55 (m pc : Nat) (i : AI) (o : JI) (len : Nat) : Option Nat := match o with
    | .astore_n k => opg (decide (len = 1) && decide ((k : Nat) = i.2.1)) (pc + 1)
    | .astore k => opg (decide (len = 2) && decide (k = i.2.1)) (pc + 2)
    | _ => none
def ck_5 (m pc : Nat) (i : AI) (o : JI) (len : Nat) : Option Nat := match o with
    | .lstore_n k => opg (decide (len = 1) && decide ((k : Nat) = i.2.1)) (pc + 1)
    | .lstore k => opg (decide (len = 2) && decide (k = i.2.1)) (pc + 2)
    | _ => none
def ck_6 (m pc : Nat) (i : AI) (o : JI) (len : Nat) : Option Nat := match o with
    | .iinc k z => opg (decide (len = 3) && (decide (k = i.2.1) && (decide (z = i.2.2.1) && i32 z))) (pc + 3)
    | _ => none
def ck_7 (m pc : Nat) (i : AI) (o : JI) (len : Nat) : Option Nat := opg (decide (len = 1) && decide (o = match i.2.1 with
      | 0 => Jvm.ClassFile.Instr.iadd
      | 1 => Jvm.ClassFile.Instr.isub
      | 2 => Jvm.ClassFile.Instr.imul
      | 3 => Jvm.ClassFile.Instr.iand
      | 4 => Jvm.ClassFile.Instr.ior
      | 5 => Jvm.ClassFile.Instr.ixor
      | 6 => Jvm.ClassFile.Instr.ishl
      | 7 => Jvm.ClassFile.Instr.ishr
      | 8 => Jvm.ClassFile.Instr.iushr
      | _ => Jvm.ClassFile.Instr.nop) && decide (i.2.1 < 9)) (pc + 1)
def ck_8 (m pc : Nat) (i : AI) (o : JI) (len : Nat) : Option Nat := opg (decide (len = 1) && decide (o = match i.2.1 with
      | 0 => Jvm.ClassFile.Instr.ladd
      | 1 => Jvm.ClassFile.Instr.lsub
      | 2 => Jvm.ClassFile.Instr.lmul
      | 3 => Jvm.ClassFile.Instr.land
      | 4 => Jvm.ClassFile.Instr.lor
      | 5 => Jvm.ClassFile.Instr.lxor
      | _ => Jvm.ClassFile.Instr.nop) && decide (i.2.1 < 6)) (pc + 1)
def ck_9 (m pc : Nat) (i : AI) (o : JI) (len : Nat) : Option Nat := opg (decide (len = 1) && decide (o = match i.2.1 with
      | 0 => Jvm.ClassFile.Instr.lshl
      | 1 => Jvm.ClassFile.Instr.lshr
      | _ => Jvm.ClassFile.Instr.nop) && decide (i.2.1 < 2)) (pc + 1)
def ck_10 (m pc : Nat) (i : AI) (o : JI) (len : Nat) : Option Nat := opg (decide (len = 1) && decide ((o = Jvm.ClassFile.Instr.idiv ∧ i.2.1 = 9) ∨ (o = Jvm.ClassFile.Instr.irem ∧ i.2.1 = 10))) (pc + 1)
def ck_11 (m pc : Nat) (i : AI) (o : JI) (len : Nat) : Option Nat := opg (decide (len = 1) && decide ((o = Jvm.ClassFile.Instr.ldiv ∧ i.2.1 = 6) ∨ (o = Jvm.ClassFile.Instr.lrem ∧ i.2.1 = 7))) (pc + 1)
def ck_60 (m pc : Nat) (i : AI) (o : JI) (len : Nat) : Option Nat := opg (decide (len = 1) && decide (o = Jvm.ClassFile.Instr.ineg)) (pc + 1)
def ck_61 (m pc : Nat) (i : AI) (o : JI) (len : Nat) : Option Nat := opg (decide (len = 1) && decide (o = Jvm.ClassFile.Instr.lneg)) (pc + 1)
def ck_62 (m pc : Nat) (i : AI) (o : JI) (len : Nat) : Option Nat := opg (decide (len = 1) && decide (o = Jvm.ClassFile.Instr.i2l)) (pc + 1)
def ck_63 (m pc : Nat) (i : AI) (o : JI) (len : Nat) : Option Nat := opg (decide (len = 1) && decide (o = Jvm.ClassFile.Instr.l2i)) (pc + 1)
def ck_64 (m pc : Nat) (i : AI) (o : JI) (len : Nat) : Option Nat := opg (decide (len = 1) && decide (o = Jvm.ClassFile.Instr.i2b)) (pc + 1)
def ck_65 (m pc : Nat) (i : AI) (o : JI) (len : Nat) : Option Nat := opg (decide (len = 1) && decide (o = Jvm.ClassFile.Instr.i2c)) (pc + 1)
def ck_13 (m pc : Nat) (i : AI) (o : JI) (len : Nat) : Option Nat := opg (decide (len = 1) && decide (o = Jvm.ClassFile.Instr.lcmp)) (pc + 1)
def ck_14 (m pc : Nat) (i : AI) (o : JI) (len : Nat) : Option Nat := match o with
    | .ifCond c off => opg (decide (len = 3) && (decide (c = cnd i.2.2.1) && (decide (0 ≤ i.2.2.1 ∧ i.2.2.1 < 6) && decide ((pc : Int) + off = (lpc m i.2.1 : Nat))))) (pc + 3)
    | _ => none
def ck_15 (m pc : Nat) (i : AI) (o : JI) (len : Nat) : Option Nat := match o with
    | .if_icmp c off => opg (decide (len = 3) && (decide (c = cnd i.2.2.1) && (decide (0 ≤ i.2.2.1 ∧ i.2.2.1 < 6) && decide ((pc : Int) + off = (lpc m i.2.1 : Nat))))) (pc + 3)
    | _ => none
def ck_16 (m pc : Nat) (i : AI) (o : JI) (len : Nat) : Option Nat := match o with
    | .goto off => opg (decide (len = 3) && decide ((pc : Int) + off = (lpc m i.2.1 : Nat))) (pc + 3)
    | _ => none
def ck_18 (m pc : Nat) (i : AI) (o : JI) (len : Nat) : Option Nat := match o with
    | .getfield x => opg (ck_f m len x i.2.2.1.toNat (fk i).toNat && decide (0 ≤ i.2.2.1 ∧ 0 ≤ fk i ∧ (tyD i.2.2.1.toNat (fk i).toNat = .int ∨ tyD i.2.2.1.toNat (fk i).toNat = .boolean))) (pc + 3)
    | _ => none
def ck_19 (m pc : Nat) (i : AI) (o : JI) (len : Nat) : Option Nat := match o with
    | .getfield x => opg (ck_f m len x i.2.2.1.toNat (fk i).toNat && decide (0 ≤ i.2.2.1 ∧ 0 ≤ fk i ∧ tyD i.2.2.1.toNat (fk i).toNat = .long)) (pc + 3)
    | _ => none
def ck_20 (m pc : Nat) (i : AI) (o : JI) (len : Nat) : Option Nat := match o with
    | .getfield x => opg (ck_f m len x i.2.2.1.toNat (fk i).toNat && decide (0 ≤ i.2.2.1 ∧ 0 ≤ fk i ∧ isReferenceType (tyD i.2.2.1.toNat (fk i).toNat) = true)) (pc + 3)
    | _ => none
def ck_21 (m pc : Nat) (i : AI) (o : JI) (len : Nat) : Option Nat := match o with
    | .putfield x => opg (ck_f m len x i.2.2.1.toNat (fk i).toNat && (fin_ok m i.2.2.1.toNat (fk i).toNat && decide (0 ≤ i.2.2.1 ∧ 0 ≤ fk i ∧ tyD i.2.2.1.toNat (fk i).toNat = .int))) (pc + 3)
    | _ => none
def ck_22 (m pc : Nat) (i : AI) (o : JI) (len : Nat) : Option Nat := match o with
    | .putfield x => opg (ck_f m len x i.2.2.1.toNat (fk i).toNat && (fin_ok m i.2.2.1.toNat (fk i).toNat && decide (0 ≤ i.2.2.1 ∧ 0 ≤ fk i ∧ tyD i.2.2.1.toNat (fk i).toNat = .long))) (pc + 3)
    | _ => none
def ck_23 (m pc : Nat) (i : AI) (o : JI) (len : Nat) : Option Nat := match o with
    | .putfield x => opg (ck_f m len x i.2.2.1.toNat (fk i).toNat && (fin_ok m i.2.2.1.toNat (fk i).toNat && decide (0 ≤ i.2.2.1 ∧ 0 ≤ fk i ∧ isReferenceType (tyD i.2.2.1.toNat (fk i).toNat) = true))) (pc + 3)
    | _ => none
def ck_24 (m pc : Nat) (i : AI) (o : JI) (len : Nat) : Option Nat := match o with
    | .putfield x => opg (ck_f m len x i.2.2.1.toNat (fk i).toNat && (fin_ok m i.2.2.1.toNat (fk i).toNat && decide (0 ≤ i.2.2.1 ∧ 0 ≤ fk i ∧ tyD i.2.2.1.toNat (fk i).toNat = .boolean))) (pc + 3)
    | _ => none
def ck_25 (m pc : Nat) (i : AI) (o : JI) (len : Nat) : Option Nat := opg (decide (len = 1) && decide (o = Jvm.ClassFile.Instr.iaload)) (pc + 1)
def ck_26 (m pc : Nat) (i : AI) (o : JI) (len : Nat) : Option Nat := opg (decide (len = 1) && decide (o = Jvm.ClassFile.Instr.laload)) (pc + 1)
def ck_27 (m pc : Nat) (i : AI) (o : JI) (len : Nat) : Option Nat := opg (decide (len = 1) && decide (o = Jvm.ClassFile.Instr.baload)) (pc + 1)
def ck_28 (m pc : Nat) (i : AI) (o : JI) (len : Nat) : Option Nat := opg (decide (len = 1) && decide (o = Jvm.ClassFile.Instr.caload)) (pc + 1)
def ck_29 (m pc : Nat) (i : AI) (o : JI) (len : Nat) : Option Nat := opg (decide (len = 1) && decide (o = Jvm.ClassFile.Instr.iastore)) (pc + 1)
def ck_30 (m pc : Nat) (i : AI) (o : JI) (len : Nat) : Option Nat := opg (decide (len = 1) && decide (o = Jvm.ClassFile.Instr.lastore)) (pc + 1)
def ck_31 (m pc : Nat) (i : AI) (o : JI) (len : Nat) : Option Nat := opg (decide (len = 1) && decide (o = Jvm.ClassFile.Instr.bastore)) (pc + 1)
def ck_32 (m pc : Nat) (i : AI) (o : JI) (len : Nat) : Option Nat := opg (decide (len = 1) && decide (o = Jvm.ClassFile.Instr.castore)) (pc + 1)
def ck_33 (m pc : Nat) (i : AI) (o : JI) (len : Nat) : Option Nat := opg (decide (len = 1) && decide (o = Jvm.ClassFile.Instr.arraylength)) (pc + 1)
def ck_34 (m pc : Nat) (i : AI) (o : JI) (len : Nat) : Option Nat := opg (decide (len = 1) && decide (o = Jvm.ClassFile.Instr.dup)) (pc + 1)
def ck_66 (m pc : Nat) (i : AI) (o : JI) (len : Nat) : Option Nat := opg (decide (len = 1) && decide (o = Jvm.ClassFile.Instr.dup2)) (pc + 1)
def ck_67 (m pc : Nat) (i : AI) (o : JI) (len : Nat) : Option Nat := opg (decide (len = 1) && decide (o = Jvm.ClassFile.Instr.pop)) (pc + 1)
def ck_35 (m pc : Nat) (i : AI) (o : JI) (len : Nat) : Option Nat := match o with
    | .invokestatic x => opg (decide (len = 3) && (ML.contains (on m, x, i.2.1, 0) && (sM i.2.1 && (decide (i.2.2.1 = (nP i.2.1 : Nat)) && (decide (rM i.2.1 ≠ none) && decide (i.2.1 < 373)))))) (pc + 3)
    | _ => none
def ck_37 (m pc : Nat) (i : AI) (o : JI) (len : Nat) : Option Nat := match o with
    | .invokestatic x => opg (decide (len = 3) && (ML.contains (on m, x, i.2.1, 0) && (sM i.2.1 && (decide (i.2.2.1 = (nP i.2.1 : Nat)) && (decide (rM i.2.1 = none) && decide (i.2.1 < 373)))))) (pc + 3)
    | _ => none
def ck_36 (m pc : Nat) (i : AI) (o : JI) (len : Nat) : Option Nat := match o, i.2.2.2 with
    | .invokevirtual x, [(e, 0)] => opg (decide (len = 3) && (ML.contains (on m, x, i.2.1, 1) && (MV.contains i.2.1 && (decide (i.2.2.1 = (nP i.2.1 + 1 : Nat)) && (decide (0 ≤ e ∧ e < 12 ∧ (clD e.toNat).1 = (yM i.2.1).cls) && (decide (rM i.2.1 ≠ none) && decide (i.2.1 < 373))))))) (pc + 3)
    | _, _ => none
def ck_38 (m pc : Nat) (i : AI) (o : JI) (len : Nat) : Option Nat := match o, i.2.2.2 with
    | .invokevirtual x, [(e, 0)] => opg (decide (len = 3) && (ML.contains (on m, x, i.2.1, 1) && (MV.contains i.2.1 && (decide (i.2.2.1 = (nP i.2.1 + 1 : Nat)) && (decide (0 ≤ e ∧ e < 12 ∧ (clD e.toNat).1 = (yM i.2.1).cls) && (decide (rM i.2.1 = none) && decide (i.2.1 < 373))))))) (pc + 3)
    | .invokespecial x, [(e, 1)] => opg (decide (len = 3) && ((ML.contains (on m, x, i.2.1, 2) || ML.contains (on m, x, i.2.1, 3)) && (MI.contains i.2.1 && (decide ((yM i.2.1).name = "<init>") && (decide (i.2.2.1 = (nP i.2.1 + 1 : Nat)) && (decide (rM i.2.1 = none) && (decide (i.2.1 < 373) && decide (0 ≤ e)))))))) (pc + 3)
    | _, _ => none
def ck_39 (m pc : Nat) (i : AI) (o : JI) (len : Nat) : Option Nat := opg (decide (len = 1) && decide (o = Jvm.ClassFile.Instr.return_ ∧ rM m = none)) (pc + 1)
def ck_40 (m pc : Nat) (i : AI) (o : JI) (len : Nat) : Option Nat := opg (decide (len = 1) && decide (o = Jvm.ClassFile.Instr.ireturn ∧ rM m = some .int)) (pc + 1)
def ck_41 (m pc : Nat) (i : AI) (o : JI) (len : Nat) : Option Nat := opg (decide (len = 1) && decide (o = Jvm.ClassFile.Instr.lreturn ∧ rM m = some .long)) (pc + 1)
def ck_42 (m pc : Nat) (i : AI) (o : JI) (len : Nat) : Option Nat := opg (decide (len = 1) && decide (o = Jvm.ClassFile.Instr.ireturn ∧ rM m = some .boolean)) (pc + 1)
def ck_43 (m pc : Nat) (i : AI) (o : JI) (len : Nat) : Option Nat := match o with
    | .new x => opg (decide (len = 3) && (KC.contains (on m, x, i.2.2.1.toNat) && decide (0 ≤ i.2.2.1 ∧ i.2.2.1 < 12))) (pc + 3)
    | _ => none
def ck_44 (m pc : Nat) (i : AI) (o : JI) (len : Nat) : Option Nat := match o with
    | .newarray at_ => opg (decide (len = 2) && decide ((i.2.1 = 1 ∧ at_ = .int) ∨ (i.2.1 = 2 ∧ at_ = .long) ∨ (i.2.1 = 3 ∧ at_ = .byte) ∨ (i.2.1 = 4 ∧ at_ = .char))) (pc + 2)
    | _ => none
def ck_45 (m pc : Nat) (i : AI) (o : JI) (len : Nat) : Option Nat := match o with
    | .tableswitch dflt lo hi offs => opg (decide (i.2.2.1 = 0) && (decide ((pc : Int) + dflt = (lpc m i.2.1 : Nat)) && (decide (i.2.2.2.length = offs.size) && (decide (hi = lo + (offs.size : Nat) - 1) && (List.range offs.size).all (fun j => match i.2.2.2[j]?, offs[j]? with
        | some q, some f => decide (q.1 = lo + (j : Nat)) && decide ((pc : Int) + f = (lpc m q.2 : Nat))
        | _, _ => false))))) pc
    | .lookupswitch dflt ps => opg (decide (i.2.2.1 = 1) && (decide ((pc : Int) + dflt = (lpc m i.2.1 : Nat)) && (decide (i.2.2.2.length = ps.toList.length) && ((ps.toList.zip (ps.toList.drop 1)).all (fun (a, next) => a.1 < next.1) && (i.2.2.2.zip ps.toList).all (fun q => decide (q.1.1 = q.2.1) && decide ((pc : Int) + q.2.2 = (lpc m q.1.2 : Nat))))))) pc
    | _ => none
def ck_46 (m pc : Nat) (i : AI) (o : JI) (len : Nat) : Option Nat := match o with
    | .ldc x => opg (decide (len = 2) && decide ((on m = 0 ∧ x = 44 ∧ i.2.2.1 = 901) ∨ (on m = 7 ∧ x = 49 ∧ i.2.2.1 = 902))) (pc + 2)
    | _ => none
def ck_47 (m pc : Nat) (i : AI) (o : JI) (len : Nat) : Option Nat := match o with
    | .invokestatic x => opg (decide (len = 3) && ML.contains (on m, x, 2, 5)) (pc + 3)
    | _ => none
def ck_48 (m pc : Nat) (i : AI) (o : JI) (len : Nat) : Option Nat := opg (decide (len = 1) && decide (o = Jvm.ClassFile.Instr.iaload)) (pc + 1)
def ck_49 (m pc : Nat) (i : AI) (o : JI) (len : Nat) : Option Nat := opg (decide (len = 1) && decide (o = Jvm.ClassFile.Instr.arraylength)) (pc + 1)
def ck_50 (m pc : Nat) (i : AI) (o : JI) (len : Nat) : Option Nat := match o with
    | .invokevirtual x => opg (decide (len = 3) && ML.contains (on m, x, 0, 5)) (pc + 3)
    | _ => none
def ck_51 (m pc : Nat) (i : AI) (o : JI) (len : Nat) : Option Nat := match o with
    | .invokevirtual x => opg (decide (len = 3) && ML.contains (on m, x, 1, 5)) (pc + 3)
    | _ => none
def ck_52 (m pc : Nat) (i : AI) (o : JI) (len : Nat) : Option Nat := match o with
    | .invokespecial x => opg (decide (len = 3) && ML.contains (on m, x, 0, 4)) (pc + 3)
    | _ => none
def ck1 (m pc : Nat) (i : AI) (o : JI) (len : Nat) : Option Nat :=
  match i.1 with
  | 1 => ck_1 m pc i o len
  | 2 => ck_2 m pc i o len
  | 3 => ck_3 m pc i o len
  | 53 => ck_53 m pc i o len
  | 54 => ck_54 m pc i o len
  | 4 => ck_4 m pc i o len
  | 55 => ck_55 m pc i o len
  | 5 => ck_5 m pc i o len
  | 6 => ck_6 m pc i o len
  | 7 => ck_7 m pc i o len
  | 8 => ck_8 m pc i o len
  | 9 => ck_9 m pc i o len
  | 10 => ck_10 m pc i o len
  | 11 => ck_11 m pc i o len
  | 60 => ck_60 m pc i o len
  | 61 => ck_61 m pc i o len
  | 62 => ck_62 m pc i o len
  | 63 => ck_63 m pc i o len
  | 64 => ck_64 m pc i o len
  | 65 => ck_65 m pc i o len
  | 66 => ck_66 m pc i o len
  | 67 => ck_67 m pc i o len
  | 13 => ck_13 m pc i o len
  | 14 => ck_14 m pc i o len
  | 15 => ck_15 m pc i o len
  | 16 => ck_16 m pc i o len
  | 18 => ck_18 m pc i o len
  | 19 => ck_19 m pc i o len
  | 20 => ck_20 m pc i o len
  | 21 => ck_21 m pc i o len
  | 22 => ck_22 m pc i o len
  | 23 => ck_23 m pc i o len
  | 24 => ck_24 m pc i o len
  | 25 => ck_25 m pc i o len
  | 26 => ck_26 m pc i o len
  | 27 => ck_27 m pc i o len
  | 28 => ck_28 m pc i o len
  | 29 => ck_29 m pc i o len
  | 30 => ck_30 m pc i o len
  | 31 => ck_31 m pc i o len
  | 32 => ck_32 m pc i o len
  | 33 => ck_33 m pc i o len
  | 34 => ck_34 m pc i o len
  | 35 => ck_35 m pc i o len
  | 37 => ck_37 m pc i o len
  | 36 => ck_36 m pc i o len
  | 38 => ck_38 m pc i o len
  | 39 => ck_39 m pc i o len
  | 40 => ck_40 m pc i o len
  | 41 => ck_41 m pc i o len
  | 42 => ck_42 m pc i o len
  | 43 => ck_43 m pc i o len
  | 44 => ck_44 m pc i o len
  | 45 => ck_45 m pc i o len
  | 46 => ck_46 m pc i o len
  | 47 => ck_47 m pc i o len
  | 48 => ck_48 m pc i o len
  | 49 => ck_49 m pc i o len
  | 50 => ck_50 m pc i o len
  | 51 => ck_51 m pc i o len
  | 52 => ck_52 m pc i o len
  | _ => none
/-- a row of instructions stands at pc; 17 (going on into another block) has no bytecode -/
def chk (m : Nat) : Nat → List AI → Bool
  | _, [] => true
  | pc, i :: is => if i.1 = 17 then decide (pc = lpc m i.2.1) else match decode (bM m) pc with
    | .error _ => false
    | .ok (o, len) => match ck1 m pc i o len with
      | none => false
      | some pc' => chk m pc' is
def chkM (m : Nat) : Bool := (List.range (bkT.getD m []).length).all (fun n => chk m (lpc m n) (blk m n))
end
section
theorem chk_all {m : Nat} (h : m < 374) (n : Nat) : chk m (lpc m n) (blk m n) = true := sorry
end
section
/-! THE SIMULATION, first part: how the abstract machine's values, locals, stacks and heaps are held by the machine -/
theorem length_lst1 : ∀ (ls : List AV) (i : Nat) (v : AV), (lst1 ls i v).length = ls.length
  | [], _, _ => rfl
  | _ :: _, 0, _ => rfl
  | a :: l, 1, v => by show (lst1 l 0 v).length + 1 = l.length + 1; rw [length_lst1]
  | a :: l, n + 2, v => by show (lst1 l (n + 1) v).length + 1 = l.length + 1; rw [length_lst1]
theorem length_lst2 : ∀ (ls : List AV) (i : Nat) (v : AV), i + 1 < ls.length → (lst2 ls i v).length = ls.length
  | [], _, _, h => by simp at h
  | [_], _, _, h => by simp at h
  | _ :: _ :: _, 0, _, _ => rfl
  | a :: b :: l, 1, v, h => by
    show (lst2 (b :: l) 0 v).length + 1 = (b :: l).length + 1
    rw [length_lst2 (b :: l) 0 v (by simp at h ⊢; omega)]
  | a :: b :: l, n + 2, v, h => by
    show (lst2 (b :: l) (n + 1) v).length + 1 = (b :: l).length + 1
    rw [length_lst2 (b :: l) (n + 1) v (by simp at h ⊢; omega)]
theorem lget_nil (j : Nat) : lget [] j = vu := by cases j <;> rfl
theorem lget_lst1 : ∀ (ls : List AV) (i : Nat) (v : AV), i < ls.length → ∀ j, lget (lst1 ls i v) j = if j = i then v else if j + 1 = i ∧ (lget ls j).1 = 1 then vu else lget ls j
  | [], _, _, h, _ => by simp at h
  | a :: l, 0, v, _, j => by
    cases j with
    | zero => rfl
    | succ j => simp [lst1, lget]
  | a :: l, 1, v, h, j => by
    have ih := lget_lst1 l 0 v (by simp at h; omega)
    cases j with
    | zero => by_cases ha : a.1 = 1 <;> simp [lst1, lget, ha]
    | succ j => 
      show lget (lst1 l 0 v) j = _
      rw [ih j]
      by_cases hj : j = 0
      · subst hj; simp
      · simp [hj, lget]
  | a :: l, n + 2, v, h, j => by
    have ih := lget_lst1 l (n + 1) v (by simp at h; omega)
    cases j with
    | zero => simp [lst1, lget]
    | succ j =>
      show lget (lst1 l (n + 1) v) j = _
      rw [ih j]
      simp [lget]
theorem lget_lst2 : ∀ (ls : List AV) (i : Nat) (v : AV), i + 1 < ls.length → ∀ j, lget (lst2 ls i v) j = if j = i then v else if j = i + 1 then vu else if j + 1 = i ∧ (lget ls j).1 = 1 then vu else lget ls j
  | [], _, _, h, _ => by simp at h
  | [_], _, _, h, _ => by simp at h
  | a :: b :: l, 0, v, _, j => by
    cases j with
    | zero => rfl
    | succ j =>
      cases j with
      | zero => rfl
      | succ j => simp [lst2, lget]
  | a :: b :: l, 1, v, h, j => by
    have ih := lget_lst2 (b :: l) 0 v (by simp at h ⊢; omega)
    cases j with
    | zero => by_cases ha : a.1 = 1 <;> simp [lst2, lget, ha]
    | succ j =>
      show lget (lst2 (b :: l) 0 v) j = _
      rw [ih j]
      by_cases hj : j = 0
      · subst hj; simp
      · simp [hj, lget]
  | a :: b :: l, n + 2, v, h, j => by
    have ih := lget_lst2 (b :: l) (n + 1) v (by simp at h ⊢; omega)
    cases j with
    | zero => simp [lst2, lget]
    | succ j =>
      show lget (lst2 (b :: l) (n + 1) v) j = _
      rw [ih j]
      simp [lget]
theorem lget_lt : ∀ {ls : List AV} {j : Nat}, (lget ls j).1 ≠ 3 → j < ls.length
  | [], j, h => by rw [lget_nil] at h; exact absurd rfl h
  | a :: l, 0, _ => by simp
  | a :: l, j + 1, h => by have := lget_lt (ls := l) (j := j) h; simp; omega
/-! values -/
def okr (n k : Int) : Prop := (1 ≤ k ∧ k ≤ n) ∨ k = 901 ∨ k = 902 ∨ k = 999
def vrel (f : Int → Nat) (n : Int) (a : AV) (v : Value) : Prop := (a.1 = 0 ∧ ∃ x : Int32, v = .int x ∧ x.toInt = a.2) ∨ (a.1 = 1 ∧ ∃ x : Int64, v = .long x ∧ x.toInt = a.2) ∨ (a.1 = 2 ∧ ((a.2 = 0 ∧ v = .null) ∨ (okr n a.2 ∧ v = .ref (f a.2))))
section V
variable {f f' : Int → Nat} {n n' : Int}
theorem okr.mono {k : Int} (h : okr n k) (hn : n ≤ n') : okr n' k := by unfold okr at *; omega
theorem vrel.mono {a : AV} {v : Value} (h : vrel f n a v) (hn : n ≤ n') (hf : ∀ k, okr n k → f' k = f k) : vrel f' n' a v := by
  rcases h with h | h | ⟨h1, h | ⟨h2, h3⟩⟩
  · exact Or.inl h
  · exact Or.inr (Or.inl h)
  · exact Or.inr (Or.inr ⟨h1, Or.inl h⟩)
  · exact Or.inr (Or.inr ⟨h1, Or.inr ⟨h2.mono hn, by rw [hf _ h2]; exact h3⟩⟩)
theorem vrel_i {x : Int} {v : Value} : vrel f n (0, x) v ↔ ∃ y : Int32, v = .int y ∧ y.toInt = x := by
  constructor
  · rintro (⟨-, h⟩ | ⟨h, -⟩ | ⟨h, -⟩)
    · exact h
    · cases h
    · cases h
  · exact fun h => Or.inl ⟨rfl, h⟩
theorem vrel_l {x : Int} {v : Value} : vrel f n (1, x) v ↔ ∃ y : Int64, v = .long y ∧ y.toInt = x := by
  constructor
  · rintro (⟨h, -⟩ | ⟨-, h⟩ | ⟨h, -⟩)
    · cases h
    · exact h
    · cases h
  · exact fun h => Or.inr (Or.inl ⟨rfl, h⟩)
theorem vrel_a {x : Int} {v : Value} : vrel f n (2, x) v ↔ (x = 0 ∧ v = .null) ∨ (okr n x ∧ v = .ref (f x)) := by
  constructor
  · rintro (⟨h, -⟩ | ⟨h, -⟩ | ⟨-, h⟩)
    · cases h
    · cases h
    · exact h
  · exact fun h => Or.inr (Or.inr ⟨rfl, h⟩)
theorem vrel.cat {a : AV} {v : Value} (h : vrel f n a v) : (a.1 = 1 → v.category = 2) ∧ (a.1 ≠ 1 → v.category = 1) := by
  rcases h with ⟨h, x, rfl, -⟩ | ⟨h, x, rfl, -⟩ | ⟨h, ⟨-, rfl⟩ | ⟨-, rfl⟩⟩ <;> simp [h, Value.category]
theorem vrel.ne3 {a : AV} {v : Value} (h : vrel f n a v) : a.1 ≠ 3 := by
  rcases h with ⟨h, -⟩ | ⟨h, -⟩ | ⟨h, -⟩ <;> omega
/-- stacks -/
def srel (f : Int → Nat) (n : Int) : List AV → List Value → Prop
  | [], [] => True
  | a :: st, v :: sv => vrel f n a v ∧ srel f n st sv
  | _, _ => False
theorem srel.mono : ∀ {st : List AV} {sv : List Value}, srel f n st sv → n ≤ n' → (∀ k, okr n k → f' k = f k) → srel f' n' st sv
  | [], [], _, _, _ => trivial
  | _ :: _, _ :: _, h, hn, hf => ⟨h.1.mono hn hf, srel.mono h.2 hn hf⟩
  | [], _ :: _, h, _, _ => h.elim
  | _ :: _, [], h, _, _ => h.elim
theorem srel_nil {sv : List Value} (h : srel f n [] sv) : sv = [] := by
  cases sv with
  | nil => rfl
  | cons => exact h.elim
theorem srel_cons {a : AV} {st : List AV} {sv : List Value} (h : srel f n (a :: st) sv) : ∃ v sv', sv = v :: sv' ∧ vrel f n a v ∧ srel f n st sv' := by
  cases sv with
  | nil => exact h.elim
  | cons v sv' => exact ⟨v, sv', rfl, h.1, h.2⟩
theorem srel_i {x : Int} {st : List AV} {sv : List Value} (h : srel f n ((0, x) :: st) sv) : ∃ (y : Int32) (sv' : List Value), sv = .int y :: sv' ∧ y.toInt = x ∧ srel f n st sv' := by
  obtain ⟨v, sv', rfl, h1, h2⟩ := srel_cons h
  obtain ⟨y, rfl, hy⟩ := vrel_i.mp h1
  exact ⟨y, sv', rfl, hy, h2⟩
theorem srel_l {x : Int} {st : List AV} {sv : List Value} (h : srel f n ((1, x) :: st) sv) : ∃ (y : Int64) (sv' : List Value), sv = .long y :: sv' ∧ y.toInt = x ∧ srel f n st sv' := by
  obtain ⟨v, sv', rfl, h1, h2⟩ := srel_cons h
  obtain ⟨y, rfl, hy⟩ := vrel_l.mp h1
  exact ⟨y, sv', rfl, hy, h2⟩
/-- a reference that isn't null -/
theorem srel_a {x : Int} {st : List AV} {sv : List Value} (h : srel f n ((2, x) :: st) sv) (hx : x ≠ 0) : ∃ (sv' : List Value), sv = .ref (f x) :: sv' ∧ okr n x ∧ srel f n st sv' := by
  obtain ⟨v, sv', rfl, h1, h2⟩ := srel_cons h
  rcases vrel_a.mp h1 with ⟨h3, -⟩ | ⟨h3, rfl⟩
  · exact absurd h3 hx
  · exact ⟨sv', rfl, h3, h2⟩
theorem srel_wds : ∀ {st : List AV} {sv : List Value}, srel f n st sv → (sv.map fun v => v.category).sum = wds st
  | [], [], _ => rfl
  | a :: st, v :: sv, h => by
    have ih := srel_wds h.2
    have hc := h.1.cat
    simp only [List.map_cons, List.sum_cons, ih, wds]
    by_cases ha : a.1 = 1
    · rw [hc.1 ha, if_pos ha]; omega
    · rw [hc.2 ha, if_neg ha]; omega
  | [], _ :: _, h => h.elim
  | _ :: _, [], h => h.elim
/-- locals -/
def lrel (f : Int → Nat) (n : Int) (ls : List AV) (la : Array Slot) : Prop := ∃ lv, lv_has la ls.length lv ∧ ∀ j, (lget ls j).1 ≠ 3 → ∃ v, (j, v) ∈ lv ∧ vrel f n (lget ls j) v
theorem lrel.mono {ls : List AV} {la : Array Slot} (h : lrel f n ls la) (hn : n ≤ n') (hf : ∀ k, okr n k → f' k = f k) : lrel f' n' ls la := by
  obtain ⟨lv, h1, h2⟩ := h
  exact ⟨lv, h1, fun j hj => by obtain ⟨v, h3, h4⟩ := h2 j hj; exact ⟨v, h3, h4.mono hn hf⟩⟩
theorem lrel.at {ls : List AV} {la : Array Slot} {j : Nat} {a : AV} (h : lrel f n ls la) (ha : lget ls j = a) (h3 : a.1 ≠ 3) : ∃ v, la[j]? = some (.val v) ∧ vrel f n a v := by
  obtain ⟨lv, h1, h2⟩ := h
  subst ha
  obtain ⟨v, h4, h5⟩ := h2 j h3
  exact ⟨v, h1.2.2 _ h4, h5⟩
theorem lrel.size {ls : List AV} {la : Array Slot} (h : lrel f n ls la) : la.size = ls.length := by
  obtain ⟨lv, h1, -⟩ := h
  exact h1.1
theorem lrel.st1 {ls : List AV} {la : Array Slot} {i : Nat} {a : AV} {v : Value} {lv : List (Nat × Value)} (h2 : ∀ j, (lget ls j).1 ≠ 3 → ∃ v, (j, v) ∈ lv ∧ vrel f n (lget ls j) v) (hi : i < ls.length) (hv : vrel f n a v) (h : lv_has la ls.length ((i, v) :: lv.filter (fun q => !(q.1 == i) && !(q.1 + 1 == i && q.2.category == 2)))) : lrel f n (lst1 ls i a) la := by
  refine ⟨_, by rw [length_lst1]; exact h, fun j hj => ?_⟩
  rw [lget_lst1 ls i a hi j] at hj ⊢
  by_cases e : j = i
  · subst e
    rw [if_pos rfl] at hj ⊢
    exact ⟨v, List.mem_cons_self, hv⟩
  · rw [if_neg e] at hj ⊢
    by_cases g : j + 1 = i ∧ (lget ls j).1 = 1
    · rw [if_pos g] at hj; exact absurd rfl hj
    · rw [if_neg g] at hj ⊢
      obtain ⟨w, h3, h4⟩ := h2 j hj
      refine ⟨w, List.mem_cons_of_mem _ (List.mem_filter.mpr ⟨h3, ?_⟩), h4⟩
      have hc := h4.cat
      by_cases t : (lget ls j).1 = 1
      · have hn : ¬ j + 1 = i := fun q => g ⟨q, t⟩
        simp [e, hn]
      · simp [e, hc.2 t]
theorem lrel.st2 {ls : List AV} {la : Array Slot} {i : Nat} {a : AV} {v : Value} {lv : List (Nat × Value)} (h2 : ∀ j, (lget ls j).1 ≠ 3 → ∃ v, (j, v) ∈ lv ∧ vrel f n (lget ls j) v) (hi : i + 1 < ls.length) (hv : vrel f n a v) (h : lv_has la ls.length ((i, v) :: lv.filter (fun q => !(q.1 == i) && (!(q.1 == i + 1) && !(q.1 + 1 == i && q.2.category == 2))))) : lrel f n (lst2 ls i a) la := by
  refine ⟨_, by rw [length_lst2 _ _ _ hi]; exact h, fun j hj => ?_⟩
  rw [lget_lst2 ls i a hi j] at hj ⊢
  by_cases e : j = i
  · subst e
    rw [if_pos rfl] at hj ⊢
    exact ⟨v, List.mem_cons_self, hv⟩
  · rw [if_neg e] at hj ⊢
    by_cases e2 : j = i + 1
    · rw [if_pos e2] at hj; exact absurd rfl hj
    · rw [if_neg e2] at hj ⊢
      by_cases g : j + 1 = i ∧ (lget ls j).1 = 1
      · rw [if_pos g] at hj; exact absurd rfl hj
      · rw [if_neg g] at hj ⊢
        obtain ⟨w, h3, h4⟩ := h2 j hj
        refine ⟨w, List.mem_cons_of_mem _ (List.mem_filter.mpr ⟨h3, ?_⟩), h4⟩
        have hc := h4.cat
        by_cases t : (lget ls j).1 = 1
        · have hn : ¬ j + 1 = i := fun q => g ⟨q, t⟩
          simp [e, e2, hn]
        · simp [e, e2, hc.2 t]
end V
/-! numbers -/
theorem w32_of {x : Int32} : w32 x.toInt = x.toInt := by
  have h1 := Int32.le_toInt x
  have h2 := Int32.toInt_lt x
  unfold w32
  omega
theorem w32_bmod (z : Int) : w32 z = z.bmod (2 ^ 32) := by unfold w32; rw [Int.bmod_def]; split <;> omega
theorem w64_bmod (z : Int) : w64 z = z.bmod (2 ^ 64) := by unfold w64; rw [Int.bmod_def]; split <;> omega
theorem i32_of (x : Int32) : Int32.ofInt x.toInt = x := Int32.ofInt_toInt x
theorem i64_of (x : Int64) : Int64.ofInt x.toInt = x := Int64.ofInt_toInt x
theorem toInt_ofInt32 {z : Int} (h : i32 z = true) : (Int32.ofInt z).toInt = z := by
  unfold i32 at h
  have h := of_decide_eq_true h
  rw [Int32.toInt_ofInt, show Int32.size = 4294967296 from rfl, Int.bmod_def]
  split <;> omega
theorem toInt_ofInt64 {z : Int} (h : i64 z = true) : (Int64.ofInt z).toInt = z := by
  unfold i64 at h
  have h := of_decide_eq_true h
  rw [Int64.toInt_ofInt, show Int64.size = 18446744073709551616 from rfl, Int.bmod_def]
  split <;> omega
theorem opi_add (x y : Int32) : (x + y).toInt = w32 (x.toInt + y.toInt) := by rw [w32_bmod, Int32.toInt_add]
theorem opi_sub (x y : Int32) : (x - y).toInt = w32 (x.toInt - y.toInt) := by rw [w32_bmod, Int32.toInt_sub]
theorem opi_mul (x y : Int32) : (x * y).toInt = w32 (x.toInt * y.toInt) := by rw [w32_bmod, Int32.toInt_mul]
theorem opi_neg (x : Int32) : (-x).toInt = w32 (-x.toInt) := by rw [w32_bmod, Int32.toInt_neg]
theorem opi_div (x y : Int32) : (x / y).toInt = w32 (Int.tdiv x.toInt y.toInt) := by rw [w32_bmod, Int32.toInt_div]
theorem opl_add (x y : Int64) : (x + y).toInt = w64 (x.toInt + y.toInt) := by rw [w64_bmod, Int64.toInt_add]
theorem opl_sub (x y : Int64) : (x - y).toInt = w64 (x.toInt - y.toInt) := by rw [w64_bmod, Int64.toInt_sub]
theorem opl_mul (x y : Int64) : (x * y).toInt = w64 (x.toInt * y.toInt) := by rw [w64_bmod, Int64.toInt_mul]
theorem opl_neg (x : Int64) : (-x).toInt = w64 (-x.toInt) := by rw [w64_bmod, Int64.toInt_neg]
theorem opl_div (x y : Int64) : (x / y).toInt = w64 (Int.tdiv x.toInt y.toInt) := by rw [w64_bmod, Int64.toInt_div]
theorem w32_cong {a b : Int} (h : ∃ k, a - b = k * 4294967296) : w32 a = w32 b := by obtain ⟨k, h⟩ := h; unfold w32; omega
theorem w64_cong {a b : Int} (h : ∃ k, a - b = k * 18446744073709551616) : w64 a = w64 b := by obtain ⟨k, h⟩ := h; unfold w64; omega
theorem w32_k (a : Int) : ∃ k, w32 a = a + k * 4294967296 := ⟨-((a + 2147483648) / 4294967296), by unfold w32; omega⟩
theorem w64_k (a : Int) : ∃ k, w64 a = a + k * 18446744073709551616 := ⟨-((a + 9223372036854775808) / 18446744073709551616), by unfold w64; omega⟩
theorem opi_rem (x y : Int32) : (x - x / y * y).toInt = w32 (Int.tmod x.toInt y.toInt) := by
  rw [opi_sub, opi_mul, opi_div]
  obtain ⟨k1, h1⟩ := w32_k (x.toInt.tdiv y.toInt)
  obtain ⟨k2, h2⟩ := w32_k (w32 (x.toInt.tdiv y.toInt) * y.toInt)
  refine w32_cong ⟨-(k1 * y.toInt) - k2, ?_⟩
  rw [h2, h1]
  have := Int.tmod_add_mul_tdiv x.toInt y.toInt
  grind
theorem opl_rem (x y : Int64) : (x - x / y * y).toInt = w64 (Int.tmod x.toInt y.toInt) := by
  rw [opl_sub, opl_mul, opl_div]
  obtain ⟨k1, h1⟩ := w64_k (x.toInt.tdiv y.toInt)
  obtain ⟨k2, h2⟩ := w64_k (w64 (x.toInt.tdiv y.toInt) * y.toInt)
  refine w64_cong ⟨-(k1 * y.toInt) - k2, ?_⟩
  rw [h2, h1]
  have := Int.tmod_add_mul_tdiv x.toInt y.toInt
  grind
theorem cv_i2l (x : Int32) : x.toInt64.toInt = x.toInt := Int32.toInt_toInt64 x
theorem cv_l2i (x : Int64) : x.toInt32.toInt = w32 x.toInt := by rw [w32_bmod, Int64.toInt_toInt32]
theorem cv_i2b (x : Int32) : x.toInt8.toInt32.toInt = w8 x.toInt := by
  rw [Int8.toInt_toInt32, Int32.toInt_toInt8, Int.bmod_def]
  unfold w8
  split <;> omega
theorem lg_cmp_3 (x y : Int64) : (lg_cmp x y).toInt = cmp3 x.toInt y.toInt := by
  unfold lg_cmp cmp3
  by_cases h1 : x > y
  · rw [if_pos h1, if_pos (Int64.lt_iff_toInt_lt.mp h1)]; rfl
  · have h1' : ¬ x.toInt > y.toInt := fun h => h1 (Int64.lt_iff_toInt_lt.mpr h)
    rw [if_neg h1, if_neg h1']
    by_cases h2 : x = y
    · rw [if_pos h2, if_pos (by rw [h2])]; rfl
    · rw [if_neg h2, if_neg (fun h => h2 (Int64.toInt_inj.mp h))]; rfl
theorem vp_in_of_int {x : Int32} {z : Int} {n : Nat} (hx : x.toInt = z) (h0 : 0 ≤ z) (h1 : z < n) : vp_in x n ∧ x.toNatClampNeg = z.toNat := by
  have e : x.toNatClampNeg = z.toNat := by show x.toInt.toNat = _; rw [hx]
  refine ⟨fun h => ?_, e⟩
  rcases h with h | h
  · have := Int32.lt_iff_toInt_lt.mp h
    rw [hx] at this
    simp at this
    omega
  · rw [e] at h; omega
end
section
/-! THE SIMULATION, second part: heaps -/
def ftg (ci j : Nat) : Nat := if tyD ci j = .long then 1 else if isReferenceType (tyD ci j) = true then 2 else 0
def aq (base : Nat) : Nat → Prop := fun q => base ≤ q
def tys4 (cy : Nat → ClassId) : List (ClassId × FieldType) := [(cy 1, .int), (cy 2, .long), (cy 3, .byte), (cy 4, .char)]
def cellR (f : Int → Nat) (n : Int) (cy : Nat → ClassId) (k : Int) (h : Int → Int) (e : va_E) : Prop :=
  (0 ≤ shc k ∧ ∃ fs : List Value, e = .inr ((shc k).toNat, fs) ∧ fs.length = (clD (shc k).toNat).2.2 ∧ ∀ j : Nat, j < fs.length → ∃ v, fs[j]? = some v ∧ vrel f n (ftg (shc k).toNat j, h j) v) ∨
  ((sht k = 1 ∨ sht k = 3 ∨ sht k = 4) ∧ ∃ g : Nat → Int32, e = .inl (cy (sht k).toNat, (shl k).toNat, .inl g) ∧ ∀ j : Nat, (j : Int) < shl k → (g j).toInt = h j) ∨
  (sht k = 2 ∧ ∃ g : Nat → Int64, e = .inl (cy 2, (shl k).toNat, .inr (.inl g)) ∧ ∀ j : Nat, (j : Int) < shl k → (g j).toInt = h j)
def wrl (D : va_G) (cy : Nat → ClassId) (base : Nat) (f : Int → Nat) (H : Hp) (Hm : Heap) : Prop := ∃ (N : Nat) (ws : va_W), H 0 0 = N ∧ N ≤ 139 ∧ ws.length = N ∧ (∀ k : Nat, k < N → ∃ e, ws[k]? = some (f (k + 1), e) ∧ cellR f N cy (k + 1) (H (k + 1)) e) ∧ va_P D vwCl ws Hm ∧ va_D (aq base) ws ∧ ∀ k : Int, N < k → k ≤ 139 → ∀ j, H k j = 0
theorem sh_tab : (List.range 140).all (fun n => decide ((tb_c.getD n (-1) < 12) ∧ ¬ (0 ≤ tb_c.getD n (-1) ∧ tb_t.getD n 0 ≠ 0) ∧ (0 ≤ tb_l.getD n 0 ∧ tb_l.getD n 0 < 10000) ∧ (0 ≤ tb_t.getD n 0 ∧ tb_t.getD n 0 ≤ 4) ∧ (n = 0 → tb_c.getD n (-1) = -1 ∧ tb_t.getD n 0 = 0) ∧ (n ≠ 0 → 0 ≤ tb_c.getD n (-1) ∨ tb_t.getD n 0 ≠ 0))) = true := by decide +kernel
theorem sh_out (n : Nat) (h : 140 ≤ n) : tb_c.getD n (-1) = -1 ∧ tb_t.getD n 0 = 0 ∧ tb_l.getD n 0 = 0 := by
  have h1 : tb_c.length = 140 := by decide +kernel
  have h2 : tb_t.length = 140 := by decide +kernel
  have h3 : tb_l.length = 140 := by decide +kernel
  simp only [List.getD_eq_getElem?_getD]
  rw [List.getElem?_eq_none (by omega), List.getElem?_eq_none (by omega), List.getElem?_eq_none (by omega)]
  exact ⟨rfl, rfl, rfl⟩
theorem sh_all (k : Int) : (shc k < 12) ∧ ¬ (0 ≤ shc k ∧ sht k ≠ 0) ∧ (0 ≤ shl k ∧ shl k < 10000) ∧ (0 ≤ sht k ∧ sht k ≤ 4) ∧ (0 ≤ shc k ∨ sht k ≠ 0 → 1 ≤ k ∧ k ≤ 139) ∧ (1 ≤ k → k ≤ 139 → 0 ≤ shc k ∨ sht k ≠ 0) := by
  cases k with
  | negSucc n => exact ⟨by show (-1 : Int) < 12; omega, by show ¬ ((0 : Int) ≤ -1 ∧ _); omega, by show (0 : Int) ≤ 0 ∧ (0 : Int) < 10000; omega, by show (0 : Int) ≤ 0 ∧ (0 : Int) ≤ 4; omega, fun h => by rcases h with h | h; exact absurd h (by show ¬ (0 : Int) ≤ -1; omega); exact absurd rfl h, fun h => by omega⟩
  | ofNat n =>
    show (tb_c.getD n (-1) < 12) ∧ ¬ (0 ≤ tb_c.getD n (-1) ∧ tb_t.getD n 0 ≠ 0) ∧ (0 ≤ tb_l.getD n 0 ∧ tb_l.getD n 0 < 10000) ∧ (0 ≤ tb_t.getD n 0 ∧ tb_t.getD n 0 ≤ 4) ∧ (0 ≤ tb_c.getD n (-1) ∨ tb_t.getD n 0 ≠ 0 → 1 ≤ Int.ofNat n ∧ Int.ofNat n ≤ 139) ∧ (1 ≤ Int.ofNat n → Int.ofNat n ≤ 139 → 0 ≤ tb_c.getD n (-1) ∨ tb_t.getD n 0 ≠ 0)
    by_cases hn : n < 140
    · have h := of_decide_eq_true (List.all_eq_true.mp sh_tab n (List.mem_range.mpr hn))
      obtain ⟨a1, a2, a3, a4, a5, a6⟩ := h
      refine ⟨a1, a2, a3, a4, fun h => ?_, fun h _ => a6 (by simp at h; omega)⟩
      have : n ≠ 0 := fun q => by
        obtain ⟨b1, b2⟩ := a5 q
        rw [b1, b2] at h
        omega
      simp; omega
    · obtain ⟨b1, b2, b3⟩ := sh_out n (by omega)
      rw [b1, b2, b3]
      refine ⟨by omega, by omega, by omega, by omega, fun h => by omega, fun _ h => by simp at h; omega⟩
section W
variable {D : va_G} {cy : Nat → ClassId} {base : Nat} {f f' : Int → Nat} {n n' : Int}
theorem cellR.mono {k : Int} {h : Int → Int} {e : va_E} (hc : cellR f n cy k h e) (hn : n ≤ n') (hf : ∀ k, okr n k → f' k = f k) : cellR f' n' cy k h e := by
  rcases hc with ⟨h1, fs, h2, h3, h4⟩ | h | h
  · exact Or.inl ⟨h1, fs, h2, h3, fun j hj => by obtain ⟨v, h5, h6⟩ := h4 j hj; exact ⟨v, h5, h6.mono hn hf⟩⟩
  · exact Or.inr (Or.inl h)
  · exact Or.inr (Or.inr h)
/-- a reference to a cell of a known shape is a place of the world -/
theorem wrl.cell {H : Hp} {Hm : Heap} {c : Int} (hw : wrl D cy base f H Hm) (ho : okr (H 0 0) c) (hs : 0 ≤ shc c ∨ sht c ≠ 0) :
    ∃ (N : Nat) (ws : va_W) (e : va_E), H 0 0 = N ∧ ws[c.toNat - 1]? = some (f c, e) ∧ cellR f (H 0 0) cy c (H c) e ∧ va_P D vwCl ws Hm ∧ va_D (aq base) ws ∧
      (∀ (e' : va_E) (g : Int → Int) (Hm' : Heap), cellR f (H 0 0) cy c g e' → va_P D vwCl (ws.set (c.toNat - 1) (f c, e')) Hm' → va_D (aq base) (ws.set (c.toNat - 1) (f c, e')) → wrl D cy base f (fun a => if a = c then g else H a) Hm') := by
  obtain ⟨N, ws, h1, h2, h3, h4, h5, h6, h7⟩ := hw
  have hr := (sh_all c).2.2.2.2.1 hs
  have hN : c ≤ N := by
    rw [h1] at ho
    unfold okr at ho
    omega
  obtain ⟨e, q1, q2⟩ := h4 (c.toNat - 1) (by omega)
  have ec : ((c.toNat - 1 : Nat) : Int) + 1 = c := by omega
  rw [ec] at q1 q2
  refine ⟨N, ws, e, h1, q1, by rw [h1]; exact q2, h5, h6, fun e' g Hm' hc hP hD => ?_⟩
  refine ⟨N, _, ?_, h2, by rw [List.length_set]; exact h3, fun k hk => ?_, hP, hD, fun k hk hk2 j => ?_⟩
  · show (if (0 : Int) = c then g else H 0) 0 = _
    rw [if_neg (by omega)]
    exact h1
  · by_cases e2 : k = c.toNat - 1
    · subst e2
      refine ⟨e', ?_, ?_⟩
      · rw [List.getElem?_set_self (by omega), ec]
      · show cellR f N cy (((c.toNat - 1 : Nat) : Int) + 1) (if (((c.toNat - 1 : Nat) : Int) + 1) = c then g else _) e'
        rw [ec, if_pos rfl, ← h1]
        exact hc
    · obtain ⟨e3, q3, q4⟩ := h4 k hk
      refine ⟨e3, ?_, ?_⟩
      · rw [List.getElem?_set_ne (by omega)]; exact q3
      · show cellR f N cy ((k : Int) + 1) (if ((k : Int) + 1) = c then g else _) e3
        rw [if_neg (by omega)]
        exact q4
  · show (if k = c then g else H k) j = 0
    rw [if_neg (by omega)]
    exact h7 k hk hk2 j
theorem hs_eq (H : Hp) (c j v : Int) : hs H c j v = fun a => if a = c then (fun b => if b = j then v else H c b) else H a := by
  funext a b
  unfold hs
  by_cases h1 : a = c
  · subst h1; simp
  · simp [h1]
theorem wrl.obj {H : Hp} {Hm : Heap} {c : Int} {ci : Nat} (hw : wrl D cy base f H Hm) (ho : okr (H 0 0) c) (hsc : shc c = ci) :
    ∃ (ws : va_W) (fs : List Value), ws[c.toNat - 1]? = some (f c, .inr (ci, fs)) ∧ fs.length = (clD ci).2.2 ∧ (∀ j : Nat, j < fs.length → ∃ v, fs[j]? = some v ∧ vrel f (H 0 0) (ftg ci j, H c j) v) ∧ va_P D vwCl ws Hm ∧ va_D (aq base) ws ∧
      (∀ (j : Nat) (x : Int) (v : Value) (Hm' : Heap), j < fs.length → vrel f (H 0 0) (ftg ci j, x) v → va_P D vwCl (ws.set (c.toNat - 1) (f c, .inr (ci, fs.set j v))) Hm' → va_D (aq base) (ws.set (c.toNat - 1) (f c, .inr (ci, fs.set j v))) → wrl D cy base f (hs H c j x) Hm') := by
  obtain ⟨N, ws, e, h1, h2, h3, h4, h5, h6⟩ := hw.cell ho (Or.inl (by omega))
  have hx := (sh_all c).2.1
  rcases h3 with ⟨g1, fs, rfl, g2, g3⟩ | ⟨g1, -⟩ | ⟨g1, -⟩
  · have e1 : (shc c).toNat = ci := by omega
    rw [e1] at h2 g2 g3
    refine ⟨ws, fs, h2, g2, g3, h4, h5, fun j x v Hm' hj hv hP hD => ?_⟩
    rw [hs_eq]
    refine h6 _ _ _ (Or.inl ⟨g1, fs.set j v, by rw [e1], by rw [List.length_set, e1]; exact g2, fun j2 hj2 => ?_⟩) hP hD
    rw [e1]
    rw [List.length_set] at hj2
    by_cases e2 : j2 = j
    · subst e2
      exact ⟨v, by rw [List.getElem?_set_self hj], by simpa using hv⟩
    · obtain ⟨w, q1, q2⟩ := g3 j2 hj2
      refine ⟨w, by rw [List.getElem?_set_ne (Ne.symm e2)]; exact q1, ?_⟩
      have e3 : ¬ (j2 : Int) = (j : Int) := by omega
      simpa [e3] using q2
  · omega
  · omega
theorem wrl.arr {H : Hp} {Hm : Heap} {c : Int} {t : Nat} (hw : wrl D cy base f H Hm) (ho : okr (H 0 0) c) (hs : sht c = t) (ht : t = 1 ∨ t = 3 ∨ t = 4) :
    ∃ (ws : va_W) (g : Nat → Int32), ws[c.toNat - 1]? = some (f c, .inl (cy t, (shl c).toNat, .inl g)) ∧ (∀ j : Nat, (j : Int) < shl c → (g j).toInt = H c j) ∧ va_P D vwCl ws Hm ∧ va_D (aq base) ws ∧
      (∀ (g' : Nat → Int32) (h' : Int → Int) (Hm' : Heap), (∀ j : Nat, (j : Int) < shl c → (g' j).toInt = h' j) → va_P D vwCl (ws.set (c.toNat - 1) (f c, .inl (cy t, (shl c).toNat, .inl g'))) Hm' → va_D (aq base) (ws.set (c.toNat - 1) (f c, .inl (cy t, (shl c).toNat, .inl g'))) → wrl D cy base f (fun a => if a = c then h' else H a) Hm') := by
  obtain ⟨N, ws, e, h1, h2, h3, h4, h5, h6⟩ := hw.cell ho (Or.inr (by omega))
  have hx := (sh_all c).2.1
  rcases h3 with ⟨g1, -⟩ | ⟨g1, g, rfl, g2⟩ | ⟨g1, -⟩
  · exact absurd ⟨g1, by omega⟩ hx
  · have e1 : (sht c).toNat = t := by omega
    rw [e1] at h2
    exact ⟨ws, g, h2, g2, h4, h5, fun g' h' Hm' hg hP hD => h6 _ _ _ (Or.inr (Or.inl ⟨g1, g', by rw [e1], hg⟩)) hP hD⟩
  · omega
theorem wrl.arrL {H : Hp} {Hm : Heap} {c : Int} (hw : wrl D cy base f H Hm) (ho : okr (H 0 0) c) (hs : sht c = 2) :
    ∃ (ws : va_W) (g : Nat → Int64), ws[c.toNat - 1]? = some (f c, .inl (cy 2, (shl c).toNat, .inr (.inl g))) ∧ (∀ j : Nat, (j : Int) < shl c → (g j).toInt = H c j) ∧ va_P D vwCl ws Hm ∧ va_D (aq base) ws ∧
      (∀ (g' : Nat → Int64) (h' : Int → Int) (Hm' : Heap), (∀ j : Nat, (j : Int) < shl c → (g' j).toInt = h' j) → va_P D vwCl (ws.set (c.toNat - 1) (f c, .inl (cy 2, (shl c).toNat, .inr (.inl g')))) Hm' → va_D (aq base) (ws.set (c.toNat - 1) (f c, .inl (cy 2, (shl c).toNat, .inr (.inl g')))) → wrl D cy base f (fun a => if a = c then h' else H a) Hm') := by
  obtain ⟨N, ws, e, h1, h2, h3, h4, h5, h6⟩ := hw.cell ho (Or.inr (by omega))
  have hx := (sh_all c).2.1
  rcases h3 with ⟨g1, -⟩ | ⟨g1, -⟩ | ⟨g1, g, rfl, g2⟩
  · exact absurd ⟨g1, by omega⟩ hx
  · omega
  · exact ⟨ws, g, h2, g2, h4, h5, fun g' h' Hm' hg hP hD => h6 _ _ _ (Or.inr (Or.inr ⟨g1, g', rfl, hg⟩)) hP hD⟩
/-- a cell is made -/
theorem wrl.push {H : Hp} {Hm Hm' : Heap} {q : Nat} {e : va_E} (hw : ∃ (N : Nat) (ws : va_W), H 0 0 = N ∧ N + 1 ≤ 139 ∧ ws.length = N ∧ (∀ k : Nat, k < N → ∃ e, ws[k]? = some (f (k + 1), e) ∧ cellR f N cy (k + 1) (H (k + 1)) e) ∧ va_P D vwCl (ws ++ [(q, e)]) Hm' ∧ va_D (aq base) (ws ++ [(q, e)]) ∧ ∀ k : Int, N < k → k ≤ 139 → ∀ j, H k j = 0)
    (he : ∀ g, cellR g (H 0 0 + 1) cy (H 0 0 + 1) (fun _ => 0) e) :
    ∃ f' : Int → Nat, (∀ k, okr (H 0 0) k → f' k = f k) ∧ f' (H 0 0 + 1) = q ∧ wrl D cy base f' (hs H 0 0 (H 0 0 + 1)) Hm' := by
  obtain ⟨N, ws, h1, h2, h3, h4, h5, h6, h7⟩ := hw
  have hag : ∀ k, okr (H 0 0) k → (fun k => if k = H 0 0 + 1 then q else f k) k = f k := fun k hk => by
    show (if k = H 0 0 + 1 then q else f k) = f k
    rw [if_neg]
    unfold okr at hk
    omega
  refine ⟨fun k => if k = H 0 0 + 1 then q else f k, hag, if_pos rfl, N + 1, ws ++ [(q, e)], ?_, h2, by simp [h3], fun k hk => ?_, h5, h6, fun k hk hk2 j => ?_⟩
  · rw [hs_same, h1]; simp
  · have hH : hs H 0 0 (H 0 0 + 1) ((k : Int) + 1) = H ((k : Int) + 1) := by
      funext j
      rw [hs_app, if_neg (by omega)]
    rw [hH]
    by_cases e2 : k < N
    · obtain ⟨e3, q3, q4⟩ := h4 k e2
      refine ⟨e3, ?_, ?_⟩
      · rw [List.getElem?_append_left (by omega), q3]
        have : ¬ ((k : Int) + 1 = H 0 0 + 1) := by omega
        simp [this]
      · exact q4.mono (by omega) (fun k hk => hag k (by rw [h1]; exact hk))
    · have e4 : k = N := by omega
      subst e4
      refine ⟨e, ?_, ?_⟩
      · rw [List.getElem?_append_right (by omega), h3, Nat.sub_self]
        simp [h1]
      · have hz : H ((k : Int) + 1) = fun _ => 0 := by
          funext j
          exact h7 _ (by omega) (by omega) j
        rw [hz]
        have := he (fun k => if k = H 0 0 + 1 then q else f k)
        rw [h1] at this ⊢
        simpa using this
  · rw [hs_app, if_neg (by omega)]
    exact h7 k (by omega) hk2 j
end W
end
section
/-! THE SIMULATION, third part: one instruction that neither jumps nor calls -/
section SIM
variable {p : Program} {l : Launch} {e : Env} {R : Room} {s : State} {mid : MethodId} {args : Array Value} {below : List Frame} {meth : Method} {c : Code} {Q : State → Prop}
variable {D : va_G} {cy : Nat → ClassId} {b : Nat → Nat} {base L : Nat} {xs : Nat → Int32} {m : Nat}
def lnS : List Nat := [86, 85]
def byS : List (List Int32) := [[115, 101, 97, 116, 32, 97, 114, 109, 32, 114, 111, 119, 101, 114, 32, 115, 116, 114, 101, 110, 103, 116, 104, 32, 116, 105, 114, 101, 115, 32, 101, 97, 99, 104, 32, 102, 105, 120, 32, 108, 101, 102, 116, 32, 114, 105, 103, 104, 116, 32, 119, 97, 110, 116, 32, 105, 115, 32, 110, 101, 97, 114, 32, 114, 117, 110, 32, 112, 111, 119, 101, 114, 32, 115, 119, 117, 110, 103, 32, 112, 97, 121, 32, 111, 110, 32], [102, 105, 114, 115, 116, 32, 108, 97, 115, 116, 32, 111, 102, 116, 101, 110, 32, 116, 111, 116, 97, 108, 32, 109, 111, 115, 116, 32, 108, 101, 97, 115, 116, 32, 111, 114, 32, 97, 110, 100, 32, 110, 111, 116, 32, 97, 108, 108, 32, 115, 116, 114, 111, 107, 101, 32, 111, 102, 102, 32, 103, 111, 111, 100, 32, 115, 119, 105, 110, 103, 32, 102, 111, 114, 99, 101, 32, 109, 105, 110, 32, 109, 97, 120, 32]]
def tx0 : String := "seat arm rower strength tires each fix left right want is near run power swung pay on "
def tx1 : String := "first last often total most least or and not all stroke off good swing force min max "
/-- what stays as it was at the start: the constants' texts, links of nest mates, statics -/
def stf (b : Nat → Nat) (base : Nat) (U : State) (Hm : Heap) : Prop := (∃ adK adV : Nat → Nat, vk_S 2 lnS byS adK adV (aq base) U Hm ∧ adK 0 = b 1 ∧ adK 1 = b 2) ∧ (vk_R (cn 0) 44 tx0 (b 1) U ∧ vk_R (cn 7) 49 tx1 (b 2) U) ∧ (∀ q ∈ ML, q.2.2.2 = 3 → va_Nw (mlW q) U) ∧ va_Z "java/lang/String" "COMPACT_STRINGS" "Z" (.int 1) (aq base) U Hm ∧ ∃ t : Value, (t = .null ∨ ∃ q : Nat, t = .ref q) ∧ va_Z "jdk/internal/util/Preconditions" "SIOOBE_FORMATTER" "Ljava/util/function/BiFunction;" t (aq base) U Hm
theorem stf.warm {b : Nat → Nat} {base : Nat} {s U : State} {Hm Hm' : Heap} (h : stf b base s Hm) (hW : s.WarmedH U.vm) (hq : ∀ a : Nat, a < Hm.size → ¬ aq base a → Hm'[a]? = Hm[a]?) : stf b base U Hm' := by
  obtain ⟨⟨adK, adV, h1, h2⟩, ⟨h3, h4⟩, h5, h6, t, ht, h7⟩ := h
  refine ⟨⟨adK, adV, (h1.moved hW.alike).kept hq, h2⟩, ⟨h3.warm hW, h4.warm hW⟩, fun q hm hk => ?_, (h6.moved hW.alike).kept hq, t, ht, (h7.moved hW.alike).kept hq⟩
  have := h5 q hm hk
  unfold mlW at this ⊢
  rw [hk] at this ⊢
  exact va_Nw.warmM hW this
theorem stf.same {b : Nat → Nat} {base : Nat} {s U : State} {Hm : Heap} (h : stf b base s Hm) (hv : U.vm = s.vm) : stf b base U Hm := by
  obtain ⟨⟨adK, adV, h1, h2⟩, ⟨h3, h4⟩, h5, h6, t, ht, h7⟩ := h
  have hal : s.vm.Alike U.vm := by rw [hv]; exact Vm.Alike.refl _
  refine ⟨⟨adK, adV, h1.moved hal, h2⟩, ⟨h3.same hv, h4.same hv⟩, fun q hm hk => ?_, h6.moved hal, t, ht, h7.moved hal⟩
  have := h5 q hm hk
  unfold mlW at this ⊢
  rw [hk] at this ⊢
  exact va_Nw.same rfl hv.symm this
/-- what a frame of method m stands on -/
def frm (p : Program) (s : State) (mid : MethodId) (args : Array Value) (meth : Method) (c : Code) (D : va_G) (cy : Nat → ClassId) (base : Nat) (b : Nat → Nat) (L : Nat) (xs : Nat → Int32) (m : Nat) : Prop :=
  p.tables.exec = Jvm.exec ∧ c.code = bM m ∧ c.maxLocals = mxl m ∧ s.vm.findClass (cn (on m)) = some mid.cls ∧ ((yM m).name = "<init>" → meth.name = "<init>") ∧ (∀ w ∈ lw_g, w.before args s = true) ∧ va_K D vwCl (tys4 cy) s ∧ va_X (b 0) L xs s s.heap ∧ b 0 < base ∧ base ≤ s.heap.size ∧ stf b base s s.heap
/-- how far on the machine is: the abstract state, held -/
def held (s : State) (D : va_G) (cy : Nat → ClassId) (base : Nat) (b : Nat → Nat) (L : Nat) (xs : Nat → Int32) (m : Nat) (f : Int → Nat) (ls st : List AV) (H : Hp) (la : Array Slot) (sv : List Value) (Hm : Heap) (locs : List Loc) : Prop :=
  lrel f (H 0 0) ls la ∧ srel f (H 0 0) st sv ∧ wrl D cy base f H Hm ∧ va_S (aq base) s.heap Hm locs ∧ ls.length = mxl m ∧ (f 999 = b 0 ∧ f 901 = b 1 ∧ f 902 = b 2) ∧ H 0 1 = L ∧ (∀ j : Nat, j < L → H 999 j = (xs j).toInt) ∧ L < 100000
def szc (k : Int) : Nat := if 0 ≤ shc k then (clD (shc k).toNat).2.2 else (shl k).toNat
def szs : Nat → Nat
  | 0 => 0
  | n + 1 => szs n + szc (n + 1)
/-- the step of one instruction -/
def stp1 (p : Program) (l : Launch) (e : Env) (R : Room) (s : State) (mid : MethodId) (args : Array Value) (below : List Frame) (meth : Method) (c : Code) (Q : State → Prop) (D : va_G) (cy : Nat → ClassId) (base : Nat) (b : Nat → Nat) (L : Nat) (xs : Nat → Int32) (m pc pc' : Nat) (ls st : List AV) (H : Hp) (ls' st' : List AV) (H' : Hp) : Prop :=
  ∀ (f : Int → Nat) (la : Array Slot) (sv : List Value) (Hm : Heap) (locs : List Loc) (cells slots : Nat), held s D cy base b L xs m f ls st H la sv Hm locs → cells + ((H' 0 0).toNat - (H 0 0).toNat) ≤ R.cells → slots + (szs (H' 0 0).toNat - szs (H 0 0).toNat) ≤ R.slots →
  (∀ (f' : Int → Nat) (la' : Array Slot) (sv' : List Value) (Hm' : Heap) (locs' : List Loc), (∀ k, okr (H 0 0) k → f' k = f k) → held s D cy base b L xs m f' ls' st' H' la' sv' Hm' locs' → W p l e R s mid args below meth c Hm' locs' (cells + ((H' 0 0).toNat - (H 0 0).toNat)) (slots + (szs (H' 0 0).toNat - szs (H 0 0).toNat)) Q (F0 mid pc' la' sv')) →
  W p l e R s mid args below meth c Hm locs cells slots Q (F0 mid pc la sv)
/-- an instruction that leaves the heap -/
theorem stp1.pure {pc pc' : Nat} {ls st ls' st' : List AV} {H : Hp} (hlen : ls'.length = ls.length)
    (h : ∀ (f : Int → Nat) (la : Array Slot) (sv : List Value) (Hm : Heap) (locs : List Loc) (cells slots : Nat), held s D cy base b L xs m f ls st H la sv Hm locs →
      (∀ (la' : Array Slot) (sv' : List Value), lrel f (H 0 0) ls' la' → srel f (H 0 0) st' sv' → W p l e R s mid args below meth c Hm locs cells slots Q (F0 mid pc' la' sv')) → W p l e R s mid args below meth c Hm locs cells slots Q (F0 mid pc la sv)) :
    stp1 p l e R s mid args below meth c Q D cy base b L xs m pc pc' ls st H ls' st' H := by
  intro f la sv Hm locs cells slots hh _ _ kk
  refine h f la sv Hm locs cells slots hh fun la' sv' hl hs => ?_
  obtain ⟨-, -, h3, h4, h5, h6⟩ := hh
  have := kk f la' sv' Hm locs (fun _ _ => rfl) ⟨hl, hs, h3, h4, by rw [hlen]; exact h5, h6⟩
  simpa using this
/-- an instruction that writes one cell -/
theorem stp1.wr {pc pc' : Nat} {ls st st' : List AV} {H H' : Hp} (h0 : H' 0 = H 0) (h9 : H' 999 = H 999)
    (h : ∀ (f : Int → Nat) (la : Array Slot) (sv : List Value) (Hm : Heap) (locs : List Loc) (cells slots : Nat), held s D cy base b L xs m f ls st H la sv Hm locs →
      (∀ (sv' : List Value) (Hm' : Heap) (locs' : List Loc), srel f (H 0 0) st' sv' → wrl D cy base f H' Hm' → va_S (aq base) s.heap Hm' locs' → W p l e R s mid args below meth c Hm' locs' cells slots Q (F0 mid pc' la sv')) → W p l e R s mid args below meth c Hm locs cells slots Q (F0 mid pc la sv)) :
    stp1 p l e R s mid args below meth c Q D cy base b L xs m pc pc' ls st H ls st' H' := by
  intro f la sv Hm locs cells slots hh _ _ kk
  have h00 : H' 0 0 = H 0 0 := by rw [h0]
  refine h f la sv Hm locs cells slots hh fun sv' Hm' locs' hs hw hS => ?_
  obtain ⟨h1, -, -, -, h5, h6, h7, h8, h10⟩ := hh
  have := kk f la sv' Hm' locs' (fun _ _ => rfl) ⟨by rw [h00]; exact h1, by rw [h00]; exact hs, hw, hS, h5, h6, by rw [h0]; exact h7, fun j hj => by rw [h9]; exact h8 j hj, h10⟩
  rw [h00] at this
  simpa using this
/-- a number on the stack -/
theorem srel.i {f : Int → Nat} {n : Int} {st : List AV} {sv : List Value} {x : Int32} {z : Int} (h : srel f n st sv) (hx : x.toInt = z) : srel f n ((0, z) :: st) (.int x :: sv) := ⟨vrel_i.mpr ⟨x, rfl, hx⟩, h⟩
theorem srel.j {f : Int → Nat} {n : Int} {st : List AV} {sv : List Value} {x : Int64} {z : Int} (h : srel f n st sv) (hx : x.toInt = z) : srel f n ((1, z) :: st) (.long x :: sv) := ⟨vrel_l.mpr ⟨x, rfl, hx⟩, h⟩
theorem srel.a {f : Int → Nat} {n : Int} {st : List AV} {sv : List Value} {v : Value} {z : Int} (h : srel f n st sv) (hv : vrel f n (2, z) v) : srel f n ((2, z) :: st) (v :: sv) := ⟨hv, h⟩
section ONE
variable {pc pc' len k : Nat} {z : Int} {tb : List (Int × Nat)} {o : JI} {ls st ls' st' : List AV} {H H' : Hp}
theorem sim_1 (F : frm p s mid args meth c D cy base b L xs m) (hd : decode (bM m) pc = .ok (o, len)) (hc : ck1 m pc (1, k, z, tb) o len = some pc') : stp1 p l e R s mid args below meth c Q D cy base b L xs m pc pc' ls st H ls (vi z :: st) H := by
  obtain ⟨hx, hb, -, hown, -, hts, -⟩ := F
  refine stp1.pure rfl fun f la sv Hm locs cells slots hh kk => ?_
  obtain ⟨hl, hs, -⟩ := hh
  replace hc : ck_1 m pc (1, k, z, tb) o len = some pc' := hc
  unfold ck_1 at hc
  dsimp only at hc
  split at hc
  · obtain ⟨h, rfl⟩ := opg_s hc
    simp only [Bool.and_eq_true, decide_eq_true_eq] at h
    obtain ⟨rfl, rfl, h3⟩ := h
    exact lv_iconst hx hb hd rfl (kk _ _ hl (hs.i (toInt_ofInt32 h3)))
  · obtain ⟨h, rfl⟩ := opg_s hc
    simp only [Bool.and_eq_true, decide_eq_true_eq] at h
    obtain ⟨rfl, rfl, h3⟩ := h
    refine lv_bipush hx hb hd rfl (kk _ _ hl (hs.i ?_))
    rw [Int8.toInt_toInt32, Int8.toInt_ofInt, show Int8.size = 256 from rfl, Int.bmod_def]
    split <;> omega
  · obtain ⟨h, rfl⟩ := opg_s hc
    simp only [Bool.and_eq_true, decide_eq_true_eq] at h
    obtain ⟨rfl, rfl, h3⟩ := h
    refine lv_sipush hx hb hd rfl (kk _ _ hl (hs.i ?_))
    rw [Int16.toInt_toInt32, Int16.toInt_ofInt, show Int16.size = 65536 from rfl, Int.bmod_def]
    split <;> omega
  · obtain ⟨h, rfl⟩ := opg_s hc
    simp only [Bool.and_eq_true, decide_eq_true_eq] at h
    obtain ⟨rfl, h2, h3⟩ := h
    have hq := KI_ok _ (List.contains_iff_mem.mp h2)
    exact lv_ldc hx hb hown (hts _ (mem_g hq rfl)) hd (kk _ _ hl (hs.i (toInt_ofInt32 h3)))
  · obtain ⟨h, rfl⟩ := opg_s hc
    simp only [Bool.and_eq_true, decide_eq_true_eq] at h
    obtain ⟨rfl, h2, h3⟩ := h
    have hq := KI_ok _ (List.contains_iff_mem.mp h2)
    exact lv_ldcw hx hb hown (hts _ (mem_g hq rfl)) hd (kk _ _ hl (hs.i (toInt_ofInt32 h3)))
  · cases hc
theorem sim_2 (F : frm p s mid args meth c D cy base b L xs m) (hd : decode (bM m) pc = .ok (o, len)) (hc : ck1 m pc (2, k, z, tb) o len = some pc') : stp1 p l e R s mid args below meth c Q D cy base b L xs m pc pc' ls st H ls (vl z :: st) H := by
  obtain ⟨hx, hb, -, hown, -, hts, -⟩ := F
  refine stp1.pure rfl fun f la sv Hm locs cells slots hh kk => ?_
  obtain ⟨hl, hs, -⟩ := hh
  replace hc : ck_2 m pc (2, k, z, tb) o len = some pc' := hc
  unfold ck_2 at hc
  dsimp only at hc
  split at hc
  · rename_i x
    obtain ⟨h, rfl⟩ := opg_s hc
    simp only [Bool.and_eq_true, decide_eq_true_eq] at h
    obtain ⟨rfl, rfl⟩ := h
    refine lv_lconst hx hb hd rfl (kk _ _ hl (hs.j ?_))
    have : (x : Nat) < 2 := x.isLt
    rw [Int64.toInt_ofNat_of_lt (by omega)]
  · obtain ⟨h, rfl⟩ := opg_s hc
    simp only [Bool.and_eq_true, decide_eq_true_eq] at h
    obtain ⟨rfl, h2, h3⟩ := h
    have hq := KL_ok _ (List.contains_iff_mem.mp h2)
    exact lv_ldc2 hx hb hown (hts _ (mem_g hq rfl)) hd (kk _ _ hl (hs.j (toInt_ofInt64 h3)))
  · cases hc
theorem sim_3 {x : Int} (F : frm p s mid args meth c D cy base b L xs m) (hd : decode (bM m) pc = .ok (o, len)) (hc : ck1 m pc (3, k, z, tb) o len = some pc') (hg : lget ls k = (0, x)) : stp1 p l e R s mid args below meth c Q D cy base b L xs m pc pc' ls st H ls (vi x :: st) H := by
  obtain ⟨hx, hb, -⟩ := F
  refine stp1.pure rfl fun f la sv Hm locs cells slots hh kk => ?_
  obtain ⟨hl, hs, -⟩ := hh
  obtain ⟨v, q1, q2⟩ := hl.at hg (by simp)
  obtain ⟨y, rfl, hy⟩ := vrel_i.mp q2
  replace hc : ck_3 m pc (3, k, z, tb) o len = some pc' := hc
  unfold ck_3 at hc
  dsimp only at hc
  split at hc
  · obtain ⟨h, rfl⟩ := opg_s hc
    simp only [Bool.and_eq_true, decide_eq_true_eq] at h
    obtain ⟨rfl, h2⟩ := h
    exact lv_iload_n hx hb hd h2 q1 (kk _ _ hl (hs.i hy))
  · obtain ⟨h, rfl⟩ := opg_s hc
    simp only [Bool.and_eq_true, decide_eq_true_eq] at h
    obtain ⟨rfl, rfl⟩ := h
    exact lv_iload hx hb hd q1 (kk _ _ hl (hs.i hy))
  · cases hc
theorem sim_53 {x : Int} (F : frm p s mid args meth c D cy base b L xs m) (hd : decode (bM m) pc = .ok (o, len)) (hc : ck1 m pc (53, k, z, tb) o len = some pc') (hg : lget ls k = (1, x)) : stp1 p l e R s mid args below meth c Q D cy base b L xs m pc pc' ls st H ls (vl x :: st) H := by
  obtain ⟨hx, hb, -⟩ := F
  refine stp1.pure rfl fun f la sv Hm locs cells slots hh kk => ?_
  obtain ⟨hl, hs, -⟩ := hh
  obtain ⟨v, q1, q2⟩ := hl.at hg (by simp)
  obtain ⟨y, rfl, hy⟩ := vrel_l.mp q2
  replace hc : ck_53 m pc (53, k, z, tb) o len = some pc' := hc
  unfold ck_53 at hc
  dsimp only at hc
  split at hc
  · obtain ⟨h, rfl⟩ := opg_s hc
    simp only [Bool.and_eq_true, decide_eq_true_eq] at h
    obtain ⟨rfl, h2⟩ := h
    exact lv_lload_n hx hb hd h2 q1 (kk _ _ hl (hs.j hy))
  · obtain ⟨h, rfl⟩ := opg_s hc
    simp only [Bool.and_eq_true, decide_eq_true_eq] at h
    obtain ⟨rfl, rfl⟩ := h
    exact lv_lload hx hb hd q1 (kk _ _ hl (hs.j hy))
  · cases hc
theorem sim_54 {x : Int} (F : frm p s mid args meth c D cy base b L xs m) (hd : decode (bM m) pc = .ok (o, len)) (hc : ck1 m pc (54, k, z, tb) o len = some pc') (hg : lget ls k = (2, x)) : stp1 p l e R s mid args below meth c Q D cy base b L xs m pc pc' ls st H ls (va x :: st) H := by
  obtain ⟨hx, hb, -⟩ := F
  refine stp1.pure rfl fun f la sv Hm locs cells slots hh kk => ?_
  obtain ⟨hl, hs, -⟩ := hh
  obtain ⟨v, q1, q2⟩ := hl.at hg (by simp)
  replace hc : ck_54 m pc (54, k, z, tb) o len = some pc' := hc
  unfold ck_54 at hc
  dsimp only at hc
  split at hc
  · obtain ⟨h, rfl⟩ := opg_s hc
    simp only [Bool.and_eq_true, decide_eq_true_eq] at h
    obtain ⟨rfl, h2⟩ := h
    rcases vrel_a.mp q2 with ⟨h3, rfl⟩ | ⟨h3, rfl⟩
    · exact lv_aload_nN hx hb hd h2 q1 (kk _ _ hl (hs.a q2))
    · exact lv_aload_n hx hb hd h2 q1 (kk _ _ hl (hs.a q2))
  · obtain ⟨h, rfl⟩ := opg_s hc
    simp only [Bool.and_eq_true, decide_eq_true_eq] at h
    obtain ⟨rfl, rfl⟩ := h
    rcases vrel_a.mp q2 with ⟨h3, rfl⟩ | ⟨h3, rfl⟩
    · exact lv_aloadN hx hb hd q1 (kk _ _ hl (hs.a q2))
    · exact lv_aload hx hb hd q1 (kk _ _ hl (hs.a q2))
  · cases hc
theorem sim_4 {x : Int} (F : frm p s mid args meth c D cy base b L xs m) (hd : decode (bM m) pc = .ok (o, len)) (hc : ck1 m pc (4, k, z, tb) o len = some pc') (hg : k < ls.length) : stp1 p l e R s mid args below meth c Q D cy base b L xs m pc pc' ls ((0, x) :: st) H (lst1 ls k (vi x)) st H := by
  obtain ⟨hx, hb, -⟩ := F
  refine stp1.pure (length_lst1 _ _ _) fun f la sv Hm locs cells slots hh kk => ?_
  obtain ⟨hl, hs, -⟩ := hh
  replace hs := srel_i hs
  obtain ⟨y, sv', rfl, hy, hs⟩ := hs
  obtain ⟨lv, g1, g2⟩ := hl
  have hv : vrel f (H 0 0) (vi x) (.int y) := vrel_i.mpr ⟨y, rfl, hy⟩
  replace hc : ck_4 m pc (4, k, z, tb) o len = some pc' := hc
  unfold ck_4 at hc
  dsimp only at hc
  split at hc
  · obtain ⟨h, rfl⟩ := opg_s hc
    simp only [Bool.and_eq_true, decide_eq_true_eq] at h
    obtain ⟨rfl, h2⟩ := h
    exact lv_istore_n hx hb hd h2 g1 hg rfl fun la' hla => kk _ _ (lrel.st1 g2 hg hv hla) hs
  · obtain ⟨h, rfl⟩ := opg_s hc
    simp only [Bool.and_eq_true, decide_eq_true_eq] at h
    obtain ⟨rfl, rfl⟩ := h
    exact lv_istore hx hb hd g1 hg rfl fun la' hla => kk _ _ (lrel.st1 g2 hg hv hla) hs
  · cases hc
theorem sim_55 {x : Int} (F : frm p s mid args meth c D cy base b L xs m) (hd : decode (bM m) pc = .ok (o, len)) (hc : ck1 m pc (55, k, z, tb) o len = some pc') (hg : k < ls.length) : stp1 p l e R s mid args below meth c Q D cy base b L xs m pc pc' ls ((2, x) :: st) H (lst1 ls k (va x)) st H := by
  obtain ⟨hx, hb, -⟩ := F
  refine stp1.pure (length_lst1 _ _ _) fun f la sv Hm locs cells slots hh kk => ?_
  obtain ⟨hl, hs, -⟩ := hh
  replace hs := srel_cons hs
  obtain ⟨v, sv', rfl, hv, hs⟩ := hs
  obtain ⟨lv, g1, g2⟩ := hl
  replace hc : ck_55 m pc (55, k, z, tb) o len = some pc' := hc
  unfold ck_55 at hc
  dsimp only at hc
  split at hc
  · obtain ⟨h, rfl⟩ := opg_s hc
    simp only [Bool.and_eq_true, decide_eq_true_eq] at h
    obtain ⟨rfl, h2⟩ := h
    rcases vrel_a.mp hv with ⟨h3, rfl⟩ | ⟨h3, rfl⟩
    · exact lv_astore_nN hx hb hd h2 g1 hg rfl fun la' hla => kk _ _ (lrel.st1 g2 hg hv hla) hs
    · exact lv_astore_n hx hb hd h2 g1 hg rfl fun la' hla => kk _ _ (lrel.st1 g2 hg hv hla) hs
  · obtain ⟨h, rfl⟩ := opg_s hc
    simp only [Bool.and_eq_true, decide_eq_true_eq] at h
    obtain ⟨rfl, rfl⟩ := h
    rcases vrel_a.mp hv with ⟨h3, rfl⟩ | ⟨h3, rfl⟩
    · exact lv_astoreN hx hb hd g1 hg rfl fun la' hla => kk _ _ (lrel.st1 g2 hg hv hla) hs
    · exact lv_astore hx hb hd g1 hg rfl fun la' hla => kk _ _ (lrel.st1 g2 hg hv hla) hs
  · cases hc
theorem sim_5 {x : Int} (F : frm p s mid args meth c D cy base b L xs m) (hd : decode (bM m) pc = .ok (o, len)) (hc : ck1 m pc (5, k, z, tb) o len = some pc') (hg : k + 1 < ls.length) : stp1 p l e R s mid args below meth c Q D cy base b L xs m pc pc' ls ((1, x) :: st) H (lst2 ls k (vl x)) st H := by
  obtain ⟨hx, hb, -⟩ := F
  refine stp1.pure (length_lst2 _ _ _ hg) fun f la sv Hm locs cells slots hh kk => ?_
  obtain ⟨hl, hs, -⟩ := hh
  replace hs := srel_l hs
  obtain ⟨y, sv', rfl, hy, hs⟩ := hs
  obtain ⟨lv, g1, g2⟩ := hl
  have hv : vrel f (H 0 0) (vl x) (.long y) := vrel_l.mpr ⟨y, rfl, hy⟩
  replace hc : ck_5 m pc (5, k, z, tb) o len = some pc' := hc
  unfold ck_5 at hc
  dsimp only at hc
  split at hc
  · obtain ⟨h, rfl⟩ := opg_s hc
    simp only [Bool.and_eq_true, decide_eq_true_eq] at h
    obtain ⟨rfl, h2⟩ := h
    exact lv_lstore_n hx hb hd h2 g1 hg rfl fun la' hla => kk _ _ (lrel.st2 g2 hg hv hla) hs
  · obtain ⟨h, rfl⟩ := opg_s hc
    simp only [Bool.and_eq_true, decide_eq_true_eq] at h
    obtain ⟨rfl, rfl⟩ := h
    exact lv_lstore hx hb hd g1 hg rfl fun la' hla => kk _ _ (lrel.st2 g2 hg hv hla) hs
  · cases hc
theorem sim_6 {x : Int} (F : frm p s mid args meth c D cy base b L xs m) (hd : decode (bM m) pc = .ok (o, len)) (hc : ck1 m pc (6, k, z, tb) o len = some pc') (hg : lget ls k = (0, x)) (hk : k < ls.length) : stp1 p l e R s mid args below meth c Q D cy base b L xs m pc pc' ls st H (lst1 ls k (vi (w32 (x + z)))) st H := by
  obtain ⟨hx, hb, -⟩ := F
  refine stp1.pure (length_lst1 _ _ _) fun f la sv Hm locs cells slots hh kk => ?_
  obtain ⟨hl, hs, -⟩ := hh
  obtain ⟨lv, g1, g2⟩ := hl
  obtain ⟨v, q1, q2⟩ := g2 k (by rw [hg]; simp)
  rw [hg] at q2
  obtain ⟨y, rfl, hy⟩ := vrel_i.mp q2
  obtain ⟨n, hn⟩ := List.getElem?_of_mem q1
  replace hc : ck_6 m pc (6, k, z, tb) o len = some pc' := hc
  unfold ck_6 at hc
  dsimp only at hc
  split at hc
  · obtain ⟨h, rfl⟩ := opg_s hc
    simp only [Bool.and_eq_true, decide_eq_true_eq] at h
    obtain ⟨rfl, rfl, h4, h3⟩ := h
    rw [h4] at hd h3
    have hv : vrel f (H 0 0) (vi (w32 (x + z))) (.int (y + Int32.ofInt z)) := vrel_i.mpr ⟨_, rfl, by rw [opi_add, toInt_ofInt32 h3, hy]⟩
    exact lv_iinc hx hb hd g1 hn rfl hk rfl fun la' hla => kk _ _ (lrel.st1 g2 hk hv hla) hs
  · cases hc
theorem sim_7 {x y : Int} (F : frm p s mid args meth c D cy base b L xs m) (hd : decode (bM m) pc = .ok (o, len)) (hc : ck1 m pc (7, k, z, tb) o len = some pc') : stp1 p l e R s mid args below meth c Q D cy base b L xs m pc pc' ls ((0, y) :: (0, x) :: st) H ls (vi (am_bi k x y) :: st) H := by
  obtain ⟨hx, hb, -⟩ := F
  refine stp1.pure rfl fun f la sv Hm locs cells slots hh kk => ?_
  obtain ⟨hl, hs, -⟩ := hh
  replace hs := srel_i hs
  obtain ⟨y', sv', rfl, rfl, hs⟩ := hs
  replace hs := srel_i hs
  obtain ⟨x', sv', rfl, rfl, hs⟩ := hs
  replace hc : ck_7 m pc (7, k, z, tb) o len = some pc' := hc
  unfold ck_7 at hc
  dsimp only at hc
  obtain ⟨h, rfl⟩ := opg_s hc
  simp only [Bool.and_eq_true, decide_eq_true_eq] at h
  obtain ⟨⟨rfl, h2⟩, h3⟩ := h
  match k, h3, h2 with
  | 0, _, h2 => subst h2; exact lv_iadd hx hb hd (kk _ _ hl (hs.i (opi_add _ _)))
  | 1, _, h2 => subst h2; exact lv_isub hx hb hd (kk _ _ hl (hs.i (opi_sub _ _)))
  | 2, _, h2 => subst h2; exact lv_imul hx hb hd (kk _ _ hl (hs.i (opi_mul _ _)))
  | 3, _, h2 => subst h2; exact lv_iand hx hb hd (kk _ _ hl (hs.i (by show _ = b_and _ _; unfold b_and; rw [i32_of, i32_of])))
  | 4, _, h2 => subst h2; exact lv_ior hx hb hd (kk _ _ hl (hs.i (by show _ = b_or _ _; unfold b_or; rw [i32_of, i32_of])))
  | 5, _, h2 => subst h2; exact lv_ixor hx hb hd (kk _ _ hl (hs.i (by show _ = b_xor _ _; unfold b_xor; rw [i32_of, i32_of])))
  | 6, _, h2 => subst h2; exact lv_ishl hx hb hd (kk _ _ hl (hs.i (by show _ = b_shl _ _; unfold b_shl; rw [i32_of, i32_of])))
  | 7, _, h2 => subst h2; exact lv_ishr hx hb hd (kk _ _ hl (hs.i (by show _ = b_shr _ _; unfold b_shr; rw [i32_of, i32_of])))
  | 8, _, h2 => subst h2; exact lv_iushr hx hb hd rfl (kk _ _ hl (hs.i (by show _ = b_ushr _ _; unfold b_ushr; rw [i32_of, i32_of])))
  | k + 9, h3, _ => omega
theorem sim_8 {x y : Int} (F : frm p s mid args meth c D cy base b L xs m) (hd : decode (bM m) pc = .ok (o, len)) (hc : ck1 m pc (8, k, z, tb) o len = some pc') : stp1 p l e R s mid args below meth c Q D cy base b L xs m pc pc' ls ((1, y) :: (1, x) :: st) H ls (vl (am_bl k x y) :: st) H := by
  obtain ⟨hx, hb, -⟩ := F
  refine stp1.pure rfl fun f la sv Hm locs cells slots hh kk => ?_
  obtain ⟨hl, hs, -⟩ := hh
  replace hs := srel_l hs
  obtain ⟨y', sv', rfl, rfl, hs⟩ := hs
  replace hs := srel_l hs
  obtain ⟨x', sv', rfl, rfl, hs⟩ := hs
  replace hc : ck_8 m pc (8, k, z, tb) o len = some pc' := hc
  unfold ck_8 at hc
  dsimp only at hc
  obtain ⟨h, rfl⟩ := opg_s hc
  simp only [Bool.and_eq_true, decide_eq_true_eq] at h
  obtain ⟨⟨rfl, h2⟩, h3⟩ := h
  match k, h3, h2 with
  | 0, _, h2 => subst h2; exact lv_ladd hx hb hd (kk _ _ hl (hs.j (opl_add _ _)))
  | 1, _, h2 => subst h2; exact lv_lsub hx hb hd (kk _ _ hl (hs.j (opl_sub _ _)))
  | 2, _, h2 => subst h2; exact lv_lmul hx hb hd (kk _ _ hl (hs.j (opl_mul _ _)))
  | 3, _, h2 => subst h2; exact lv_land hx hb hd (kk _ _ hl (hs.j (by show _ = l_and _ _; unfold l_and; rw [i64_of, i64_of])))
  | 4, _, h2 => subst h2; exact lv_lor hx hb hd (kk _ _ hl (hs.j (by show _ = l_or _ _; unfold l_or; rw [i64_of, i64_of])))
  | 5, _, h2 => subst h2; exact lv_lxor hx hb hd (kk _ _ hl (hs.j (by show _ = l_xor _ _; unfold l_xor; rw [i64_of, i64_of])))
  | k + 6, h3, _ => omega
theorem sim_9 {x y : Int} (F : frm p s mid args meth c D cy base b L xs m) (hd : decode (bM m) pc = .ok (o, len)) (hc : ck1 m pc (9, k, z, tb) o len = some pc') : stp1 p l e R s mid args below meth c Q D cy base b L xs m pc pc' ls ((0, y) :: (1, x) :: st) H ls (vl (if k = 0 then l_shl x y else l_shr x y) :: st) H := by
  obtain ⟨hx, hb, -⟩ := F
  refine stp1.pure rfl fun f la sv Hm locs cells slots hh kk => ?_
  obtain ⟨hl, hs, -⟩ := hh
  replace hs := srel_i hs
  obtain ⟨y', sv', rfl, rfl, hs⟩ := hs
  replace hs := srel_l hs
  obtain ⟨x', sv', rfl, rfl, hs⟩ := hs
  replace hc : ck_9 m pc (9, k, z, tb) o len = some pc' := hc
  unfold ck_9 at hc
  dsimp only at hc
  obtain ⟨h, rfl⟩ := opg_s hc
  simp only [Bool.and_eq_true, decide_eq_true_eq] at h
  obtain ⟨⟨rfl, h2⟩, h3⟩ := h
  match k, h3, h2 with
  | 0, _, h2 => subst h2; exact lv_lshl hx hb hd rfl (kk _ _ hl (hs.j (by show _ = l_shl _ _; unfold l_shl; rw [i64_of, i32_of])))
  | 1, _, h2 => subst h2; exact lv_lshr hx hb hd rfl (kk _ _ hl (hs.j (by show _ = l_shr _ _; unfold l_shr; rw [i64_of, i32_of])))
  | k + 2, h3, _ => omega
theorem sim_10 {x y : Int} (F : frm p s mid args meth c D cy base b L xs m) (hd : decode (bM m) pc = .ok (o, len)) (hc : ck1 m pc (10, k, z, tb) o len = some pc') (hy : y ≠ 0) : stp1 p l e R s mid args below meth c Q D cy base b L xs m pc pc' ls ((0, y) :: (0, x) :: st) H ls (vi (am_bi k x y) :: st) H := by
  obtain ⟨hx, hb, -⟩ := F
  refine stp1.pure rfl fun f la sv Hm locs cells slots hh kk => ?_
  obtain ⟨hl, hs, -⟩ := hh
  replace hs := srel_i hs
  obtain ⟨y', sv', rfl, rfl, hs⟩ := hs
  replace hs := srel_i hs
  obtain ⟨x', sv', rfl, rfl, hs⟩ := hs
  have hn : ¬ y' = 0 := fun q => hy (by rw [q]; rfl)
  replace hc : ck_10 m pc (10, k, z, tb) o len = some pc' := hc
  unfold ck_10 at hc
  dsimp only at hc
  obtain ⟨h, rfl⟩ := opg_s hc
  simp only [Bool.and_eq_true, decide_eq_true_eq] at h
  obtain ⟨rfl, ⟨rfl, rfl⟩ | ⟨rfl, rfl⟩⟩ := h
  · exact lv_idiv hx hb hd hn (kk _ _ hl (hs.i (opi_div _ _)))
  · exact lv_irem hx hb hd hn (kk _ _ hl (hs.i (opi_rem _ _)))
theorem sim_11 {x y : Int} (F : frm p s mid args meth c D cy base b L xs m) (hd : decode (bM m) pc = .ok (o, len)) (hc : ck1 m pc (11, k, z, tb) o len = some pc') (hy : y ≠ 0) : stp1 p l e R s mid args below meth c Q D cy base b L xs m pc pc' ls ((1, y) :: (1, x) :: st) H ls (vl (am_bl k x y) :: st) H := by
  obtain ⟨hx, hb, -⟩ := F
  refine stp1.pure rfl fun f la sv Hm locs cells slots hh kk => ?_
  obtain ⟨hl, hs, -⟩ := hh
  replace hs := srel_l hs
  obtain ⟨y', sv', rfl, rfl, hs⟩ := hs
  replace hs := srel_l hs
  obtain ⟨x', sv', rfl, rfl, hs⟩ := hs
  have hn : ¬ y' = 0 := fun q => hy (by rw [q]; rfl)
  replace hc : ck_11 m pc (11, k, z, tb) o len = some pc' := hc
  unfold ck_11 at hc
  dsimp only at hc
  obtain ⟨h, rfl⟩ := opg_s hc
  simp only [Bool.and_eq_true, decide_eq_true_eq] at h
  obtain ⟨rfl, ⟨rfl, rfl⟩ | ⟨rfl, rfl⟩⟩ := h
  · exact lv_ldiv hx hb hd hn (kk _ _ hl (hs.j (opl_div _ _)))
  · exact lv_lrem hx hb hd hn (kk _ _ hl (hs.j (opl_rem _ _)))
theorem ch_w16 (y : Int32) : ((y.toUInt32 % 65536).toInt32).toInt = w16u y.toInt := by
  have e := pk_char y
  rw [e]
  have h1 : y.toBitVec.toNat % 65536 < 2 ^ 31 := by omega
  rw [nI_toInt h1]
  show ((y.toBitVec.toNat % 65536 : Nat) : Int) = y.toInt % 65536
  have h2 : y.toInt = y.toBitVec.toInt := rfl
  rw [h2, BitVec.toInt_eq_toNat_bmod, Int.bmod_def]
  have := y.toBitVec.isLt
  split <;> omega
theorem sim_60 {x : Int} (F : frm p s mid args meth c D cy base b L xs m) (hd : decode (bM m) pc = .ok (o, len)) (hc : ck1 m pc (60, k, z, tb) o len = some pc') : stp1 p l e R s mid args below meth c Q D cy base b L xs m pc pc' ls ((0, x) :: st) H ls (vi (w32 (-x)) :: st) H := by
  obtain ⟨hx, hb, -⟩ := F
  refine stp1.pure rfl fun f la sv Hm locs cells slots hh kk => ?_
  obtain ⟨hl, hs, -⟩ := hh
  replace hc : ck_60 m pc (60, k, z, tb) o len = some pc' := hc
  unfold ck_60 at hc
  obtain ⟨h, rfl⟩ := opg_s hc
  simp only [Bool.and_eq_true, decide_eq_true_eq] at h
  obtain ⟨rfl, rfl⟩ := h
  replace hs := srel_i hs
  obtain ⟨y, sv', rfl, rfl, hs⟩ := hs
  exact lv_ineg hx hb hd (kk _ _ hl (hs.i (opi_neg _)))
theorem sim_61 {x : Int} (F : frm p s mid args meth c D cy base b L xs m) (hd : decode (bM m) pc = .ok (o, len)) (hc : ck1 m pc (61, k, z, tb) o len = some pc') : stp1 p l e R s mid args below meth c Q D cy base b L xs m pc pc' ls ((1, x) :: st) H ls (vl (w64 (-x)) :: st) H := by
  obtain ⟨hx, hb, -⟩ := F
  refine stp1.pure rfl fun f la sv Hm locs cells slots hh kk => ?_
  obtain ⟨hl, hs, -⟩ := hh
  replace hc : ck_61 m pc (61, k, z, tb) o len = some pc' := hc
  unfold ck_61 at hc
  obtain ⟨h, rfl⟩ := opg_s hc
  simp only [Bool.and_eq_true, decide_eq_true_eq] at h
  obtain ⟨rfl, rfl⟩ := h
  replace hs := srel_l hs
  obtain ⟨y, sv', rfl, rfl, hs⟩ := hs
  exact lv_lneg hx hb hd (kk _ _ hl (hs.j (opl_neg _)))
theorem sim_62 {x : Int} (F : frm p s mid args meth c D cy base b L xs m) (hd : decode (bM m) pc = .ok (o, len)) (hc : ck1 m pc (62, k, z, tb) o len = some pc') : stp1 p l e R s mid args below meth c Q D cy base b L xs m pc pc' ls ((0, x) :: st) H ls (vl x :: st) H := by
  obtain ⟨hx, hb, -⟩ := F
  refine stp1.pure rfl fun f la sv Hm locs cells slots hh kk => ?_
  obtain ⟨hl, hs, -⟩ := hh
  replace hc : ck_62 m pc (62, k, z, tb) o len = some pc' := hc
  unfold ck_62 at hc
  obtain ⟨h, rfl⟩ := opg_s hc
  simp only [Bool.and_eq_true, decide_eq_true_eq] at h
  obtain ⟨rfl, rfl⟩ := h
  replace hs := srel_i hs
  obtain ⟨y, sv', rfl, rfl, hs⟩ := hs
  exact lv_i2l hx hb hd rfl (kk _ _ hl (hs.j (cv_i2l _)))
theorem sim_63 {x : Int} (F : frm p s mid args meth c D cy base b L xs m) (hd : decode (bM m) pc = .ok (o, len)) (hc : ck1 m pc (63, k, z, tb) o len = some pc') : stp1 p l e R s mid args below meth c Q D cy base b L xs m pc pc' ls ((1, x) :: st) H ls (vi (w32 x) :: st) H := by
  obtain ⟨hx, hb, -⟩ := F
  refine stp1.pure rfl fun f la sv Hm locs cells slots hh kk => ?_
  obtain ⟨hl, hs, -⟩ := hh
  replace hc : ck_63 m pc (63, k, z, tb) o len = some pc' := hc
  unfold ck_63 at hc
  obtain ⟨h, rfl⟩ := opg_s hc
  simp only [Bool.and_eq_true, decide_eq_true_eq] at h
  obtain ⟨rfl, rfl⟩ := h
  replace hs := srel_l hs
  obtain ⟨y, sv', rfl, rfl, hs⟩ := hs
  exact lv_l2i hx hb hd rfl (kk _ _ hl (hs.i (cv_l2i _)))
theorem sim_64 {x : Int} (F : frm p s mid args meth c D cy base b L xs m) (hd : decode (bM m) pc = .ok (o, len)) (hc : ck1 m pc (64, k, z, tb) o len = some pc') : stp1 p l e R s mid args below meth c Q D cy base b L xs m pc pc' ls ((0, x) :: st) H ls (vi (w8 x) :: st) H := by
  obtain ⟨hx, hb, -⟩ := F
  refine stp1.pure rfl fun f la sv Hm locs cells slots hh kk => ?_
  obtain ⟨hl, hs, -⟩ := hh
  replace hc : ck_64 m pc (64, k, z, tb) o len = some pc' := hc
  unfold ck_64 at hc
  obtain ⟨h, rfl⟩ := opg_s hc
  simp only [Bool.and_eq_true, decide_eq_true_eq] at h
  obtain ⟨rfl, rfl⟩ := h
  replace hs := srel_i hs
  obtain ⟨y, sv', rfl, rfl, hs⟩ := hs
  exact lv_i2b hx hb hd rfl (kk _ _ hl (hs.i (cv_i2b _)))
theorem sim_65 {x : Int} (F : frm p s mid args meth c D cy base b L xs m) (hd : decode (bM m) pc = .ok (o, len)) (hc : ck1 m pc (65, k, z, tb) o len = some pc') : stp1 p l e R s mid args below meth c Q D cy base b L xs m pc pc' ls ((0, x) :: st) H ls (vi (w16u x) :: st) H := by
  obtain ⟨hx, hb, -⟩ := F
  refine stp1.pure rfl fun f la sv Hm locs cells slots hh kk => ?_
  obtain ⟨hl, hs, -⟩ := hh
  replace hc : ck_65 m pc (65, k, z, tb) o len = some pc' := hc
  unfold ck_65 at hc
  obtain ⟨h, rfl⟩ := opg_s hc
  simp only [Bool.and_eq_true, decide_eq_true_eq] at h
  obtain ⟨rfl, rfl⟩ := h
  replace hs := srel_i hs
  obtain ⟨y, sv', rfl, rfl, hs⟩ := hs
  exact lv_i2c hx hb hd rfl (kk _ _ hl (hs.i (ch_w16 _)))
theorem sim_13 {x y : Int} (F : frm p s mid args meth c D cy base b L xs m) (hd : decode (bM m) pc = .ok (o, len)) (hc : ck1 m pc (13, k, z, tb) o len = some pc') : stp1 p l e R s mid args below meth c Q D cy base b L xs m pc pc' ls ((1, y) :: (1, x) :: st) H ls (vi (cmp3 x y) :: st) H := by
  obtain ⟨hx, hb, -⟩ := F
  refine stp1.pure rfl fun f la sv Hm locs cells slots hh kk => ?_
  obtain ⟨hl, hs, -⟩ := hh
  replace hs := srel_l hs
  obtain ⟨y', sv', rfl, rfl, hs⟩ := hs
  replace hs := srel_l hs
  obtain ⟨x', sv', rfl, rfl, hs⟩ := hs
  replace hc : ck_13 m pc (13, k, z, tb) o len = some pc' := hc
  unfold ck_13 at hc
  obtain ⟨h, rfl⟩ := opg_s hc
  simp only [Bool.and_eq_true, decide_eq_true_eq] at h
  obtain ⟨rfl, rfl⟩ := h
  exact W.lcmp hx hb hd (kk _ _ hl (hs.i (lg_cmp_3 _ _)))
theorem sim_34 {x : Int} (F : frm p s mid args meth c D cy base b L xs m) (hd : decode (bM m) pc = .ok (o, len)) (hc : ck1 m pc (34, k, z, tb) o len = some pc') : stp1 p l e R s mid args below meth c Q D cy base b L xs m pc pc' ls ((0, x) :: st) H ls (vi x :: vi x :: st) H := by
  obtain ⟨hx, hb, -⟩ := F
  refine stp1.pure rfl fun f la sv Hm locs cells slots hh kk => ?_
  obtain ⟨hl, hs, -⟩ := hh
  replace hc : ck_34 m pc (34, k, z, tb) o len = some pc' := hc
  unfold ck_34 at hc
  obtain ⟨h, rfl⟩ := opg_s hc
  simp only [Bool.and_eq_true, decide_eq_true_eq] at h
  obtain ⟨rfl, rfl⟩ := h
  replace hs := srel_i hs
  obtain ⟨y, sv', rfl, rfl, hs⟩ := hs
  exact lv_dup hx hb hd rfl (kk _ _ hl ((hs.i rfl).i rfl))
theorem sim_34a {x : Int} (F : frm p s mid args meth c D cy base b L xs m) (hd : decode (bM m) pc = .ok (o, len)) (hc : ck1 m pc (34, k, z, tb) o len = some pc') : stp1 p l e R s mid args below meth c Q D cy base b L xs m pc pc' ls ((2, x) :: st) H ls (va x :: va x :: st) H := by
  obtain ⟨hx, hb, -⟩ := F
  refine stp1.pure rfl fun f la sv Hm locs cells slots hh kk => ?_
  obtain ⟨hl, hs, -⟩ := hh
  replace hc : ck_34 m pc (34, k, z, tb) o len = some pc' := hc
  unfold ck_34 at hc
  obtain ⟨h, rfl⟩ := opg_s hc
  simp only [Bool.and_eq_true, decide_eq_true_eq] at h
  obtain ⟨rfl, rfl⟩ := h
  replace hs := srel_cons hs
  obtain ⟨v, sv', rfl, hv, hs⟩ := hs
  exact lv_dup hx hb hd (hv.cat.2 (by simp)) (kk _ _ hl ((hs.a hv).a hv))
theorem sim_66 {x y : Int} (F : frm p s mid args meth c D cy base b L xs m) (hd : decode (bM m) pc = .ok (o, len)) (hc : ck1 m pc (66, k, z, tb) o len = some pc') : stp1 p l e R s mid args below meth c Q D cy base b L xs m pc pc' ls ((0, x) :: (2, y) :: st) H ls (vi x :: va y :: vi x :: va y :: st) H := by
  obtain ⟨hx, hb, -⟩ := F
  refine stp1.pure rfl fun f la sv Hm locs cells slots hh kk => ?_
  obtain ⟨hl, hs, -⟩ := hh
  replace hc : ck_66 m pc (66, k, z, tb) o len = some pc' := hc
  unfold ck_66 at hc
  obtain ⟨h, rfl⟩ := opg_s hc
  simp only [Bool.and_eq_true, decide_eq_true_eq] at h
  obtain ⟨rfl, rfl⟩ := h
  replace hs := srel_i hs
  obtain ⟨y', sv', rfl, rfl, hs⟩ := hs
  replace hs := srel_cons hs
  obtain ⟨v, sv', rfl, hv, hs⟩ := hs
  exact lv_dup2_11 hx hb hd rfl (hv.cat.2 (by simp)) (kk _ _ hl ((((hs.a hv).i rfl).a hv).i rfl))
theorem sim_66l {x : Int} (F : frm p s mid args meth c D cy base b L xs m) (hd : decode (bM m) pc = .ok (o, len)) (hc : ck1 m pc (66, k, z, tb) o len = some pc') : stp1 p l e R s mid args below meth c Q D cy base b L xs m pc pc' ls ((1, x) :: st) H ls (vl x :: vl x :: st) H := by
  obtain ⟨hx, hb, -⟩ := F
  refine stp1.pure rfl fun f la sv Hm locs cells slots hh kk => ?_
  obtain ⟨hl, hs, -⟩ := hh
  replace hc : ck_66 m pc (66, k, z, tb) o len = some pc' := hc
  unfold ck_66 at hc
  obtain ⟨h, rfl⟩ := opg_s hc
  simp only [Bool.and_eq_true, decide_eq_true_eq] at h
  obtain ⟨rfl, rfl⟩ := h
  replace hs := srel_l hs
  obtain ⟨y, sv', rfl, rfl, hs⟩ := hs
  exact lv_dup2_2 hx hb hd rfl (kk _ _ hl ((hs.j rfl).j rfl))
theorem sim_67 {x : Int} (F : frm p s mid args meth c D cy base b L xs m) (hd : decode (bM m) pc = .ok (o, len)) (hc : ck1 m pc (67, k, z, tb) o len = some pc') : stp1 p l e R s mid args below meth c Q D cy base b L xs m pc pc' ls ((0, x) :: st) H ls (st) H := by
  obtain ⟨hx, hb, -⟩ := F
  refine stp1.pure rfl fun f la sv Hm locs cells slots hh kk => ?_
  obtain ⟨hl, hs, -⟩ := hh
  replace hc : ck_67 m pc (67, k, z, tb) o len = some pc' := hc
  unfold ck_67 at hc
  obtain ⟨h, rfl⟩ := opg_s hc
  simp only [Bool.and_eq_true, decide_eq_true_eq] at h
  obtain ⟨rfl, rfl⟩ := h
  replace hs := srel_i hs
  obtain ⟨y, sv', rfl, rfl, hs⟩ := hs
  exact lv_pop hx hb hd rfl (kk _ _ hl hs)
end ONE
end SIM
end
section
/-! THE SIMULATION, fourth part: fields and arrays -/
section SIM
variable {p : Program} {l : Launch} {e : Env} {R : Room} {s : State} {mid : MethodId} {args : Array Value} {below : List Frame} {meth : Method} {c : Code} {Q : State → Prop}
variable {D : va_G} {cy : Nat → ClassId} {b : Nat → Nat} {base L : Nat} {xs : Nat → Int32} {m : Nat}
variable {pc pc' len k : Nat} {z : Int} {tb : List (Int × Nat)} {o : JI} {ls st ls' st' : List AV} {H H' : Hp}
/-- what stands behind a class's number -/
theorem cls_at {ci : Nat} (h : ci < 12) : vwCl[ci]? = some (clD ci) ∧ (∀ w ∈ u_ws (clD ci).1 (clD ci).2.1 (clD ci).2.2, w ∈ lw_g) ∧ (∀ k, k < (clD ci).2.2 → parseFieldDescriptor ((clD ci).2.1 k).2.2.1 = some (tyD ci k)) ∧ (∀ a, a < (clD ci).2.2 → ∀ b, b < (clD ci).2.2 → a ≠ b → ((clD ci).2.1 a).2.1 ≠ ((clD ci).2.1 b).2.1) ∧ (∀ k, k < (clD ci).2.2 → ((clD ci).2.1 k).1 = (clD ci).1) := by
  match ci, h with
  | 0, _ => exact ⟨rfl, igX1, tyX1_ok, nmX1, by decide +kernel⟩
  | 1, _ => exact ⟨rfl, igX2, tyX2_ok, nmX2, by decide +kernel⟩
  | 2, _ => exact ⟨rfl, igX3, tyX3_ok, nmX3, by decide +kernel⟩
  | 3, _ => exact ⟨rfl, igX4, tyX4_ok, nmX4, by decide +kernel⟩
  | 4, _ => exact ⟨rfl, igX5, tyX5_ok, nmX5, by decide +kernel⟩
  | 5, _ => exact ⟨rfl, igX6, tyX6_ok, nmX6, by decide +kernel⟩
  | 6, _ => exact ⟨rfl, igX7, tyX7_ok, nmX7, by decide +kernel⟩
  | 7, _ => exact ⟨rfl, igX8, tyX8_ok, nmX8, by decide +kernel⟩
  | 8, _ => exact ⟨rfl, igX9, tyX9_ok, nmX9, by decide +kernel⟩
  | 9, _ => exact ⟨rfl, igX10, tyX10_ok, nmX10, by decide +kernel⟩
  | 10, _ => exact ⟨rfl, igX11, tyX11_ok, nmX11, by decide +kernel⟩
  | 11, _ => exact ⟨rfl, igX12, tyX12_ok, nmX12, by decide +kernel⟩
  | n + 12, h => omega
theorem ckf_s {m len idx ci k : Nat} (h : ck_f m len idx ci k = true) : len = 3 ∧ (on m, idx, ci, k) ∈ FL ∧ k < (clD ci).2.2 ∧ ci < 12 := by
  unfold ck_f at h
  simp only [Bool.and_eq_true, decide_eq_true_eq] at h
  exact ⟨h.1, List.contains_iff_mem.mp h.2.1, h.2.2.1, h.2.2.2⟩
theorem okr_ne {n k : Int} (h : okr n k) : k ≠ 0 := by unfold okr at h; omega
theorem sh_ne {k : Int} (h : 0 ≤ shc k ∨ sht k ≠ 0) : k ≠ 0 ∧ k ≠ 999 := by
  have := (sh_all k).2.2.2.2.1 h
  omega
theorem ftg_v {f : Int → Nat} {n : Int} {ci j : Nat} {a : Nat} {x : Int} {v : Value} (h : vrel f n (ftg ci j, x) v) (ha : ftg ci j = a) : vrel f n (a, x) v := by rw [← ha]; exact h
/-- a field is read -/
theorem sim_get {ci kk a : Nat} {x y : Int} {idx : Nat} (F : frm p s mid args meth c D cy base b L xs m) (hd : decode (bM m) pc = .ok (.getfield idx, len)) (hf : ck_f m len idx ci kk = true) (hg : ftg ci kk = a) (hx : shc x = ci) (hy : y = H x kk) : stp1 p l e R s mid args below meth c Q D cy base b L xs m pc (pc + 3) ls ((2, x) :: st) H ls ((a, y) :: st) H := by
  obtain ⟨hxx, hb, -, hown, -, hts, hK, -⟩ := F
  obtain ⟨rfl, hF, hk, hci⟩ := ckf_s hf
  refine stp1.pure rfl fun f la sv Hm locs cells slots hh kk2 => ?_
  obtain ⟨hl, hs, hw, -⟩ := hh
  have hxn := (sh_ne (k := x) (Or.inl (by omega))).1
  replace hs := srel_a hs hxn
  obtain ⟨sv', rfl, ho, hs⟩ := hs
  obtain ⟨ws, fs, q1, q2, q3, q4, q5, -⟩ := hw.obj ho hx
  obtain ⟨v, g1, g2⟩ := q3 kk (by omega)
  obtain ⟨hc1, hin, -, -, hre⟩ := cls_at hci
  have hlink := hts _ (mem_g (FL_ok _ hF) rfl)
  exact va_get hxx hb hts hin hown hK q4 (x.toNat - 1) q1 hc1 kk hk hlink (fun _ hh => by rw [← hre kk hk]; exact hh) g1 hd (kk2 _ _ hl ⟨by rw [hy]; exact ftg_v g2 hg, hs⟩)
/-- a field is written -/
theorem sim_put {ci kk a : Nat} {x y : Int} {idx : Nat} (F : frm p s mid args meth c D cy base b L xs m) (hd : decode (bM m) pc = .ok (.putfield idx, len)) (hf : ck_f m len idx ci kk = true) (hfin : fin_ok m ci kk = true) (hg : ftg ci kk = a) (hx : shc x = ci) (hnf : ∀ (f : Int → Nat) (n : Int) (v : Value), vrel f n (a, y) v → narrow (tyD ci kk) v = v ∧ fits (tyD ci kk) v = true) : stp1 p l e R s mid args below meth c Q D cy base b L xs m pc (pc + 3) ls ((a, y) :: (2, x) :: st) H ls st (hs H x kk y) := by
  obtain ⟨hxx, hb, -, hown, hini, hts, hK, -⟩ := F
  obtain ⟨rfl, hF, hk, hci⟩ := ckf_s hf
  have hxn := sh_ne (k := x) (Or.inl (by omega))
  refine stp1.wr (by funext j; rw [hs_app, if_neg (by omega)]) (by funext j; rw [hs_app, if_neg (by omega)]) fun f la sv Hm locs cells slots hh kk2 => ?_
  obtain ⟨hl, hs, hw, hS, -⟩ := hh
  replace hs := srel_cons hs
  obtain ⟨v, sv', rfl, hv, hs⟩ := hs
  replace hs := srel_a hs hxn.1
  obtain ⟨sv', rfl, ho, hs⟩ := hs
  obtain ⟨ws, fs, q1, q2, q3, q4, q5, q6⟩ := hw.obj ho hx
  obtain ⟨hc1, hin, hty, hnm, hre⟩ := cls_at hci
  have hlink := hts _ (mem_g (FL_ok _ hF) rfl)
  obtain ⟨hn, hft⟩ := hnf f _ v hv
  have hv2 : vrel f (H 0 0) (ftg ci kk, y) v := by rw [hg]; exact hv
  by_cases hfi : ((clD ci).2.1 kk).2.2.2 = false
  · exact va_put hxx hb hts hin (tyD ci) hty hnm hown hK q4 q5 hS (x.toNat - 1) q1 hc1 kk hk hlink (fun _ hh => by rw [← hre kk hk]; exact hh) hfi (hty kk hk) hn hft (by omega) hd
      fun Hm' locs' hP' hD' hS' => kk2 _ _ _ hs (q6 kk y v Hm' (by omega) hv2 hP' hD') hS'
  · have hft1 : ((clD ci).2.1 kk).2.2.2 = true := by simpa using hfi
    unfold fin_ok at hfin
    rw [hft1] at hfin
    simp only [Bool.not_true, Bool.false_or, Bool.and_eq_true, decide_eq_true_eq] at hfin
    exact va_putF hxx hb hts hin (tyD ci) hty hnm hown hK q4 q5 hS (x.toNat - 1) q1 hc1 kk hk hlink (fun _ hh => by rw [← hre kk hk]; exact hh) hft1 (hini hfin.1) hfin.2 (hty kk hk) hn hft (by omega) hd
      fun Hm' locs' hP' hD' hS' => kk2 _ _ _ hs (q6 kk y v Hm' (by omega) hv2 hP' hD') hS'
theorem ftg_i {ci j : Nat} (h : tyD ci j = .int ∨ tyD ci j = .boolean) : ftg ci j = 0 := by rcases h with h | h <;> (unfold ftg; rw [h]; rfl)
theorem ftg_l {ci j : Nat} (h : tyD ci j = .long) : ftg ci j = 1 := by unfold ftg; rw [h]; rfl
theorem ftg_a {ci j : Nat} (h : isReferenceType (tyD ci j) = true) : ftg ci j = 2 := by
  unfold ftg
  rw [if_neg (fun q => by rw [q] at h; cases h), if_pos h]
theorem int_tn {z : Int} (h : 0 ≤ z) : ((z.toNat : Nat) : Int) = z := Int.toNat_of_nonneg h
theorem sim_18 {x : Int} (F : frm p s mid args meth c D cy base b L xs m) (hd : decode (bM m) pc = .ok (o, len)) (hc : ck1 m pc (18, k, z, tb) o len = some pc') (hx : shc x = z) : stp1 p l e R s mid args below meth c Q D cy base b L xs m pc pc' ls ((2, x) :: st) H ls (vi (H x (fk (18, k, z, tb))) :: st) H := by
  replace hc : ck_18 m pc (18, k, z, tb) o len = some pc' := hc
  unfold ck_18 at hc
  dsimp only at hc
  split at hc
  · obtain ⟨h, rfl⟩ := opg_s hc
    simp only [Bool.and_eq_true, decide_eq_true_eq] at h
    obtain ⟨h1, h2, h3, h4⟩ := h
    exact sim_get F hd h1 (ftg_i h4) (by rw [int_tn h2]; exact hx) (by rw [int_tn h3])
  · cases hc
theorem sim_19 {x : Int} (F : frm p s mid args meth c D cy base b L xs m) (hd : decode (bM m) pc = .ok (o, len)) (hc : ck1 m pc (19, k, z, tb) o len = some pc') (hx : shc x = z) : stp1 p l e R s mid args below meth c Q D cy base b L xs m pc pc' ls ((2, x) :: st) H ls (vl (H x (fk (19, k, z, tb))) :: st) H := by
  replace hc : ck_19 m pc (19, k, z, tb) o len = some pc' := hc
  unfold ck_19 at hc
  dsimp only at hc
  split at hc
  · obtain ⟨h, rfl⟩ := opg_s hc
    simp only [Bool.and_eq_true, decide_eq_true_eq] at h
    obtain ⟨h1, h2, h3, h4⟩ := h
    exact sim_get F hd h1 (ftg_l h4) (by rw [int_tn h2]; exact hx) (by rw [int_tn h3])
  · cases hc
theorem sim_20 {x : Int} (F : frm p s mid args meth c D cy base b L xs m) (hd : decode (bM m) pc = .ok (o, len)) (hc : ck1 m pc (20, k, z, tb) o len = some pc') (hx : shc x = z) : stp1 p l e R s mid args below meth c Q D cy base b L xs m pc pc' ls ((2, x) :: st) H ls (va (H x (fk (20, k, z, tb))) :: st) H := by
  replace hc : ck_20 m pc (20, k, z, tb) o len = some pc' := hc
  unfold ck_20 at hc
  dsimp only at hc
  split at hc
  · obtain ⟨h, rfl⟩ := opg_s hc
    simp only [Bool.and_eq_true, decide_eq_true_eq] at h
    obtain ⟨h1, h2, h3, h4⟩ := h
    exact sim_get F hd h1 (ftg_a h4) (by rw [int_tn h2]; exact hx) (by rw [int_tn h3])
  · cases hc
theorem nf_i {f : Int → Nat} {n : Int} {v : Value} {y : Int} (h : vrel f n (0, y) v) : narrow .int v = v ∧ fits .int v = true := by
  obtain ⟨x, rfl, -⟩ := vrel_i.mp h
  exact ⟨rfl, rfl⟩
theorem nf_l {f : Int → Nat} {n : Int} {v : Value} {y : Int} (h : vrel f n (1, y) v) : narrow .long v = v ∧ fits .long v = true := by
  obtain ⟨x, rfl, -⟩ := vrel_l.mp h
  exact ⟨rfl, rfl⟩
theorem nf_a {f : Int → Nat} {n : Int} {v : Value} {y : Int} {ty : FieldType} (ht : isReferenceType ty = true) (h : vrel f n (2, y) v) : narrow ty v = v ∧ fits ty v = true := by
  rcases vrel_a.mp h with ⟨-, rfl⟩ | ⟨-, rfl⟩ <;> cases ty <;> first | exact ⟨rfl, rfl⟩ | cases ht
theorem nf_z {f : Int → Nat} {n : Int} {v : Value} {y : Int} (hy : y = 0 ∨ y = 1) (h : vrel f n (0, y) v) : narrow .boolean v = v ∧ fits .boolean v = true := by
  obtain ⟨x, rfl, hx⟩ := vrel_i.mp h
  have : x = 0 ∨ x = 1 := by
    rcases hy with rfl | rfl
    · exact Or.inl (Int32.toInt_inj.mp hx)
    · exact Or.inr (Int32.toInt_inj.mp hx)
  rcases this with rfl | rfl <;> exact ⟨by decide +kernel, by decide +kernel⟩
theorem sim_21 {x y : Int} (F : frm p s mid args meth c D cy base b L xs m) (hd : decode (bM m) pc = .ok (o, len)) (hc : ck1 m pc (21, k, z, tb) o len = some pc') (hx : shc x = z) : stp1 p l e R s mid args below meth c Q D cy base b L xs m pc pc' ls ((0, y) :: (2, x) :: st) H ls st (hs H x (fk (21, k, z, tb)) y) := by
  replace hc : ck_21 m pc (21, k, z, tb) o len = some pc' := hc
  unfold ck_21 at hc
  dsimp only at hc
  split at hc
  · obtain ⟨h, rfl⟩ := opg_s hc
    simp only [Bool.and_eq_true, decide_eq_true_eq] at h
    obtain ⟨h1, h5, h2, h3, h4⟩ := h
    have := sim_put (st := st) (ls := ls) (l := l) (e := e) (R := R) (below := below) (Q := Q) (H := H) (x := x) (y := y) F hd h1 h5 (ftg_i (Or.inl h4)) (by rw [int_tn h2]; exact hx) (fun f n v hv => by rw [h4]; exact nf_i hv)
    rw [int_tn h3] at this
    exact this
  · cases hc
theorem sim_22 {x y : Int} (F : frm p s mid args meth c D cy base b L xs m) (hd : decode (bM m) pc = .ok (o, len)) (hc : ck1 m pc (22, k, z, tb) o len = some pc') (hx : shc x = z) : stp1 p l e R s mid args below meth c Q D cy base b L xs m pc pc' ls ((1, y) :: (2, x) :: st) H ls st (hs H x (fk (22, k, z, tb)) y) := by
  replace hc : ck_22 m pc (22, k, z, tb) o len = some pc' := hc
  unfold ck_22 at hc
  dsimp only at hc
  split at hc
  · obtain ⟨h, rfl⟩ := opg_s hc
    simp only [Bool.and_eq_true, decide_eq_true_eq] at h
    obtain ⟨h1, h5, h2, h3, h4⟩ := h
    have := sim_put (st := st) (ls := ls) (l := l) (e := e) (R := R) (below := below) (Q := Q) (H := H) (x := x) (y := y) F hd h1 h5 (ftg_l h4) (by rw [int_tn h2]; exact hx) (fun f n v hv => by rw [h4]; exact nf_l hv)
    rw [int_tn h3] at this
    exact this
  · cases hc
theorem sim_23 {x y : Int} (F : frm p s mid args meth c D cy base b L xs m) (hd : decode (bM m) pc = .ok (o, len)) (hc : ck1 m pc (23, k, z, tb) o len = some pc') (hx : shc x = z) : stp1 p l e R s mid args below meth c Q D cy base b L xs m pc pc' ls ((2, y) :: (2, x) :: st) H ls st (hs H x (fk (23, k, z, tb)) y) := by
  replace hc : ck_23 m pc (23, k, z, tb) o len = some pc' := hc
  unfold ck_23 at hc
  dsimp only at hc
  split at hc
  · obtain ⟨h, rfl⟩ := opg_s hc
    simp only [Bool.and_eq_true, decide_eq_true_eq] at h
    obtain ⟨h1, h5, h2, h3, h4⟩ := h
    have := sim_put (st := st) (ls := ls) (l := l) (e := e) (R := R) (below := below) (Q := Q) (H := H) (x := x) (y := y) F hd h1 h5 (ftg_a h4) (by rw [int_tn h2]; exact hx) (fun f n v hv => nf_a h4 hv)
    rw [int_tn h3] at this
    exact this
  · cases hc
theorem sim_24 {x y : Int} (F : frm p s mid args meth c D cy base b L xs m) (hd : decode (bM m) pc = .ok (o, len)) (hc : ck1 m pc (24, k, z, tb) o len = some pc') (hx : shc x = z) (hy : y = 0 ∨ y = 1) : stp1 p l e R s mid args below meth c Q D cy base b L xs m pc pc' ls ((0, y) :: (2, x) :: st) H ls st (hs H x (fk (24, k, z, tb)) y) := by
  replace hc : ck_24 m pc (24, k, z, tb) o len = some pc' := hc
  unfold ck_24 at hc
  dsimp only at hc
  split at hc
  · obtain ⟨h, rfl⟩ := opg_s hc
    simp only [Bool.and_eq_true, decide_eq_true_eq] at h
    obtain ⟨h1, h5, h2, h3, h4⟩ := h
    have := sim_put (st := st) (ls := ls) (l := l) (e := e) (R := R) (below := below) (Q := Q) (H := H) (x := x) (y := y) F hd h1 h5 (ftg_i (Or.inr h4)) (by rw [int_tn h2]; exact hx) (fun f n v hv => by rw [h4]; exact nf_z hy hv)
    rw [int_tn h3] at this
    exact this
  · cases hc
theorem sim_25 {x j : Int} (F : frm p s mid args meth c D cy base b L xs m) (hd : decode (bM m) pc = .ok (o, len)) (hc : ck1 m pc (25, k, z, tb) o len = some pc') (ht : sht x = 1) (h0 : 0 ≤ j) (h1 : j < shl x) : stp1 p l e R s mid args below meth c Q D cy base b L xs m pc pc' ls ((0, j) :: (2, x) :: st) H ls (vi (H x j) :: st) H := by
  obtain ⟨hxx, hb, -, hown, -, hts, hK, -⟩ := F
  replace hc : ck_25 m pc (25, k, z, tb) o len = some pc' := hc
  unfold ck_25 at hc
  obtain ⟨h, rfl⟩ := opg_s hc
  simp only [Bool.and_eq_true, decide_eq_true_eq] at h
  obtain ⟨rfl, rfl⟩ := h
  refine stp1.pure rfl fun f la sv Hm locs cells slots hh kk2 => ?_
  obtain ⟨hl, hs, hw, -⟩ := hh
  have hxn := (sh_ne (k := x) (Or.inr (by omega))).1
  replace hs := srel_i hs
  obtain ⟨j', sv', rfl, hj, hs⟩ := hs
  replace hs := srel_a hs hxn
  obtain ⟨sv', rfl, ho, hs⟩ := hs
  obtain ⟨ws, g, q1, q2, q3, q4, -⟩ := hw.arr ho (t := 1) ht (by omega)
  obtain ⟨g1, g2⟩ := vp_in_of_int (n := (shl x).toNat) hj h0 (by omega)
  refine va_iald hxx hb hK q3 (x.toNat - 1) 0 q1 rfl g1 hd (kk2 _ _ hl (hs.i ?_))
  rw [g2, q2 _ (by omega), int_tn h0]
theorem sim_26 {x j : Int} (F : frm p s mid args meth c D cy base b L xs m) (hd : decode (bM m) pc = .ok (o, len)) (hc : ck1 m pc (26, k, z, tb) o len = some pc') (ht : sht x = 2) (h0 : 0 ≤ j) (h1 : j < shl x) : stp1 p l e R s mid args below meth c Q D cy base b L xs m pc pc' ls ((0, j) :: (2, x) :: st) H ls (vl (H x j) :: st) H := by
  obtain ⟨hxx, hb, -, hown, -, hts, hK, -⟩ := F
  replace hc : ck_26 m pc (26, k, z, tb) o len = some pc' := hc
  unfold ck_26 at hc
  obtain ⟨h, rfl⟩ := opg_s hc
  simp only [Bool.and_eq_true, decide_eq_true_eq] at h
  obtain ⟨rfl, rfl⟩ := h
  refine stp1.pure rfl fun f la sv Hm locs cells slots hh kk2 => ?_
  obtain ⟨hl, hs, hw, -⟩ := hh
  have hxn := (sh_ne (k := x) (Or.inr (by omega))).1
  replace hs := srel_i hs
  obtain ⟨j', sv', rfl, hj, hs⟩ := hs
  replace hs := srel_a hs hxn
  obtain ⟨sv', rfl, ho, hs⟩ := hs
  obtain ⟨ws, g, q1, q2, q3, q4, -⟩ := hw.arrL ho ht
  obtain ⟨g1, g2⟩ := vp_in_of_int (n := (shl x).toNat) hj h0 (by omega)
  refine va_lald hxx hb hK q3 (x.toNat - 1) 1 q1 rfl g1 hd (kk2 _ _ hl (hs.j ?_))
  rw [g2, q2 _ (by omega), int_tn h0]
theorem sim_27 {x j : Int} (F : frm p s mid args meth c D cy base b L xs m) (hd : decode (bM m) pc = .ok (o, len)) (hc : ck1 m pc (27, k, z, tb) o len = some pc') (ht : sht x = 3) (h0 : 0 ≤ j) (h1 : j < shl x) : stp1 p l e R s mid args below meth c Q D cy base b L xs m pc pc' ls ((0, j) :: (2, x) :: st) H ls (vi (H x j) :: st) H := by
  obtain ⟨hxx, hb, -, hown, -, hts, hK, -⟩ := F
  replace hc : ck_27 m pc (27, k, z, tb) o len = some pc' := hc
  unfold ck_27 at hc
  obtain ⟨h, rfl⟩ := opg_s hc
  simp only [Bool.and_eq_true, decide_eq_true_eq] at h
  obtain ⟨rfl, rfl⟩ := h
  refine stp1.pure rfl fun f la sv Hm locs cells slots hh kk2 => ?_
  obtain ⟨hl, hs, hw, -⟩ := hh
  have hxn := (sh_ne (k := x) (Or.inr (by omega))).1
  replace hs := srel_i hs
  obtain ⟨j', sv', rfl, hj, hs⟩ := hs
  replace hs := srel_a hs hxn
  obtain ⟨sv', rfl, ho, hs⟩ := hs
  obtain ⟨ws, g, q1, q2, q3, q4, -⟩ := hw.arr ho (t := 3) ht (by omega)
  obtain ⟨g1, g2⟩ := vp_in_of_int (n := (shl x).toNat) hj h0 (by omega)
  refine va_bald hxx hb hK q3 (x.toNat - 1) 2 q1 rfl g1 hd (kk2 _ _ hl (hs.i ?_))
  rw [g2, q2 _ (by omega), int_tn h0]
theorem sim_28 {x j : Int} (F : frm p s mid args meth c D cy base b L xs m) (hd : decode (bM m) pc = .ok (o, len)) (hc : ck1 m pc (28, k, z, tb) o len = some pc') (ht : sht x = 4) (h0 : 0 ≤ j) (h1 : j < shl x) : stp1 p l e R s mid args below meth c Q D cy base b L xs m pc pc' ls ((0, j) :: (2, x) :: st) H ls (vi (H x j) :: st) H := by
  obtain ⟨hxx, hb, -, hown, -, hts, hK, -⟩ := F
  replace hc : ck_28 m pc (28, k, z, tb) o len = some pc' := hc
  unfold ck_28 at hc
  obtain ⟨h, rfl⟩ := opg_s hc
  simp only [Bool.and_eq_true, decide_eq_true_eq] at h
  obtain ⟨rfl, rfl⟩ := h
  refine stp1.pure rfl fun f la sv Hm locs cells slots hh kk2 => ?_
  obtain ⟨hl, hs, hw, -⟩ := hh
  have hxn := (sh_ne (k := x) (Or.inr (by omega))).1
  replace hs := srel_i hs
  obtain ⟨j', sv', rfl, hj, hs⟩ := hs
  replace hs := srel_a hs hxn
  obtain ⟨sv', rfl, ho, hs⟩ := hs
  obtain ⟨ws, g, q1, q2, q3, q4, -⟩ := hw.arr ho (t := 4) ht (by omega)
  obtain ⟨g1, g2⟩ := vp_in_of_int (n := (shl x).toNat) hj h0 (by omega)
  refine va_cald hxx hb hK q3 (x.toNat - 1) 3 q1 rfl g1 hd (kk2 _ _ hl (hs.i ?_))
  rw [g2, q2 _ (by omega), int_tn h0]
theorem upd_rel {g : Nat → Int32} {h : Int → Int} {n : Nat} {j v : Int} {x : Int32} {Lx : Int} (hg : ∀ i : Nat, (i : Int) < Lx → (g i).toInt = h i) (hn : n = j.toNat) (hj : 0 ≤ j) (hx : x.toInt = v) (i : Nat) (hi : (i : Int) < Lx) : (upd g n x i).toInt = if (i : Int) = j then v else h i := by
  unfold upd
  by_cases e : i = n
  · rw [if_pos e, if_pos (by omega)]; exact hx
  · rw [if_neg e, if_neg (by omega)]; exact hg i hi
theorem updL_rel {g : Nat → Int64} {h : Int → Int} {n : Nat} {j v : Int} {x : Int64} {Lx : Int} (hg : ∀ i : Nat, (i : Int) < Lx → (g i).toInt = h i) (hn : n = j.toNat) (hj : 0 ≤ j) (hx : x.toInt = v) (i : Nat) (hi : (i : Int) < Lx) : (vp_updL g n x i).toInt = if (i : Int) = j then v else h i := by
  unfold vp_updL
  by_cases e : i = n
  · rw [if_pos e, if_pos (by omega)]; exact hx
  · rw [if_neg e, if_neg (by omega)]; exact hg i hi
theorem nar_b (x : Int32) : (vp_nar .byte x).toInt = w8 x.toInt := by rw [vp_nar_byte]; exact cv_i2b x
theorem nar_c (x : Int32) : (vp_nar .char x).toInt = w16u x.toInt := by
  rw [vp_nar_char]
  have e : x.toUInt32.toUInt16.toUInt32 = x.toUInt32 % 65536 := by
    apply UInt32.toNat_inj.mp
    simp
  rw [e]
  exact ch_w16 x
theorem sim_29 {x j v : Int} (F : frm p s mid args meth c D cy base b L xs m) (hd : decode (bM m) pc = .ok (o, len)) (hc : ck1 m pc (29, k, z, tb) o len = some pc') (ht : sht x = 1) (h0 : 0 ≤ j) (h1 : j < shl x) : stp1 p l e R s mid args below meth c Q D cy base b L xs m pc pc' ls ((0, v) :: (0, j) :: (2, x) :: st) H ls st (hs H x j v) := by
  obtain ⟨hxx, hb, -, hown, -, hts, hK, -⟩ := F
  replace hc : ck_29 m pc (29, k, z, tb) o len = some pc' := hc
  unfold ck_29 at hc
  obtain ⟨h, rfl⟩ := opg_s hc
  simp only [Bool.and_eq_true, decide_eq_true_eq] at h
  obtain ⟨rfl, rfl⟩ := h
  have hxn := sh_ne (k := x) (Or.inr (by omega))
  refine stp1.wr (by funext j; rw [hs_app, if_neg (by omega)]) (by funext j; rw [hs_app, if_neg (by omega)]) fun f la sv Hm locs cells slots hh kk2 => ?_
  obtain ⟨hl, hs, hw, hS, -⟩ := hh
  replace hs := srel_i hs
  obtain ⟨v', sv', rfl, hv, hs⟩ := hs
  replace hs := srel_i hs
  obtain ⟨j', sv', rfl, hj, hs⟩ := hs
  replace hs := srel_a hs hxn.1
  obtain ⟨sv', rfl, ho, hs⟩ := hs
  obtain ⟨ws, g, q1, q2, q3, q4, q5⟩ := hw.arr ho (t := 1) ht (by omega)
  obtain ⟨g1, g2⟩ := vp_in_of_int (n := (shl x).toNat) hj h0 (by omega)
  refine va_iast hxx hb hK q3 q4 hS (x.toNat - 1) 0 q1 rfl g1 hd fun Hm' locs' hP' hD' hS' => kk2 _ _ _ hs ?_ hS'
  rw [hs_eq]
  exact q5 _ _ _ (fun i hi => upd_rel q2 g2 h0 hv i hi) hP' hD'
theorem sim_30 {x j v : Int} (F : frm p s mid args meth c D cy base b L xs m) (hd : decode (bM m) pc = .ok (o, len)) (hc : ck1 m pc (30, k, z, tb) o len = some pc') (ht : sht x = 2) (h0 : 0 ≤ j) (h1 : j < shl x) : stp1 p l e R s mid args below meth c Q D cy base b L xs m pc pc' ls ((1, v) :: (0, j) :: (2, x) :: st) H ls st (hs H x j v) := by
  obtain ⟨hxx, hb, -, hown, -, hts, hK, -⟩ := F
  replace hc : ck_30 m pc (30, k, z, tb) o len = some pc' := hc
  unfold ck_30 at hc
  obtain ⟨h, rfl⟩ := opg_s hc
  simp only [Bool.and_eq_true, decide_eq_true_eq] at h
  obtain ⟨rfl, rfl⟩ := h
  have hxn := sh_ne (k := x) (Or.inr (by omega))
  refine stp1.wr (by funext j; rw [hs_app, if_neg (by omega)]) (by funext j; rw [hs_app, if_neg (by omega)]) fun f la sv Hm locs cells slots hh kk2 => ?_
  obtain ⟨hl, hs, hw, hS, -⟩ := hh
  replace hs := srel_l hs
  obtain ⟨v', sv', rfl, hv, hs⟩ := hs
  replace hs := srel_i hs
  obtain ⟨j', sv', rfl, hj, hs⟩ := hs
  replace hs := srel_a hs hxn.1
  obtain ⟨sv', rfl, ho, hs⟩ := hs
  obtain ⟨ws, g, q1, q2, q3, q4, q5⟩ := hw.arrL ho ht
  obtain ⟨g1, g2⟩ := vp_in_of_int (n := (shl x).toNat) hj h0 (by omega)
  refine va_last hxx hb hK q3 q4 hS (x.toNat - 1) 1 q1 rfl g1 hd fun Hm' locs' hP' hD' hS' => kk2 _ _ _ hs ?_ hS'
  rw [hs_eq]
  exact q5 _ _ _ (fun i hi => updL_rel q2 g2 h0 hv i hi) hP' hD'
theorem sim_31 {x j v : Int} (F : frm p s mid args meth c D cy base b L xs m) (hd : decode (bM m) pc = .ok (o, len)) (hc : ck1 m pc (31, k, z, tb) o len = some pc') (ht : sht x = 3) (h0 : 0 ≤ j) (h1 : j < shl x) : stp1 p l e R s mid args below meth c Q D cy base b L xs m pc pc' ls ((0, v) :: (0, j) :: (2, x) :: st) H ls st (hs H x j (w8 v)) := by
  obtain ⟨hxx, hb, -, hown, -, hts, hK, -⟩ := F
  replace hc : ck_31 m pc (31, k, z, tb) o len = some pc' := hc
  unfold ck_31 at hc
  obtain ⟨h, rfl⟩ := opg_s hc
  simp only [Bool.and_eq_true, decide_eq_true_eq] at h
  obtain ⟨rfl, rfl⟩ := h
  have hxn := sh_ne (k := x) (Or.inr (by omega))
  refine stp1.wr (by funext j; rw [hs_app, if_neg (by omega)]) (by funext j; rw [hs_app, if_neg (by omega)]) fun f la sv Hm locs cells slots hh kk2 => ?_
  obtain ⟨hl, hs, hw, hS, -⟩ := hh
  replace hs := srel_i hs
  obtain ⟨v', sv', rfl, hv, hs⟩ := hs
  replace hs := srel_i hs
  obtain ⟨j', sv', rfl, hj, hs⟩ := hs
  replace hs := srel_a hs hxn.1
  obtain ⟨sv', rfl, ho, hs⟩ := hs
  obtain ⟨ws, g, q1, q2, q3, q4, q5⟩ := hw.arr ho (t := 3) ht (by omega)
  obtain ⟨g1, g2⟩ := vp_in_of_int (n := (shl x).toNat) hj h0 (by omega)
  refine va_bast hxx hb hK q3 q4 hS (x.toNat - 1) 2 q1 rfl g1 hd fun Hm' locs' hP' hD' hS' => kk2 _ _ _ hs ?_ hS'
  rw [hs_eq]
  exact q5 _ _ _ (fun i hi => upd_rel q2 g2 h0 (by rw [nar_b, hv]) i hi) hP' hD'
theorem sim_32 {x j v : Int} (F : frm p s mid args meth c D cy base b L xs m) (hd : decode (bM m) pc = .ok (o, len)) (hc : ck1 m pc (32, k, z, tb) o len = some pc') (ht : sht x = 4) (h0 : 0 ≤ j) (h1 : j < shl x) : stp1 p l e R s mid args below meth c Q D cy base b L xs m pc pc' ls ((0, v) :: (0, j) :: (2, x) :: st) H ls st (hs H x j (w16u v)) := by
  obtain ⟨hxx, hb, -, hown, -, hts, hK, -⟩ := F
  replace hc : ck_32 m pc (32, k, z, tb) o len = some pc' := hc
  unfold ck_32 at hc
  obtain ⟨h, rfl⟩ := opg_s hc
  simp only [Bool.and_eq_true, decide_eq_true_eq] at h
  obtain ⟨rfl, rfl⟩ := h
  have hxn := sh_ne (k := x) (Or.inr (by omega))
  refine stp1.wr (by funext j; rw [hs_app, if_neg (by omega)]) (by funext j; rw [hs_app, if_neg (by omega)]) fun f la sv Hm locs cells slots hh kk2 => ?_
  obtain ⟨hl, hs, hw, hS, -⟩ := hh
  replace hs := srel_i hs
  obtain ⟨v', sv', rfl, hv, hs⟩ := hs
  replace hs := srel_i hs
  obtain ⟨j', sv', rfl, hj, hs⟩ := hs
  replace hs := srel_a hs hxn.1
  obtain ⟨sv', rfl, ho, hs⟩ := hs
  obtain ⟨ws, g, q1, q2, q3, q4, q5⟩ := hw.arr ho (t := 4) ht (by omega)
  obtain ⟨g1, g2⟩ := vp_in_of_int (n := (shl x).toNat) hj h0 (by omega)
  refine va_cast hxx hb hK q3 q4 hS (x.toNat - 1) 3 q1 rfl g1 hd fun Hm' locs' hP' hD' hS' => kk2 _ _ _ hs ?_ hS'
  rw [hs_eq]
  exact q5 _ _ _ (fun i hi => upd_rel q2 g2 h0 (by rw [nar_c, hv]) i hi) hP' hD'
theorem ofNat_shl {x : Int} : (Int32.ofNat (shl x).toNat).toInt = shl x := by
  have h := (sh_all x).2.2.1
  have : (Int32.ofNat (shl x).toNat).toInt = ((shl x).toNat : Int) := nI_toInt (by omega)
  rw [this]
  omega
theorem sim_33 {x : Int} (F : frm p s mid args meth c D cy base b L xs m) (hd : decode (bM m) pc = .ok (o, len)) (hc : ck1 m pc (33, k, z, tb) o len = some pc') (ht : sht x ≠ 0) : stp1 p l e R s mid args below meth c Q D cy base b L xs m pc pc' ls ((2, x) :: st) H ls (vi (shl x) :: st) H := by
  obtain ⟨hxx, hb, -, hown, -, hts, hK, -⟩ := F
  replace hc : ck_33 m pc (33, k, z, tb) o len = some pc' := hc
  unfold ck_33 at hc
  obtain ⟨h, rfl⟩ := opg_s hc
  simp only [Bool.and_eq_true, decide_eq_true_eq] at h
  obtain ⟨rfl, rfl⟩ := h
  refine stp1.pure rfl fun f la sv Hm locs cells slots hh kk2 => ?_
  obtain ⟨hl, hs, hw, -⟩ := hh
  have hxn := (sh_ne (k := x) (Or.inr ht)).1
  replace hs := srel_a hs hxn
  obtain ⟨sv', rfl, ho, hs⟩ := hs
  have h5 := (sh_all x).2.2.2.1
  have h6 : sht x = 1 ∨ sht x = 2 ∨ sht x = 3 ∨ sht x = 4 := by omega
  rcases h6 with h6 | h6 | h6 | h6
  · obtain ⟨ws, g, q1, q2, q3, q4, -⟩ := hw.arr ho (t := 1) h6 (by omega)
    exact va_alen hxx hb hK q3 (x.toNat - 1) 0 q1 (ty := .int) rfl rfl hd (kk2 _ _ hl (hs.i ofNat_shl))
  · obtain ⟨ws, g, q1, q2, q3, q4, -⟩ := hw.arrL ho h6
    exact va_alen hxx hb hK q3 (x.toNat - 1) 1 q1 (ty := .long) rfl rfl hd (kk2 _ _ hl (hs.i ofNat_shl))
  · obtain ⟨ws, g, q1, q2, q3, q4, -⟩ := hw.arr ho (t := 3) h6 (by omega)
    exact va_alen hxx hb hK q3 (x.toNat - 1) 2 q1 (ty := .byte) rfl rfl hd (kk2 _ _ hl (hs.i ofNat_shl))
  · obtain ⟨ws, g, q1, q2, q3, q4, -⟩ := hw.arr ho (t := 4) h6 (by omega)
    exact va_alen hxx hb hK q3 (x.toNat - 1) 3 q1 (ty := .char) rfl rfl hd (kk2 _ _ hl (hs.i ofNat_shl))
end SIM
end
section
/-! THE SIMULATION, fifth part: making, constants' texts, copying, the script, Object's own constructor -/
theorem wd_arr : ∀ ty : FieldType, ty = .int ∨ ty = .long ∨ ty = .byte ∨ ty = .char → Cond.arrayClass ty ∈ lw_g := by
  rintro ty (rfl | rfl | rfl | rfl)
  · exact mem_g (List.mem_of_getElem? (i := 343) (by decide +kernel)) rfl
  · exact mem_g (List.mem_of_getElem? (i := 344) (by decide +kernel)) rfl
  · exact mem_g (List.mem_of_getElem? (i := 224) (by decide +kernel)) rfl
  · exact mem_g (List.mem_of_getElem? (i := 1946) (by decide +kernel)) rfl
theorem wd_sys : Cond.native arraycopyName ∈ lw_g ∧ Cond.static arraycopyName ∈ lw_g ∧ Cond.initialized "java/lang/System" ∈ lw_g :=
  ⟨mem_g (List.mem_of_getElem? (i := 1239) (by decide +kernel)) rfl, mem_g (List.mem_of_getElem? (i := 1238) (by decide +kernel)) rfl, mem_g (List.mem_of_getElem? (i := 174) (by decide +kernel)) rfl⟩
theorem wd_obj : Cond.instanceMethod Lib.objectInit ∈ lw_g ∧ Cond.code Lib.objectInit ⟨#[0xb1]⟩ 1 none ∈ lw_g :=
  ⟨mem_g (List.mem_of_getElem? (i := 181) (by decide +kernel)) rfl, mem_g (List.mem_of_getElem? (i := 182) (by decide +kernel)) rfl⟩
section SIM
variable {p : Program} {l : Launch} {e : Env} {R : Room} {s : State} {mid : MethodId} {args : Array Value} {below : List Frame} {meth : Method} {c : Code} {Q : State → Prop}
variable {D : va_G} {cy : Nat → ClassId} {b : Nat → Nat} {base L : Nat} {xs : Nat → Int32} {m : Nat}
variable {pc pc' len k : Nat} {z : Int} {tb : List (Int × Nat)} {o : JI} {ls st ls' st' : List AV} {H H' : Hp}
theorem sim_46 (F : frm p s mid args meth c D cy base b L xs m) (hd : decode (bM m) pc = .ok (o, len)) (hc : ck1 m pc (46, k, z, tb) o len = some pc') : stp1 p l e R s mid args below meth c Q D cy base b L xs m pc pc' ls st H ls (va z :: st) H := by
  obtain ⟨hxx, hb, -, hown, -, hts, hK, -, -, -, -, ⟨hz1, hz2⟩, -⟩ := F
  refine stp1.pure rfl fun f la sv Hm locs cells slots hh kk => ?_
  obtain ⟨hl, hs, -, -, -, ⟨-, hf1, hf2⟩, -⟩ := hh
  replace hc : ck_46 m pc (46, k, z, tb) o len = some pc' := hc
  unfold ck_46 at hc
  dsimp only at hc
  split at hc
  · obtain ⟨h, rfl⟩ := opg_s hc
    simp only [Bool.and_eq_true, decide_eq_true_eq] at h
    obtain ⟨rfl, ⟨h1, rfl, rfl⟩ | ⟨h1, rfl, rfl⟩⟩ := h
    · exact va_ldcS hxx hb hown (tx := tx0) (q := b 1) (by rw [h1]; exact hz1) hd (kk _ _ hl (hs.a (vrel_a.mpr (Or.inr ⟨by unfold okr; omega, by rw [hf1]⟩))))
    · exact va_ldcS hxx hb hown (tx := tx1) (q := b 2) (by rw [h1]; exact hz2) hd (kk _ _ hl (hs.a (vrel_a.mpr (Or.inr ⟨by unfold okr; omega, by rw [hf2]⟩))))
  · cases hc
theorem sim_48 {j y : Int} (F : frm p s mid args meth c D cy base b L xs m) (hd : decode (bM m) pc = .ok (o, len)) (hc : ck1 m pc (48, k, z, tb) o len = some pc') (hy : y = 999) (h0 : 0 ≤ j) (h1 : j < H 0 1) : stp1 p l e R s mid args below meth c Q D cy base b L xs m pc pc' ls ((0, j) :: (2, y) :: st) H ls (vi (H 999 j) :: st) H := by
  obtain ⟨hxx, hb, -, hown, -, hts, hK, hX, hbb, hbs, -⟩ := F
  refine stp1.pure rfl fun f la sv Hm locs cells slots hh kk => ?_
  obtain ⟨hl, hs, -, hS, -, ⟨hf, -⟩, hL, hxs, hLL⟩ := hh
  replace hc : ck_48 m pc (48, k, z, tb) o len = some pc' := hc
  unfold ck_48 at hc
  obtain ⟨h, rfl⟩ := opg_s hc
  simp only [Bool.and_eq_true, decide_eq_true_eq] at h
  obtain ⟨rfl, rfl⟩ := h
  replace hs := srel_i hs
  obtain ⟨j', sv', rfl, hj, hs⟩ := hs
  replace hs := srel_a hs (by omega)
  obtain ⟨sv', rfl, ho, hs⟩ := hs
  subst hy
  rw [hf]
  obtain ⟨g1, g2⟩ := vp_in_of_int (n := L) hj h0 (by omega)
  refine va_sld hxx hb hX (by omega) (fun q => by unfold aq at q; omega) hS g1 hd (kk _ _ hl (hs.i ?_))
  rw [g2, ← hxs _ (by omega), int_tn h0]
theorem sim_49 {y : Int} (F : frm p s mid args meth c D cy base b L xs m) (hd : decode (bM m) pc = .ok (o, len)) (hc : ck1 m pc (49, k, z, tb) o len = some pc') (hy : y = 999) : stp1 p l e R s mid args below meth c Q D cy base b L xs m pc pc' ls ((2, y) :: st) H ls (vi (H 0 1) :: st) H := by
  obtain ⟨hxx, hb, -, hown, -, hts, hK, hX, hbb, hbs, -⟩ := F
  refine stp1.pure rfl fun f la sv Hm locs cells slots hh kk => ?_
  obtain ⟨hl, hs, -, hS, -, ⟨hf, -⟩, hL, hxs, hLL⟩ := hh
  replace hc : ck_49 m pc (49, k, z, tb) o len = some pc' := hc
  unfold ck_49 at hc
  obtain ⟨h, rfl⟩ := opg_s hc
  simp only [Bool.and_eq_true, decide_eq_true_eq] at h
  obtain ⟨rfl, rfl⟩ := h
  replace hs := srel_a hs (by omega)
  obtain ⟨sv', rfl, ho, hs⟩ := hs
  subst hy
  rw [hf]
  refine va_slen hxx hb hX (by omega) (fun q => by unfold aq at q; omega) hS hd (kk _ _ hl (hs.i ?_))
  rw [hL]
  exact nI_toInt (by omega)
theorem sim_52 {y : Int} (F : frm p s mid args meth c D cy base b L xs m) (hR : 1 ≤ R.frames ∧ 20 ≤ R.locals) (hd : decode (bM m) pc = .ok (o, len)) (hc : ck1 m pc (52, k, z, tb) o len = some pc') (hy : y ≠ 0) (hw : wds st ≤ 8) : stp1 p l e R s mid args below meth c Q D cy base b L xs m pc pc' ls ((2, y) :: st) H ls st H := by
  obtain ⟨hxx, hb, hml, hown, -, hts, hK, -⟩ := F
  refine stp1.pure rfl fun f la sv Hm locs cells slots hh kk => ?_
  obtain ⟨hl, hs, -, hS, hlen, -⟩ := hh
  replace hc : ck_52 m pc (52, k, z, tb) o len = some pc' := hc
  unfold ck_52 at hc
  split at hc
  · rename_i x
    obtain ⟨h, rfl⟩ := opg_s hc
    simp only [Bool.and_eq_true, decide_eq_true_eq] at h
    obtain ⟨rfl, h2⟩ := h
    have hq := ML_ok _ (List.contains_iff_mem.mp h2)
    replace hs := srel_a hs hy
    obtain ⟨sv', rfl, ho, hs⟩ := hs
    have hwd := srel_wds hs
    exact W.objInit hxx hb hown (hts _ (mem_g hq rfl)) (hts _ wd_obj.1) (hts _ wd_obj.2) rfl (by show la.size = _; rw [hl.size, hml, hlen]) rfl hd hR.1 (by show 2 * 0 + _ + 12 ≤ _; omega) (kk _ _ hl hs)
  · cases hc
theorem dfl_rel {f : Int → Nat} {n : Int} {ci j : Nat} (hci : ci < 12) (hj : j < (clD ci).2.2) : vrel f n (ftg ci j, 0) (defaultValue (tyD ci j)) := by
  have key : ((List.range 12).all fun ci => (List.range (clD ci).2.2).all fun j => decide (tyD ci j = .int ∨ tyD ci j = .boolean ∨ tyD ci j = .long ∨ isReferenceType (tyD ci j) = true)) = true := by decide +kernel
  have h := of_decide_eq_true (List.all_eq_true.mp (List.all_eq_true.mp key ci (List.mem_range.mpr hci)) j (List.mem_range.mpr hj))
  rcases h with h | h | h | h
  · rw [ftg_i (Or.inl h), h]; exact vrel_i.mpr ⟨0, rfl, rfl⟩
  · rw [ftg_i (Or.inr h), h]; exact vrel_i.mpr ⟨0, rfl, rfl⟩
  · rw [ftg_l h, h]; exact vrel_l.mpr ⟨0, rfl, rfl⟩
  · rw [ftg_a h]
    have : defaultValue (tyD ci j) = .null := by
      cases hq : tyD ci j <;> rw [hq] at h <;> first | rfl | cases h
    rw [this]
    exact vrel_a.mpr (Or.inl ⟨rfl, rfl⟩)
theorem KD_mem {ci : Nat} (h : ci < 12) : ci ∈ KD := by
  match ci, h with
  | 0, _ | 1, _ | 2, _ | 3, _ | 4, _ | 5, _ | 6, _ | 7, _ | 8, _ | 9, _ | 10, _ | 11, _ => decide +kernel
  | n + 12, h => omega
theorem szs_1 (n : Nat) : szs (n + 1) - szs n = szc (n + 1) := by show szs n + szc (n + 1) - szs n = _; omega
theorem sim_43 (F : frm p s mid args meth c D cy base b L xs m) (hd : decode (bM m) pc = .ok (o, len)) (hc : ck1 m pc (43, k, z, tb) o len = some pc') (hz : shc (H 0 0 + 1) = z) : stp1 p l e R s mid args below meth c Q D cy base b L xs m pc pc' ls st H ls (va (H 0 0 + 1) :: st) (hs H 0 0 (H 0 0 + 1)) := by
  obtain ⟨hxx, hb, hml, hown, -, hts, hK, -, hbb, hbs, -⟩ := F
  intro f la sv Hm locs cells slots hh hRc hRs kk
  obtain ⟨hl, hst, hw, hS, hlen, hff, hL, hxs, hLL⟩ := hh
  replace hc : ck_43 m pc (43, k, z, tb) o len = some pc' := hc
  unfold ck_43 at hc
  dsimp only at hc
  split at hc
  · obtain ⟨h, rfl⟩ := opg_s hc
    simp only [Bool.and_eq_true, decide_eq_true_eq] at h
    obtain ⟨rfl, h2, h3, h4⟩ := h
    have hci : z.toNat < 12 := by omega
    obtain ⟨hc1, hin, hty, hnm, hre⟩ := cls_at hci
    have hq := KC_ok _ (List.contains_iff_mem.mp h2)
    have hq1 := KD1_ok _ (KD_mem hci)
    have hq2 := KD2_ok _ (KD_mem hci)
    obtain ⟨N, ws, w1, w2, w3, w4, w5, w6, w7⟩ := hw
    have hrg := (sh_all (H 0 0 + 1)).2.2.2.2.1 (Or.inl (by omega))
    have e00 : hs H 0 0 (H 0 0 + 1) 0 0 = H 0 0 + 1 := hs_same
    have eN : (H 0 0).toNat = N := by omega
    have eN1 : (H 0 0 + 1).toNat = N + 1 := by omega
    have esz : szc ((N : Int) + 1) = (clD z.toNat).2.2 := by
      unfold szc
      rw [w1] at hz
      rw [hz, if_pos h3]
    rw [e00, eN, eN1] at hRc hRs kk
    rw [szs_1, esz] at hRs kk
    rw [show N + 1 - N = 1 by omega] at hRc kk
    refine va_new hxx hb hts hin (tyD z.toNat) hty hown (hts _ (mem_g hq rfl)) (hts _ (mem_g hq1 rfl)) (hts _ (mem_g hq2 rfl)) hK w5 w6 hS (fun q hq => Nat.le_trans hbs hq) hc1 (fs := (List.range (clD z.toNat).2.2).map (fun j => defaultValue (tyD z.toNat j))) (fun j hj => ?_) hRc hRs hd fun q Hm' hP' hD' hS' => ?_
    · show defaultValue (tyD z.toNat j) = List.getD _ j Value.null
      simp [hj]
    · obtain ⟨f', a1, a2, a3⟩ := wrl.push (cy := cy) (f := f) (H := H) (D := D) (base := base) (Hm := Hm) (Hm' := Hm') ⟨N, ws, w1, by omega, w3, w4, hP', hD', w7⟩ (fun g => Or.inl ⟨by omega, (List.range (clD z.toNat).2.2).map (fun j => defaultValue (tyD z.toNat j)), by rw [hz], by rw [hz]; simp, fun j hj => by
        rw [hz]
        simp at hj
        exact ⟨_, by simp [hj], dfl_rel hci hj⟩⟩)
      have hle : H 0 0 ≤ H 0 0 + 1 := by omega
      refine kk f' la _ Hm' locs a1 ⟨by rw [e00]; exact hl.mono hle a1, ?_, a3, hS', hlen, ?_, ?_, ?_, hLL⟩
      · rw [e00]
        exact (hst.mono hle a1).a (vrel_a.mpr (Or.inr ⟨by unfold okr; omega, by rw [a2]⟩))
      · exact ⟨by rw [a1 _ (by unfold okr; omega)]; exact hff.1, by rw [a1 _ (by unfold okr; omega)]; exact hff.2.1, by rw [a1 _ (by unfold okr; omega)]; exact hff.2.2⟩
      · rw [hs_app, if_neg (by omega)]; exact hL
      · intro j hj
        rw [hs_app, if_neg (by omega)]; exact hxs j hj
  · cases hc
theorem va_RA_eq {U : State} {c1 c2 : ClassId} {ty : FieldType} (ht : ty = .int ∨ ty = .long ∨ ty = .byte ∨ ty = .char) (h1 : va_RA U c1 ty) (h2 : va_RA U c2 ty) : c1 = c2 := by
  rcases ht with rfl | rfl | rfl | rfl
  all_goals exact Option.some.inj (Eq.trans (Eq.symm h1) h2)
theorem sim_44 {x : Int} (F : frm p s mid args meth c D cy base b L xs m) (hd : decode (bM m) pc = .ok (o, len)) (hc : ck1 m pc (44, k, z, tb) o len = some pc') (hz : sht (H 0 0 + 1) = k) (hx : shl (H 0 0 + 1) = x) : stp1 p l e R s mid args below meth c Q D cy base b L xs m pc pc' ls ((0, x) :: st) H ls (va (H 0 0 + 1) :: st) (hs H 0 0 (H 0 0 + 1)) := by
  obtain ⟨hxx, hb, hml, hown, -, hts, hK, -, hbb, hbs, -⟩ := F
  intro f la sv Hm locs cells slots hh hRc hRs kk
  obtain ⟨hl, hst, hw, hS, hlen, hff, hL, hxs, hLL⟩ := hh
  replace hst := srel_i hst
  obtain ⟨y, sv', rfl, hy, hst⟩ := hst
  replace hc : ck_44 m pc (44, k, z, tb) o len = some pc' := hc
  unfold ck_44 at hc
  dsimp only at hc
  split at hc
  · obtain ⟨h, rfl⟩ := opg_s hc
    simp only [Bool.and_eq_true, decide_eq_true_eq] at h
    obtain ⟨rfl, h2⟩ := h
    obtain ⟨N, ws, w1, w2, w3, w4, w5, w6, w7⟩ := hw
    have hrg := (sh_all (H 0 0 + 1)).2.2.2.2.1 (Or.inr (by omega))
    have hex := (sh_all (H 0 0 + 1)).2.1
    have hsl := (sh_all (H 0 0 + 1)).2.2.1
    have e00 : hs H 0 0 (H 0 0 + 1) 0 0 = H 0 0 + 1 := hs_same
    have eN : (H 0 0).toNat = N := by omega
    have eN1 : (H 0 0 + 1).toNat = N + 1 := by omega
    have esz : szc ((N : Int) + 1) = x.toNat := by
      unfold szc
      rw [← w1, if_neg (by omega), hx]
    rw [e00, eN, eN1] at hRc hRs kk
    rw [szs_1, esz] at hRs kk
    rw [show N + 1 - N = 1 by omega] at hRc kk
    have hyn : ¬ y < 0 := fun q => by have := Int32.lt_iff_toInt_lt.mp q; rw [hy] at this; simp at this; omega
    have hyN : y.toNatClampNeg = x.toNat := by show y.toInt.toNat = _; rw [hy]
    have goal : ∀ (ty : FieldType) (at_ : Jvm.ClassFile.ArrayType) (a0 : vp_A), newarray.typeOf at_ = ty → (ty = .int ∨ ty = .long ∨ ty = .byte ∨ ty = .char) → decode (bM m) pc = .ok (.newarray at_, 2) → tys4 cy ≠ [] → (tys4 cy)[k - 1]? = some (cy k, ty) → (∀ cA : ClassId, vp_cell cA a0 = arrV cA x.toNat (fun _ => defaultValue ty)) → (∀ g, cellR g (H 0 0 + 1) cy (H 0 0 + 1) (fun _ => 0) (.inl (cy k, a0))) → W p l e R s mid args below meth c Hm locs cells slots Q (F0 mid pc la (.int y :: sv')) := by
      intro ty at_ a0 h4 h5 h6 _ h7 h8 h9
      refine va_newa hxx hb (hts _ (wd_arr _ (by rw [h4]; exact h5))) h4 hK w5 w6 hS (fun q hq => Nat.le_trans hbs hq) (a0 := a0) h8 hyn hyN ?_ hRc hRs h6 fun q cA Hm' hK' hP' hD' hS' => ?_
      · rcases h5 with rfl | rfl | rfl | rfl <;> (simp only [componentBytes]; omega)
      · have hcA : cA = cy k := by
          have t1 := (hK'.2 4 (cA, ty) rfl).2
          have t2 := (hK.2 (k - 1) _ h7).2
          exact va_RA_eq h5 t1 t2
        subst hcA
        obtain ⟨f', a1, a2, a3⟩ := wrl.push (cy := cy) (f := f) (H := H) (D := D) (base := base) (Hm := Hm) (Hm' := Hm') ⟨N, ws, w1, by omega, w3, w4, hP', hD', w7⟩ h9
        have hle : H 0 0 ≤ H 0 0 + 1 := by omega
        refine kk f' la _ Hm' locs a1 ⟨by rw [e00]; exact hl.mono hle a1, ?_, a3, hS', hlen, ?_, ?_, ?_, hLL⟩
        · rw [e00]
          exact (hst.mono hle a1).a (vrel_a.mpr (Or.inr ⟨by unfold okr; omega, by rw [a2]⟩))
        · exact ⟨by rw [a1 _ (by unfold okr; omega)]; exact hff.1, by rw [a1 _ (by unfold okr; omega)]; exact hff.2.1, by rw [a1 _ (by unfold okr; omega)]; exact hff.2.2⟩
        · rw [hs_app, if_neg (by omega)]; exact hL
        · intro j hj
          rw [hs_app, if_neg (by omega)]; exact hxs j hj
    have hne : tys4 cy ≠ [] := by unfold tys4; simp
    rcases h2 with ⟨rfl, rfl⟩ | ⟨rfl, rfl⟩ | ⟨rfl, rfl⟩ | ⟨rfl, rfl⟩
    · exact goal .int .int (x.toNat, .inl fun _ => 0) rfl (by simp) hd hne rfl (fun _ => rfl) (fun g => Or.inr (Or.inl ⟨by omega, fun _ => 0, by rw [hz, hx]; rfl, fun _ _ => rfl⟩))
    · exact goal .long .long (x.toNat, .inr (.inl fun _ => 0)) rfl (by simp) hd hne rfl (fun _ => rfl) (fun g => Or.inr (Or.inr ⟨by omega, fun _ => 0, by rw [hx], fun _ _ => rfl⟩))
    · exact goal .byte .byte (x.toNat, .inl fun _ => 0) rfl (by simp) hd hne rfl (fun _ => rfl) (fun g => Or.inr (Or.inl ⟨by omega, fun _ => 0, by rw [hz, hx]; rfl, fun _ _ => rfl⟩))
    · exact goal .char .char (x.toNat, .inl fun _ => 0) rfl (by simp) hd hne rfl (fun _ => rfl) (fun g => Or.inr (Or.inl ⟨by omega, fun _ => 0, by rw [hz, hx]; rfl, fun _ _ => rfl⟩))
  · cases hc
/-- two rows of ints of one world -/
theorem wrl.arr2 {f : Int → Nat} {Hm : Heap} {c1 c2 : Int} (hw : wrl D cy base f H Hm) (ho1 : okr (H 0 0) c1) (ho2 : okr (H 0 0) c2) (h1 : sht c1 = 1) (h2 : sht c2 = 1) :
    ∃ (ws : va_W) (g1 g2 : Nat → Int32), ws[c1.toNat - 1]? = some (f c1, .inl (cy 1, (shl c1).toNat, .inl g1)) ∧ (∀ j : Nat, (j : Int) < shl c1 → (g1 j).toInt = H c1 j) ∧ ws[c2.toNat - 1]? = some (f c2, .inl (cy 1, (shl c2).toNat, .inl g2)) ∧ (∀ j : Nat, (j : Int) < shl c2 → (g2 j).toInt = H c2 j) ∧ va_P D vwCl ws Hm ∧ va_D (aq base) ws ∧
      (∀ (g' : Nat → Int32) (h' : Int → Int) (Hm' : Heap), (∀ j : Nat, (j : Int) < shl c2 → (g' j).toInt = h' j) → va_P D vwCl (ws.set (c2.toNat - 1) (f c2, .inl (cy 1, (shl c2).toNat, .inl g'))) Hm' → va_D (aq base) (ws.set (c2.toNat - 1) (f c2, .inl (cy 1, (shl c2).toNat, .inl g'))) → wrl D cy base f (fun a => if a = c2 then h' else H a) Hm') := by
  obtain ⟨N, ws, w1, w2, w3, w4, w5, w6, w7⟩ := hw
  have sing : wrl D cy base f H Hm := ⟨N, ws, w1, w2, w3, w4, w5, w6, w7⟩
  have get : ∀ c : Int, okr (H 0 0) c → sht c = 1 → ∃ g : Nat → Int32, ws[c.toNat - 1]? = some (f c, .inl (cy 1, (shl c).toNat, .inl g)) ∧ (∀ j : Nat, (j : Int) < shl c → (g j).toInt = H c j) := by
    intro c ho h
    have hr := (sh_all c).2.2.2.2.1 (Or.inr (by omega))
    have hx := (sh_all c).2.1
    have hN : c ≤ N := by rw [w1] at ho; unfold okr at ho; omega
    obtain ⟨e, q1, q2⟩ := w4 (c.toNat - 1) (by omega)
    have ec : ((c.toNat - 1 : Nat) : Int) + 1 = c := by omega
    rw [ec] at q1 q2
    rcases q2 with ⟨g1, -⟩ | ⟨g1, g, rfl, g2⟩ | ⟨g1, -⟩
    · exact absurd ⟨g1, by omega⟩ hx
    · exact ⟨g, by rw [q1, h]; rfl, g2⟩
    · omega
  obtain ⟨g1, a1, a2⟩ := get c1 ho1 h1
  obtain ⟨g2, b1, b2⟩ := get c2 ho2 h2
  refine ⟨ws, g1, g2, a1, a2, b1, b2, w5, w6, fun g' h' Hm' hg hP hD => ?_⟩
  have hr := (sh_all c2).2.2.2.2.1 (Or.inr (by omega))
  have hN : c2 ≤ N := by rw [w1] at ho2; unfold okr at ho2; omega
  have ec : ((c2.toNat - 1 : Nat) : Int) + 1 = c2 := by omega
  refine ⟨N, _, ?_, w2, by rw [List.length_set]; exact w3, fun k hk => ?_, hP, hD, fun k hk hk2 j => ?_⟩
  · show (if (0 : Int) = c2 then h' else H 0) 0 = _
    rw [if_neg (by omega)]
    exact w1
  · by_cases e2 : k = c2.toNat - 1
    · subst e2
      refine ⟨_, by rw [List.getElem?_set_self (by omega), ec], ?_⟩
      show cellR f N cy (((c2.toNat - 1 : Nat) : Int) + 1) (if (((c2.toNat - 1 : Nat) : Int) + 1) = c2 then h' else _) _
      rw [ec, if_pos rfl]
      exact Or.inr (Or.inl ⟨by omega, g', by rw [h2]; rfl, hg⟩)
    · obtain ⟨e3, q3, q4⟩ := w4 k hk
      refine ⟨e3, by rw [List.getElem?_set_ne (by omega)]; exact q3, ?_⟩
      show cellR f N cy ((k : Int) + 1) (if ((k : Int) + 1) = c2 then h' else _) e3
      rw [if_neg (by omega)]
      exact q4
  · show (if k = c2 then h' else H k) j = 0
    rw [if_neg (by omega)]
    exact w7 k hk hk2 j
theorem sim_47 {n dp ee sp cc : Int} (F : frm p s mid args meth c D cy base b L xs m) (hR : 1 ≤ R.frames ∧ 40 ≤ R.locals) (hd : decode (bM m) pc = .ok (o, len)) (hc : ck1 m pc (47, k, z, tb) o len = some pc')
    (q : cc ≠ ee ∧ sht cc = 1 ∧ sht ee = 1 ∧ 0 ≤ n ∧ 0 ≤ dp ∧ 0 ≤ sp ∧ sp + n ≤ shl cc ∧ dp + n ≤ shl ee ∧ wds st ≤ 8) : stp1 p l e R s mid args below meth c Q D cy base b L xs m pc pc' ls ((0, n) :: (0, dp) :: (2, ee) :: (0, sp) :: (2, cc) :: st) H ls st (fun a b => if a = ee ∧ dp ≤ b ∧ b < dp + n then H cc (sp + (b - dp)) else H a b) := by
  obtain ⟨hxx, hb, hml, hown, -, hts, hK, -⟩ := F
  obtain ⟨q1, q2, q3, q4, q5, q6, q7, q8, q9⟩ := q
  have hen := sh_ne (k := ee) (Or.inr (by omega))
  have hcn := sh_ne (k := cc) (Or.inr (by omega))
  have hH : (fun a b => if a = ee ∧ dp ≤ b ∧ b < dp + n then H cc (sp + (b - dp)) else H a b) = fun a => if a = ee then (fun b => if dp ≤ b ∧ b < dp + n then H cc (sp + (b - dp)) else H ee b) else H a := by
    funext a b
    by_cases h : a = ee
    · subst h; simp
    · simp [h]
  rw [hH]
  refine stp1.wr (by simp; intro h; omega) (by simp; intro h; omega) fun f la sv Hm locs cells slots hh kk => ?_
  obtain ⟨hl, hs, hw, hS, hlen, -⟩ := hh
  replace hc : ck_47 m pc (47, k, z, tb) o len = some pc' := hc
  unfold ck_47 at hc
  split at hc
  · obtain ⟨h, rfl⟩ := opg_s hc
    simp only [Bool.and_eq_true, decide_eq_true_eq] at h
    obtain ⟨rfl, h2⟩ := h
    have hq := ML_ok _ (List.contains_iff_mem.mp h2)
    replace hs := srel_i hs
    obtain ⟨n', sv', rfl, hn, hs⟩ := hs
    replace hs := srel_i hs
    obtain ⟨dp', sv', rfl, hdp, hs⟩ := hs
    replace hs := srel_a hs hen.1
    obtain ⟨sv', rfl, ho2, hs⟩ := hs
    replace hs := srel_i hs
    obtain ⟨sp', sv', rfl, hsp, hs⟩ := hs
    replace hs := srel_a hs hcn.1
    obtain ⟨sv', rfl, ho1, hs⟩ := hs
    obtain ⟨ws, g1, g2, a1, a2, b1, b2, w5, w6, w7⟩ := hw.arr2 ho1 ho2 q2 q3
    have neg : ∀ {x' : Int32} {x : Int}, x'.toInt = x → 0 ≤ x → ¬ x' < 0 ∧ x'.toNatClampNeg = x.toNat := by
      intro x' x hx h0
      exact ⟨fun h => by have := Int32.lt_iff_toInt_lt.mp h; rw [hx] at this; simp at this; omega, by show x'.toInt.toNat = _; rw [hx]⟩
    obtain ⟨n1, n2⟩ := neg hn q4
    obtain ⟨d1, d2⟩ := neg hdp q5
    obtain ⟨s1, s2⟩ := neg hsp q6
    have hwd := srel_wds hs
    refine va_copyi hxx hb (by rw [hml, hl.size, hlen]) hown (hts _ (mem_g hq rfl)) (hts _ wd_sys.1) (hts _ wd_sys.2.1) (hts _ wd_sys.2.2) hK w5 w6 hS (cc.toNat - 1) (ee.toNat - 1) 0 0 a1 b1 (ty := .int) rfl rfl rfl s1 d1 n1 (by omega) (by omega) (fun _ _ => rfl) hR.1 ?_ hd fun Hm' locs' hP' hD' hS' => kk _ _ _ hs (w7 _ _ _ (fun j hj => ?_) hP' hD') hS'
    · have : nativeFrameWords "java/lang/System" "arraycopy" 5 = 7 := by decide +kernel
      omega
    · unfold va_cpy
      rw [n2, d2, s2]
      by_cases hin : dp.toNat ≤ j ∧ j < dp.toNat + n.toNat
      · rw [if_pos hin, if_pos (by omega), a2 _ (by omega)]
        congr 1
        omega
      · rw [if_neg hin, if_neg (by omega)]
        exact b2 j hj
  · cases hc
end SIM
end
section
/-! THE JDK's String.length and charAt on the constants: names and rows out of the claim's NAMES -/
def RJ0 : String := "java/lang/String"
abbrev cJ0_length_8abf5 : ByteArray := prog_17_method_54_code
def yJ0_length_8abf5 : MethodName := ⟨RJ0, "length", "()I"⟩
abbrev cJ0_charAt_5068e : ByteArray := prog_17_method_56_code
def yJ0_charAt_5068e : MethodName := ⟨RJ0, "charAt", "(I)C"⟩
abbrev cJ0_coder_7d493 : ByteArray := prog_17_method_152_code
def yJ0_coder_7d493 : MethodName := ⟨RJ0, "coder", "()B"⟩
abbrev cJ0_isLatin1_aae02 : ByteArray := prog_17_method_154_code
def yJ0_isLatin1_aae02 : MethodName := ⟨RJ0, "isLatin1", "()Z"⟩
abbrev cJ0_checkIndex_df160 : ByteArray := prog_17_method_155_code
def yJ0_checkIndex_df160 : MethodName := ⟨RJ0, "checkIndex", "(II)V"⟩
def RJ1 : String := "java/lang/StringLatin1"
abbrev cJ1_charAt_3b067 : ByteArray := prog_18_method_2_code
def yJ1_charAt_3b067 : MethodName := ⟨RJ1, "charAt", "([BI)C"⟩
def RJ3 : String := "jdk/internal/util/Preconditions"
abbrev cJ3_checkIndex_8e157 : ByteArray := prog_22_method_11_code
def yJ3_checkIndex_8e157 : MethodName := ⟨RJ3, "checkIndex", "(IILjava/util/function/BiFunction;)I"⟩
theorem dJ0_length_8abf5_0 : decode cJ0_length_8abf5 0 = .ok (.aload_n 0, 1) := by decide +kernel
theorem dJ0_length_8abf5_1 : decode cJ0_length_8abf5 1 = .ok (.getfield 9, 3) := by decide +kernel
theorem dJ0_length_8abf5_4 : decode cJ0_length_8abf5 4 = .ok (.arraylength, 1) := by decide +kernel
theorem dJ0_length_8abf5_5 : decode cJ0_length_8abf5 5 = .ok (.aload_n 0, 1) := by decide +kernel
theorem dJ0_length_8abf5_6 : decode cJ0_length_8abf5 6 = .ok (.invokevirtual 335, 3) := by decide +kernel
theorem dJ0_length_8abf5_9 : decode cJ0_length_8abf5 9 = .ok (.ishr, 1) := by decide +kernel
theorem dJ0_length_8abf5_10 : decode cJ0_length_8abf5 10 = .ok (.ireturn, 1) := by decide +kernel
theorem dJ0_charAt_5068e_0 : decode cJ0_charAt_5068e 0 = .ok (.aload_n 0, 1) := by decide +kernel
theorem dJ0_charAt_5068e_1 : decode cJ0_charAt_5068e 1 = .ok (.invokevirtual 492, 3) := by decide +kernel
theorem dJ0_charAt_5068e_4 : decode cJ0_charAt_5068e 4 = .ok (.ifCond .eq 12, 3) := by decide +kernel
theorem dJ0_charAt_5068e_7 : decode cJ0_charAt_5068e 7 = .ok (.aload_n 0, 1) := by decide +kernel
theorem dJ0_charAt_5068e_8 : decode cJ0_charAt_5068e 8 = .ok (.getfield 9, 3) := by decide +kernel
theorem dJ0_charAt_5068e_11 : decode cJ0_charAt_5068e 11 = .ok (.iload_n 1, 1) := by decide +kernel
theorem dJ0_charAt_5068e_12 : decode cJ0_charAt_5068e 12 = .ok (.invokestatic 495, 3) := by decide +kernel
theorem dJ0_charAt_5068e_15 : decode cJ0_charAt_5068e 15 = .ok (.ireturn, 1) := by decide +kernel
theorem dJ0_charAt_5068e_16 : decode cJ0_charAt_5068e 16 = .ok (.aload_n 0, 1) := by decide +kernel
theorem dJ0_charAt_5068e_17 : decode cJ0_charAt_5068e 17 = .ok (.getfield 9, 3) := by decide +kernel
theorem dJ0_charAt_5068e_20 : decode cJ0_charAt_5068e 20 = .ok (.iload_n 1, 1) := by decide +kernel
theorem dJ0_charAt_5068e_21 : decode cJ0_charAt_5068e 21 = .ok (.invokestatic 498, 3) := by decide +kernel
theorem dJ0_charAt_5068e_24 : decode cJ0_charAt_5068e 24 = .ok (.ireturn, 1) := by decide +kernel
theorem dJ0_coder_7d493_0 : decode cJ0_coder_7d493 0 = .ok (.getstatic 38, 3) := by decide +kernel
theorem dJ0_coder_7d493_3 : decode cJ0_coder_7d493 3 = .ok (.ifCond .eq 10, 3) := by decide +kernel
theorem dJ0_coder_7d493_6 : decode cJ0_coder_7d493 6 = .ok (.aload_n 0, 1) := by decide +kernel
theorem dJ0_coder_7d493_7 : decode cJ0_coder_7d493 7 = .ok (.getfield 15, 3) := by decide +kernel
theorem dJ0_coder_7d493_10 : decode cJ0_coder_7d493 10 = .ok (.goto 4, 3) := by decide +kernel
theorem dJ0_coder_7d493_13 : decode cJ0_coder_7d493 13 = .ok (.iconst 1, 1) := by decide +kernel
theorem dJ0_coder_7d493_14 : decode cJ0_coder_7d493 14 = .ok (.ireturn, 1) := by decide +kernel
theorem dJ0_isLatin1_aae02_0 : decode cJ0_isLatin1_aae02 0 = .ok (.getstatic 38, 3) := by decide +kernel
theorem dJ0_isLatin1_aae02_3 : decode cJ0_isLatin1_aae02 3 = .ok (.ifCond .eq 14, 3) := by decide +kernel
theorem dJ0_isLatin1_aae02_6 : decode cJ0_isLatin1_aae02 6 = .ok (.aload_n 0, 1) := by decide +kernel
theorem dJ0_isLatin1_aae02_7 : decode cJ0_isLatin1_aae02 7 = .ok (.getfield 15, 3) := by decide +kernel
theorem dJ0_isLatin1_aae02_10 : decode cJ0_isLatin1_aae02 10 = .ok (.ifCond .ne 7, 3) := by decide +kernel
theorem dJ0_isLatin1_aae02_13 : decode cJ0_isLatin1_aae02 13 = .ok (.iconst 1, 1) := by decide +kernel
theorem dJ0_isLatin1_aae02_14 : decode cJ0_isLatin1_aae02 14 = .ok (.goto 4, 3) := by decide +kernel
theorem dJ0_isLatin1_aae02_17 : decode cJ0_isLatin1_aae02 17 = .ok (.iconst 0, 1) := by decide +kernel
theorem dJ0_isLatin1_aae02_18 : decode cJ0_isLatin1_aae02 18 = .ok (.ireturn, 1) := by decide +kernel
theorem dJ0_checkIndex_df160_0 : decode cJ0_checkIndex_df160 0 = .ok (.iload_n 0, 1) := by decide +kernel
theorem dJ0_checkIndex_df160_1 : decode cJ0_checkIndex_df160 1 = .ok (.iload_n 1, 1) := by decide +kernel
theorem dJ0_checkIndex_df160_2 : decode cJ0_checkIndex_df160 2 = .ok (.getstatic 1053, 3) := by decide +kernel
theorem dJ0_checkIndex_df160_5 : decode cJ0_checkIndex_df160 5 = .ok (.invokestatic 1059, 3) := by decide +kernel
theorem dJ0_checkIndex_df160_8 : decode cJ0_checkIndex_df160 8 = .ok (.pop, 1) := by decide +kernel
theorem dJ0_checkIndex_df160_9 : decode cJ0_checkIndex_df160 9 = .ok (.return_, 1) := by decide +kernel
theorem dJ1_charAt_3b067_0 : decode cJ1_charAt_3b067 0 = .ok (.iload_n 1, 1) := by decide +kernel
theorem dJ1_charAt_3b067_1 : decode cJ1_charAt_3b067 1 = .ok (.aload_n 0, 1) := by decide +kernel
theorem dJ1_charAt_3b067_2 : decode cJ1_charAt_3b067 2 = .ok (.arraylength, 1) := by decide +kernel
theorem dJ1_charAt_3b067_3 : decode cJ1_charAt_3b067 3 = .ok (.invokestatic 9, 3) := by decide +kernel
theorem dJ1_charAt_3b067_6 : decode cJ1_charAt_3b067 6 = .ok (.aload_n 0, 1) := by decide +kernel
theorem dJ1_charAt_3b067_7 : decode cJ1_charAt_3b067 7 = .ok (.iload_n 1, 1) := by decide +kernel
theorem dJ1_charAt_3b067_8 : decode cJ1_charAt_3b067 8 = .ok (.baload, 1) := by decide +kernel
theorem dJ1_charAt_3b067_9 : decode cJ1_charAt_3b067 9 = .ok (.sipush 255, 3) := by decide +kernel
theorem dJ1_charAt_3b067_12 : decode cJ1_charAt_3b067 12 = .ok (.iand, 1) := by decide +kernel
theorem dJ1_charAt_3b067_13 : decode cJ1_charAt_3b067 13 = .ok (.i2c, 1) := by decide +kernel
theorem dJ1_charAt_3b067_14 : decode cJ1_charAt_3b067 14 = .ok (.ireturn, 1) := by decide +kernel
theorem dJ3_checkIndex_8e157_0 : decode cJ3_checkIndex_8e157 0 = .ok (.iload_n 0, 1) := by decide +kernel
theorem dJ3_checkIndex_8e157_1 : decode cJ3_checkIndex_8e157 1 = .ok (.ifCond .lt 8, 3) := by decide +kernel
theorem dJ3_checkIndex_8e157_4 : decode cJ3_checkIndex_8e157 4 = .ok (.iload_n 0, 1) := by decide +kernel
theorem dJ3_checkIndex_8e157_5 : decode cJ3_checkIndex_8e157 5 = .ok (.iload_n 1, 1) := by decide +kernel
theorem dJ3_checkIndex_8e157_6 : decode cJ3_checkIndex_8e157 6 = .ok (.if_icmp .lt 10, 3) := by decide +kernel
theorem dJ3_checkIndex_8e157_9 : decode cJ3_checkIndex_8e157 9 = .ok (.aload_n 2, 1) := by decide +kernel
theorem dJ3_checkIndex_8e157_10 : decode cJ3_checkIndex_8e157 10 = .ok (.iload_n 0, 1) := by decide +kernel
theorem dJ3_checkIndex_8e157_11 : decode cJ3_checkIndex_8e157 11 = .ok (.iload_n 1, 1) := by decide +kernel
theorem dJ3_checkIndex_8e157_12 : decode cJ3_checkIndex_8e157 12 = .ok (.invokestatic 95, 3) := by decide +kernel
theorem dJ3_checkIndex_8e157_15 : decode cJ3_checkIndex_8e157 15 = .ok (.athrow, 1) := by decide +kernel
theorem dJ3_checkIndex_8e157_16 : decode cJ3_checkIndex_8e157 16 = .ok (.iload_n 0, 1) := by decide +kernel
theorem dJ3_checkIndex_8e157_17 : decode cJ3_checkIndex_8e157 17 = .ok (.ireturn, 1) := by decide +kernel

theorem goodIn_g {c0 : Cond} {ws : List Cond} (h : ∀ w ∈ ws, w ∈ lw_g) : GoodIn (c0 :: lw_g) ws := fun w hw => ⟨List.mem_cons_of_mem _ (h w hw), good_of_word (List.mem_filter.mp (h w hw)).2⟩
theorem wsV_g {own C : String} {idx : Nat} {y : MethodName} {c0 : Cond} (h1 : Cond.methodLink own idx y ∈ lw_g) (h2 : Cond.instanceMethod y ∈ lw_g) (h3 : Cond.selects C y y ∈ lw_g) (h4 : Cond.initialized C ∈ lw_g) (h5 : c0 ∈ lw_g) : ∀ w ∈ wsV own idx C y (c0 :: lw_g), w ∈ lw_g := by
  intro w hw
  unfold wsV at hw
  rcases List.mem_append.mp hw with h | h
  · simp only [List.mem_cons, List.not_mem_nil, or_false] at h
    rcases h with rfl | rfl | rfl | rfl <;> assumption
  · rcases List.mem_cons.mp h with rfl | h
    · exact h5
    · exact h
theorem jcall {p : Program} {l : Launch} {e : Env} {R : Room} {s : State} {m : MethodId} {args : Array Value} {below : List Frame} {meth : Method} {c : Code} {H : Heap} {locs : List Loc} {cells slots : Nat} {Q : State → Prop} {g : JFrame} {rest : List Value} {v : Option Value} (hr : CallRun p l e R s m args below meth c H locs cells slots 0 0 g rest (fun st o t => o = .returned v ∧ t.heap = st.heap) (fun _ => False)) (kk : W p l e R s m args below meth c H locs cells slots Q { g with pc := g.pc + 3, stack := v.toList ++ rest }) : W p l e R s m args below meth c H locs cells slots Q g := by
  intro T hT X
  obtain ⟨v2, st₀, t, T', L, h0, X', hL, e1, ⟨hv, hh⟩, st⟩ := hr T hT X
  cases hv
  obtain ⟨t2, a1, b1⟩ := kk T' (by rw [e1, hh, h0]) (Stand.forget X' (fun q h => (hL q h).elim))
  exact ⟨t2, st t2 a1, b1⟩
def qcV (v : Option Value) : Array Value → State → Outcome → State → Prop := fun _ st o t => o = .returned v ∧ t.heap = st.heap
def jst (base a v N : Nat) (g : Nat → Int32) (U : State) (Hm : Heap) : Prop := va_O "java/lang/String" a (aq base) U Hm ∧ va_OF "java/lang/String" "coder" "B" (.int 0) a (aq base) U Hm ∧ va_OF "java/lang/String" "value" "[B" (.ref v) a (aq base) U Hm ∧ va_T .byte v N (fun j => .int (g j)) (aq base) U Hm ∧ va_Z "java/lang/String" "COMPACT_STRINGS" "Z" (.int 1) (aq base) U Hm ∧ ∃ t : Value, (t = .null ∨ ∃ q : Nat, t = .ref q) ∧ va_Z "jdk/internal/util/Preconditions" "SIOOBE_FORMATTER" "Ljava/util/function/BiFunction;" t (aq base) U Hm
theorem jst.same {base a v N : Nat} {g : Nat → Int32} {u U : State} (h : jst base a v N g u u.heap) (hv : U.vm = u.vm) (hh : U.heap = u.heap) : jst base a v N g U U.heap := by
  have hal : u.vm.Alike U.vm := by rw [hv]; exact Vm.Alike.refl _
  obtain ⟨h1, h2, h3, h4, h5, t, ht, h6⟩ := h
  rw [hh]
  exact ⟨h1.moved hal, h2.moved hal, h3.moved hal, h4.moved hal, h5.moved hal, t, ht, h6.moved hal⟩
theorem jst.warm {base a v N : Nat} {g : Nat → Int32} {s U : State} {H0 Hm : Heap} (h : jst base a v N g s H0) (hW : s.WarmedH U.vm) (hq : ∀ a : Nat, a < H0.size → ¬ aq base a → Hm[a]? = H0[a]?) : jst base a v N g U Hm := by
  obtain ⟨h1, h2, h3, h4, h5, t, ht, h6⟩ := h
  exact ⟨(h1.moved hW.alike).kept hq, (h2.moved hW.alike).kept hq, (h3.moved hW.alike).kept hq, (h4.moved hW.alike).kept hq, (h5.moved hW.alike).kept hq, t, ht, (h6.moved hW.alike).kept hq⟩
def jPc (base : Nat) (a v N : Nat) (g : Nat → Int32) (av : List Value) : Array Value → State → Prop := va_Pc av (fun U => jst base a v N g U U.heap)
theorem jPc_blind {base a v N : Nat} {g : Nat → Int32} {av : List Value} : FrameBlind (jPc base a v N g av) := fun _ _ _ _ h => ⟨h.1, h.2.same rfl rfl⟩
def wJ (y : MethodName) (bs : ByteArray) (k : Nat) (r : Option FieldType) : List Cond := .code y bs k r :: lw_g
set_option maxRecDepth 100000 in
set_option maxHeartbeats 4000000 in
theorem jm_coder (l : Launch) (base a v N : Nat) (g : Nat → Int32) : Met l yJ0_coder_7d493 (wJ yJ0_coder_7d493 cJ0_coder_7d493 1 (some .byte)) (k2_rm 0 0) (jPc base a v N g [.ref a]) (qcV (some (.int 0))) 0 0 (fun _ => False) := by
  refine Met.ofW (cc := cJ0_coder_7d493) (maxL := 1) (ret := (some .byte)) (by decide +kernel) rfl ?_
  intro p e s m args below meth c s₁ B hml hv
  obtain ⟨rfl, hj⟩ := hv
  have hx := B.exec
  have hb := B.bytes
  have hr := B.returns
  have hts0 := atoms_spec (ws := wJ yJ0_coder_7d493 cJ0_coder_7d493 1 (some .byte)) B.pre
  have hts : ∀ w ∈ lw_g, w.before _ s = true := fun w h => hts0 w (List.mem_cons_of_mem _ h)
  have hown := findClass_of_methodNamed B.named
  have hlocks := B.notSynchronized
  have hS : va_S (aq base) s.heap s.heap [] := va_S.rf
  have hl := lv_entry ([.ref a]) (n := 1) (Nat.le_of_ble_eq_true rfl)
  rw [lg_entry_eq]
  generalize (lg_sl ([.ref a]) ++ List.replicate (1 - (lg_sl ([.ref a])).length) Slot.unset).toArray = ls at hl ⊢
  have hsz : ls.size = 1 := hl.1
  obtain ⟨j1, j2, j3, j4, j5, tt, htt, j6⟩ := id hj
  refine va_gets hx hb j5 hS hown (hts (.fieldLink "java/lang/String" 38 "java/lang/String" "COMPACT_STRINGS" "Z") (mem_g (List.mem_of_getElem? (i := 754) (by decide +kernel)) rfl)) (fun _ h => h) dJ0_coder_7d493_0 ?_
  refine lv_if_eq (tgt := 13) hx hb dJ0_coder_7d493_3 (by decide) (fun h => absurd h (by decide)) (fun _ => ?_)
  refine lv_aload_n hx hb dJ0_coder_7d493_6 rfl (lv_at hl 0 rfl) ?_
  refine vk_getf hx hb j2 hS hown (hts (.fieldLink "java/lang/String" 15 "java/lang/String" "coder" "B") (mem_g (List.mem_of_getElem? (i := 2537) (by decide +kernel)) rfl)) (fun _ h => h) dJ0_coder_7d493_7 ?_
  refine lv_goto (tgt := 14) hx hb dJ0_coder_7d493_10 (by decide) ?_
  exact W.zret hx hb hr (by decide +kernel) (fun t ht _ => ⟨rfl, ht⟩) (fun _ h => by cases h) dJ0_coder_7d493_14
set_option maxRecDepth 100000 in
set_option maxHeartbeats 4000000 in
theorem jm_isLatin1 (l : Launch) (base a v N : Nat) (g : Nat → Int32) : Met l yJ0_isLatin1_aae02 (wJ yJ0_isLatin1_aae02 cJ0_isLatin1_aae02 1 (some .boolean)) (k2_rm 0 0) (jPc base a v N g [.ref a]) (qcV (some (.int 1))) 0 0 (fun _ => False) := by
  refine Met.ofW (cc := cJ0_isLatin1_aae02) (maxL := 1) (ret := (some .boolean)) (by decide +kernel) rfl ?_
  intro p e s m args below meth c s₁ B hml hv
  obtain ⟨rfl, hj⟩ := hv
  have hx := B.exec
  have hb := B.bytes
  have hr := B.returns
  have hts0 := atoms_spec (ws := wJ yJ0_isLatin1_aae02 cJ0_isLatin1_aae02 1 (some .boolean)) B.pre
  have hts : ∀ w ∈ lw_g, w.before _ s = true := fun w h => hts0 w (List.mem_cons_of_mem _ h)
  have hown := findClass_of_methodNamed B.named
  have hlocks := B.notSynchronized
  have hS : va_S (aq base) s.heap s.heap [] := va_S.rf
  have hl := lv_entry ([.ref a]) (n := 1) (Nat.le_of_ble_eq_true rfl)
  rw [lg_entry_eq]
  generalize (lg_sl ([.ref a]) ++ List.replicate (1 - (lg_sl ([.ref a])).length) Slot.unset).toArray = ls at hl ⊢
  have hsz : ls.size = 1 := hl.1
  obtain ⟨j1, j2, j3, j4, j5, tt, htt, j6⟩ := id hj
  refine va_gets hx hb j5 hS hown (hts (.fieldLink "java/lang/String" 38 "java/lang/String" "COMPACT_STRINGS" "Z") (mem_g (List.mem_of_getElem? (i := 754) (by decide +kernel)) rfl)) (fun _ h => h) dJ0_isLatin1_aae02_0 ?_
  refine lv_if_eq (tgt := 17) hx hb dJ0_isLatin1_aae02_3 (by decide) (fun h => absurd h (by decide)) (fun _ => ?_)
  refine lv_aload_n hx hb dJ0_isLatin1_aae02_6 rfl (lv_at hl 0 rfl) ?_
  refine vk_getf hx hb j2 hS hown (hts (.fieldLink "java/lang/String" 15 "java/lang/String" "coder" "B") (mem_g (List.mem_of_getElem? (i := 2537) (by decide +kernel)) rfl)) (fun _ h => h) dJ0_isLatin1_aae02_7 ?_
  refine lv_if_ne (tgt := 17) hx hb dJ0_isLatin1_aae02_10 (by decide) (fun h => absurd rfl h) (fun _ => ?_)
  refine lv_iconst (v := 1) hx hb dJ0_isLatin1_aae02_13 (by decide) ?_
  refine lv_goto (tgt := 18) hx hb dJ0_isLatin1_aae02_14 (by decide) ?_
  exact W.zret hx hb hr (by decide +kernel) (fun t ht _ => ⟨rfl, ht⟩) (fun _ h => by cases h) dJ0_isLatin1_aae02_18
set_option maxRecDepth 100000 in
set_option maxHeartbeats 4000000 in
theorem jm_length (l : Launch) (base a v N : Nat) (g : Nat → Int32) : Met l yJ0_length_8abf5 (wJ yJ0_length_8abf5 cJ0_length_8abf5 1 (some .int)) (k2_rm 1 20) (jPc base a v N g [.ref a]) (qcV (some (.int (Int32.ofNat N)))) 0 0 (fun _ => False) := by
  refine Met.ofW (cc := cJ0_length_8abf5) (maxL := 1) (ret := (some .int)) (by decide +kernel) rfl ?_
  intro p e s m args below meth c s₁ B hml hv
  obtain ⟨rfl, hj⟩ := hv
  have hx := B.exec
  have hb := B.bytes
  have hr := B.returns
  have hts0 := atoms_spec (ws := wJ yJ0_length_8abf5 cJ0_length_8abf5 1 (some .int)) B.pre
  have hts : ∀ w ∈ lw_g, w.before _ s = true := fun w h => hts0 w (List.mem_cons_of_mem _ h)
  have hown := findClass_of_methodNamed B.named
  have hlocks := B.notSynchronized
  have hS : va_S (aq base) s.heap s.heap [] := va_S.rf
  have hl := lv_entry ([.ref a]) (n := 1) (Nat.le_of_ble_eq_true rfl)
  rw [lg_entry_eq]
  generalize (lg_sl ([.ref a]) ++ List.replicate (1 - (lg_sl ([.ref a])).length) Slot.unset).toArray = ls at hl ⊢
  have hsz : ls.size = 1 := hl.1
  obtain ⟨j1, j2, j3, j4, j5, tt, htt, j6⟩ := id hj
  refine lv_aload_n hx hb dJ0_length_8abf5_0 rfl (lv_at hl 0 rfl) ?_
  refine vk_getf hx hb j3 hS hown (hts (.fieldLink "java/lang/String" 9 "java/lang/String" "value" "[B") (mem_g (List.mem_of_getElem? (i := 2536) (by decide +kernel)) rfl)) (fun _ h => h) dJ0_length_8abf5_1 ?_
  refine va_tlen hx hb j4 hS rfl dJ0_length_8abf5_4 ?_
  refine lv_aload_n hx hb dJ0_length_8abf5_5 rfl (lv_at hl 0 rfl) ?_
  refine jcall (W.runV (C := RJ0) (As := []) (rest := [.int (Int32.ofNat N)]) ⟨hx, hb, hml, hown, hts0⟩ (jm_coder l base a v N g) (cwV (ws := wJ yJ0_coder_7d493 cJ0_coder_7d493 1 (some .byte)) (R := _) 0 hts0 (goodIn_g (wsV_g (mem_g (List.mem_of_getElem? (i := 750) (by decide +kernel)) rfl) (mem_g (List.mem_of_getElem? (i := 751) (by decide +kernel)) rfl) (mem_g (List.mem_of_getElem? (i := 752) (by decide +kernel)) rfl) (mem_g (List.mem_of_getElem? (i := 168) (by decide +kernel)) rfl) (mem_g (List.mem_of_getElem? (i := 753) (by decide +kernel)) rfl))) rfl rfl rfl (by decide +kernel) ⟨Nat.le_of_ble_eq_true rfl, Nat.le_of_ble_eq_true rfl⟩) ⟨jPc_blind, ?_, fun U hU hW => ⟨rfl, by show jst base a v N g U U.heap; rw [hU]; exact hj.warm hW (fun _ _ _ => rfl)⟩⟩ rfl rfl hsz rfl (lv_room (Nat.le_of_ble_eq_true rfl)) dJ0_length_8abf5_6 ⟨Nat.le_of_ble_eq_true rfl, Nat.le_of_ble_eq_true rfl⟩) ?_
  · obtain ⟨cell, q1, q2, q3, -⟩ := j1
    exact ⟨cell, q1, q2, q3⟩
  refine lv_ishr hx hb dJ0_length_8abf5_9 ?_
  rw [show Int32.ofNat N >>> ((0 : Int32) &&& 31) = Int32.ofNat N from sb_shr0 _]
  exact W.iret hx hb hr (fun t ht _ => ⟨rfl, ht⟩) (fun _ h => by cases h) dJ0_length_8abf5_10
set_option maxRecDepth 100000 in
set_option maxHeartbeats 4000000 in
theorem jm_pcheck1 (l : Launch) (base a v N : Nat) (g : Nat → Int32) (x y : Int32) (t0 : Nat) (h1 : ¬ x < 0) (h2 : x < y) : Met l yJ3_checkIndex_8e157 (wJ yJ3_checkIndex_8e157 cJ3_checkIndex_8e157 3 (some .int)) (k2_rm 0 0) (jPc base a v N g [.int x, .int y, .ref t0]) (qcV (some (.int x))) 0 0 (fun _ => False) := by
  refine Met.ofW (cc := cJ3_checkIndex_8e157) (maxL := 3) (ret := (some .int)) (by decide +kernel) rfl ?_
  intro p e s m args below meth c s₁ B hml hv
  obtain ⟨rfl, hj⟩ := hv
  have hx := B.exec
  have hb := B.bytes
  have hr := B.returns
  have hts0 := atoms_spec (ws := wJ yJ3_checkIndex_8e157 cJ3_checkIndex_8e157 3 (some .int)) B.pre
  have hts : ∀ w ∈ lw_g, w.before _ s = true := fun w h => hts0 w (List.mem_cons_of_mem _ h)
  have hown := findClass_of_methodNamed B.named
  have hlocks := B.notSynchronized
  have hS : va_S (aq base) s.heap s.heap [] := va_S.rf
  have hl := lv_entry ([.int x, .int y, .ref t0]) (n := 3) (Nat.le_of_ble_eq_true rfl)
  rw [lg_entry_eq]
  generalize (lg_sl ([.int x, .int y, .ref t0]) ++ List.replicate (3 - (lg_sl ([.int x, .int y, .ref t0])).length) Slot.unset).toArray = ls at hl ⊢
  have hsz : ls.size = 3 := hl.1
  obtain ⟨j1, j2, j3, j4, j5, tt, htt, j6⟩ := id hj
  refine lv_iload_n hx hb dJ3_checkIndex_8e157_0 rfl (lv_at hl 0 rfl) ?_
  refine lv_if_lt (tgt := 9) hx hb dJ3_checkIndex_8e157_1 (by decide) (fun h => absurd h h1) (fun _ => ?_)
  refine lv_iload_n hx hb dJ3_checkIndex_8e157_4 rfl (lv_at hl 0 rfl) ?_
  refine lv_iload_n hx hb dJ3_checkIndex_8e157_5 rfl (lv_at hl 1 rfl) ?_
  refine lv_icmp_lt (tgt := 16) hx hb dJ3_checkIndex_8e157_6 (by decide) (fun _ => ?_) (fun h => absurd h2 h)
  refine lv_iload_n hx hb dJ3_checkIndex_8e157_16 rfl (lv_at hl 0 rfl) ?_
  exact W.iret hx hb hr (fun t ht _ => ⟨rfl, ht⟩) (fun _ h => by cases h) dJ3_checkIndex_8e157_17
set_option maxRecDepth 100000 in
set_option maxHeartbeats 4000000 in
theorem jm_pcheck0 (l : Launch) (base a v N : Nat) (g : Nat → Int32) (x y : Int32) (h1 : ¬ x < 0) (h2 : x < y) : Met l yJ3_checkIndex_8e157 (wJ yJ3_checkIndex_8e157 cJ3_checkIndex_8e157 3 (some .int)) (k2_rm 0 0) (jPc base a v N g [.int x, .int y, .null]) (qcV (some (.int x))) 0 0 (fun _ => False) := by
  refine Met.ofW (cc := cJ3_checkIndex_8e157) (maxL := 3) (ret := (some .int)) (by decide +kernel) rfl ?_
  intro p e s m args below meth c s₁ B hml hv
  obtain ⟨rfl, hj⟩ := hv
  have hx := B.exec
  have hb := B.bytes
  have hr := B.returns
  have hts0 := atoms_spec (ws := wJ yJ3_checkIndex_8e157 cJ3_checkIndex_8e157 3 (some .int)) B.pre
  have hts : ∀ w ∈ lw_g, w.before _ s = true := fun w h => hts0 w (List.mem_cons_of_mem _ h)
  have hown := findClass_of_methodNamed B.named
  have hlocks := B.notSynchronized
  have hS : va_S (aq base) s.heap s.heap [] := va_S.rf
  have hl := lv_entry ([.int x, .int y, .null]) (n := 3) (Nat.le_of_ble_eq_true rfl)
  rw [lg_entry_eq]
  generalize (lg_sl ([.int x, .int y, .null]) ++ List.replicate (3 - (lg_sl ([.int x, .int y, .null])).length) Slot.unset).toArray = ls at hl ⊢
  have hsz : ls.size = 3 := hl.1
  obtain ⟨j1, j2, j3, j4, j5, tt, htt, j6⟩ := id hj
  refine lv_iload_n hx hb dJ3_checkIndex_8e157_0 rfl (lv_at hl 0 rfl) ?_
  refine lv_if_lt (tgt := 9) hx hb dJ3_checkIndex_8e157_1 (by decide) (fun h => absurd h h1) (fun _ => ?_)
  refine lv_iload_n hx hb dJ3_checkIndex_8e157_4 rfl (lv_at hl 0 rfl) ?_
  refine lv_iload_n hx hb dJ3_checkIndex_8e157_5 rfl (lv_at hl 1 rfl) ?_
  refine lv_icmp_lt (tgt := 16) hx hb dJ3_checkIndex_8e157_6 (by decide) (fun _ => ?_) (fun h => absurd h2 h)
  refine lv_iload_n hx hb dJ3_checkIndex_8e157_16 rfl (lv_at hl 0 rfl) ?_
  exact W.iret hx hb hr (fun t ht _ => ⟨rfl, ht⟩) (fun _ h => by cases h) dJ3_checkIndex_8e157_17
theorem jm_pcheck (l : Launch) (base a v N : Nat) (g : Nat → Int32) (x y : Int32) (t0 : Value) (ht0 : t0 = .null ∨ ∃ q : Nat, t0 = .ref q) (h1 : ¬ x < 0) (h2 : x < y) : Met l yJ3_checkIndex_8e157 (wJ yJ3_checkIndex_8e157 cJ3_checkIndex_8e157 3 (some .int)) (k2_rm 0 0) (jPc base a v N g [.int x, .int y, t0]) (qcV (some (.int x))) 0 0 (fun _ => False) := by
  rcases ht0 with rfl | ⟨q, rfl⟩
  · exact jm_pcheck0 l base a v N g x y h1 h2
  · exact jm_pcheck1 l base a v N g x y q h1 h2
theorem wsS_g {own : String} {idx : Nat} {y : MethodName} {c0 : Cond} (h1 : Cond.methodLink own idx y ∈ lw_g) (h2 : Cond.static y ∈ lw_g) (h4 : Cond.initialized y.cls ∈ lw_g) (h5 : c0 ∈ lw_g) : ∀ w ∈ va_wsS own idx y (c0 :: lw_g), w ∈ lw_g := by
  intro w hw
  unfold va_wsS at hw
  rcases List.mem_append.mp hw with h | h
  · simp only [List.mem_cons, List.not_mem_nil, or_false] at h
    rcases h with rfl | rfl | rfl <;> assumption
  · rcases List.mem_cons.mp h with rfl | h
    · exact h5
    · exact h
set_option maxRecDepth 100000 in
set_option maxHeartbeats 4000000 in
theorem jm_scheck (l : Launch) (base a v N : Nat) (g : Nat → Int32) (x y : Int32) (h1 : ¬ x < 0) (h2 : x < y) : Met l yJ0_checkIndex_df160 (wJ yJ0_checkIndex_df160 cJ0_checkIndex_df160 2 none) (k2_rm 1 22) (jPc base a v N g [.int x, .int y]) (qcV none) 0 0 (fun _ => False) := by
  refine Met.ofW (cc := cJ0_checkIndex_df160) (maxL := 2) (ret := none) (by decide +kernel) rfl ?_
  intro p e s m args below meth c s₁ B hml hv
  obtain ⟨rfl, hj⟩ := hv
  have hx := B.exec
  have hb := B.bytes
  have hr := B.returns
  have hts0 := atoms_spec (ws := wJ yJ0_checkIndex_df160 cJ0_checkIndex_df160 2 none) B.pre
  have hts : ∀ w ∈ lw_g, w.before _ s = true := fun w h => hts0 w (List.mem_cons_of_mem _ h)
  have hown := findClass_of_methodNamed B.named
  have hlocks := B.notSynchronized
  have hS : va_S (aq base) s.heap s.heap [] := va_S.rf
  have hl := lv_entry ([.int x, .int y]) (n := 2) (Nat.le_of_ble_eq_true rfl)
  rw [lg_entry_eq]
  generalize (lg_sl ([.int x, .int y]) ++ List.replicate (2 - (lg_sl ([.int x, .int y])).length) Slot.unset).toArray = ls at hl ⊢
  have hsz : ls.size = 2 := hl.1
  obtain ⟨j1, j2, j3, j4, j5, tt, htt, j6⟩ := id hj
  refine lv_iload_n hx hb dJ0_checkIndex_df160_0 rfl (lv_at hl 0 rfl) ?_
  refine lv_iload_n hx hb dJ0_checkIndex_df160_1 rfl (lv_at hl 1 rfl) ?_
  refine va_gets hx hb j6 hS hown (hts (.fieldLink "java/lang/String" 1053 "jdk/internal/util/Preconditions" "SIOOBE_FORMATTER" "Ljava/util/function/BiFunction;") (mem_g (List.mem_of_getElem? (i := 770) (by decide +kernel)) rfl)) (fun _ h => h) dJ0_checkIndex_df160_2 ?_
  refine jcall (W.runS (As := [.int x, .int y, tt]) (rest := []) ⟨hx, hb, hml, hown, hts0⟩ (jm_pcheck l base a v N g x y tt htt h1 h2) (va_cwS (ws := wJ yJ3_checkIndex_8e157 cJ3_checkIndex_8e157 3 (some .int)) (R := _) 3 hts0 (goodIn_g (wsS_g (mem_g (List.mem_of_getElem? (i := 772) (by decide +kernel)) rfl) (mem_g (List.mem_of_getElem? (i := 773) (by decide +kernel)) rfl) (mem_g (List.mem_of_getElem? (i := 170) (by decide +kernel)) rfl) (mem_g (List.mem_of_getElem? (i := 774) (by decide +kernel)) rfl))) rfl rfl rfl (by decide +kernel) ⟨Nat.le_of_ble_eq_true rfl, Nat.le_of_ble_eq_true rfl⟩) ⟨jPc_blind, fun U hU hW => ⟨rfl, by show jst base a v N g U U.heap; rw [hU]; exact hj.warm hW (fun _ _ _ => rfl)⟩⟩ rfl rfl hsz rfl (lv_room (Nat.le_of_ble_eq_true rfl)) dJ0_checkIndex_df160_5 ⟨Nat.le_of_ble_eq_true rfl, Nat.le_of_ble_eq_true rfl⟩) ?_
  refine lv_pop hx hb dJ0_checkIndex_df160_8 rfl ?_
  exact W.vret hx hb hr (fun t ht _ => ⟨rfl, ht⟩) (fun _ h => by cases h) dJ0_checkIndex_df160_9
set_option maxRecDepth 100000 in
set_option maxHeartbeats 4000000 in
theorem jm_lcharAt (l : Launch) (base a v N : Nat) (g : Nat → Int32) (x : Int32) (h1 : ¬ x < 0) (h2 : x < Int32.ofNat N) (h3 : vp_in x N) : Met l yJ1_charAt_3b067 (wJ yJ1_charAt_3b067 cJ1_charAt_3b067 2 (some .char)) (k2_rm 2 43) (jPc base a v N g [.ref v, .int x]) (qcV (some (.int ((g x.toNatClampNeg &&& 255).toUInt32 % 65536).toInt32))) 0 0 (fun _ => False) := by
  refine Met.ofW (cc := cJ1_charAt_3b067) (maxL := 2) (ret := (some .char)) (by decide +kernel) rfl ?_
  intro p e s m args below meth c s₁ B hml hv
  obtain ⟨rfl, hj⟩ := hv
  have hx := B.exec
  have hb := B.bytes
  have hr := B.returns
  have hts0 := atoms_spec (ws := wJ yJ1_charAt_3b067 cJ1_charAt_3b067 2 (some .char)) B.pre
  have hts : ∀ w ∈ lw_g, w.before _ s = true := fun w h => hts0 w (List.mem_cons_of_mem _ h)
  have hown := findClass_of_methodNamed B.named
  have hlocks := B.notSynchronized
  have hS : va_S (aq base) s.heap s.heap [] := va_S.rf
  have hl := lv_entry ([.ref v, .int x]) (n := 2) (Nat.le_of_ble_eq_true rfl)
  rw [lg_entry_eq]
  generalize (lg_sl ([.ref v, .int x]) ++ List.replicate (2 - (lg_sl ([.ref v, .int x])).length) Slot.unset).toArray = ls at hl ⊢
  have hsz : ls.size = 2 := hl.1
  obtain ⟨j1, j2, j3, j4, j5, tt, htt, j6⟩ := id hj
  refine lv_iload_n hx hb dJ1_charAt_3b067_0 rfl (lv_at hl 1 rfl) ?_
  refine lv_aload_n hx hb dJ1_charAt_3b067_1 rfl (lv_at hl 0 rfl) ?_
  refine va_tlen hx hb j4 hS rfl dJ1_charAt_3b067_2 ?_
  refine jcall (W.runS (As := [.int x, .int (Int32.ofNat N)]) (rest := []) ⟨hx, hb, hml, hown, hts0⟩ (jm_scheck l base a v N g x (Int32.ofNat N) h1 h2) (va_cwS (ws := wJ yJ0_checkIndex_df160 cJ0_checkIndex_df160 2 none) (R := _) 2 hts0 (goodIn_g (wsS_g (mem_g (List.mem_of_getElem? (i := 767) (by decide +kernel)) rfl) (mem_g (List.mem_of_getElem? (i := 768) (by decide +kernel)) rfl) (mem_g (List.mem_of_getElem? (i := 168) (by decide +kernel)) rfl) (mem_g (List.mem_of_getElem? (i := 769) (by decide +kernel)) rfl))) rfl rfl rfl (by decide +kernel) ⟨Nat.le_of_ble_eq_true rfl, Nat.le_of_ble_eq_true rfl⟩) ⟨jPc_blind, fun U hU hW => ⟨rfl, by show jst base a v N g U U.heap; rw [hU]; exact hj.warm hW (fun _ _ _ => rfl)⟩⟩ rfl rfl hsz rfl (lv_room (Nat.le_of_ble_eq_true rfl)) dJ1_charAt_3b067_3 ⟨Nat.le_of_ble_eq_true rfl, Nat.le_of_ble_eq_true rfl⟩) ?_
  refine lv_aload_n hx hb dJ1_charAt_3b067_6 rfl (lv_at hl 0 rfl) ?_
  refine lv_iload_n hx hb dJ1_charAt_3b067_7 rfl (lv_at hl 1 rfl) ?_
  refine va_tb hx hb j4 hS h3 rfl dJ1_charAt_3b067_8 ?_
  refine lv_sipush (v := 255) hx hb dJ1_charAt_3b067_9 (by decide) ?_
  refine lv_iand hx hb dJ1_charAt_3b067_12 ?_
  refine lv_i2c hx hb dJ1_charAt_3b067_13 rfl ?_
  exact W.zret hx hb hr (pk_nc _) (fun t ht _ => ⟨rfl, ht⟩) (fun _ h => by cases h) dJ1_charAt_3b067_14
set_option maxRecDepth 100000 in
set_option maxHeartbeats 4000000 in
theorem jm_charAt (l : Launch) (base a v N : Nat) (g : Nat → Int32) (x : Int32) (h1 : ¬ x < 0) (h2 : x < Int32.ofNat N) (h3 : vp_in x N) : Met l yJ0_charAt_5068e (wJ yJ0_charAt_5068e cJ0_charAt_5068e 2 (some .char)) (k2_rm 3 64) (jPc base a v N g [.ref a, .int x]) (qcV (some (.int ((g x.toNatClampNeg &&& 255).toUInt32 % 65536).toInt32))) 0 0 (fun _ => False) := by
  refine Met.ofW (cc := cJ0_charAt_5068e) (maxL := 2) (ret := (some .char)) (by decide +kernel) rfl ?_
  intro p e s m args below meth c s₁ B hml hv
  obtain ⟨rfl, hj⟩ := hv
  have hx := B.exec
  have hb := B.bytes
  have hr := B.returns
  have hts0 := atoms_spec (ws := wJ yJ0_charAt_5068e cJ0_charAt_5068e 2 (some .char)) B.pre
  have hts : ∀ w ∈ lw_g, w.before _ s = true := fun w h => hts0 w (List.mem_cons_of_mem _ h)
  have hown := findClass_of_methodNamed B.named
  have hlocks := B.notSynchronized
  have hS : va_S (aq base) s.heap s.heap [] := va_S.rf
  have hl := lv_entry ([.ref a, .int x]) (n := 2) (Nat.le_of_ble_eq_true rfl)
  rw [lg_entry_eq]
  generalize (lg_sl ([.ref a, .int x]) ++ List.replicate (2 - (lg_sl ([.ref a, .int x])).length) Slot.unset).toArray = ls at hl ⊢
  have hsz : ls.size = 2 := hl.1
  obtain ⟨j1, j2, j3, j4, j5, tt, htt, j6⟩ := id hj
  refine lv_aload_n hx hb dJ0_charAt_5068e_0 rfl (lv_at hl 0 rfl) ?_
  refine jcall (W.runV (C := RJ0) (As := []) (rest := []) ⟨hx, hb, hml, hown, hts0⟩ (jm_isLatin1 l base a v N g) (cwV (ws := wJ yJ0_isLatin1_aae02 cJ0_isLatin1_aae02 1 (some .boolean)) (R := _) 0 hts0 (goodIn_g (wsV_g (mem_g (List.mem_of_getElem? (i := 760) (by decide +kernel)) rfl) (mem_g (List.mem_of_getElem? (i := 761) (by decide +kernel)) rfl) (mem_g (List.mem_of_getElem? (i := 762) (by decide +kernel)) rfl) (mem_g (List.mem_of_getElem? (i := 168) (by decide +kernel)) rfl) (mem_g (List.mem_of_getElem? (i := 763) (by decide +kernel)) rfl))) rfl rfl rfl (by decide +kernel) ⟨Nat.le_of_ble_eq_true rfl, Nat.le_of_ble_eq_true rfl⟩) ⟨jPc_blind, ?_, fun U hU hW => ⟨rfl, by show jst base a v N g U U.heap; rw [hU]; exact hj.warm hW (fun _ _ _ => rfl)⟩⟩ rfl rfl hsz rfl (lv_room (Nat.le_of_ble_eq_true rfl)) dJ0_charAt_5068e_1 ⟨Nat.le_of_ble_eq_true rfl, Nat.le_of_ble_eq_true rfl⟩) ?_
  · obtain ⟨cell, q1, q2, q3, -⟩ := j1
    exact ⟨cell, q1, q2, q3⟩
  show W p l e _ s m _ below meth c _ _ _ _ _ (F0 m 4 ls [.int 1])
  refine lv_if_eq (tgt := 16) hx hb dJ0_charAt_5068e_4 (by decide) (fun h => absurd h (by decide)) (fun _ => ?_)
  refine lv_aload_n hx hb dJ0_charAt_5068e_7 rfl (lv_at hl 0 rfl) ?_
  refine vk_getf hx hb j3 hS hown (hts (.fieldLink "java/lang/String" 9 "java/lang/String" "value" "[B") (mem_g (List.mem_of_getElem? (i := 2536) (by decide +kernel)) rfl)) (fun _ h => h) dJ0_charAt_5068e_8 ?_
  refine lv_iload_n hx hb dJ0_charAt_5068e_11 rfl (lv_at hl 1 rfl) ?_
  refine jcall (W.runS (As := [.ref v, .int x]) (rest := []) ⟨hx, hb, hml, hown, hts0⟩ (jm_lcharAt l base a v N g x h1 h2 h3) (va_cwS (ws := wJ yJ1_charAt_3b067 cJ1_charAt_3b067 2 (some .char)) (R := _) 2 hts0 (goodIn_g (wsS_g (mem_g (List.mem_of_getElem? (i := 764) (by decide +kernel)) rfl) (mem_g (List.mem_of_getElem? (i := 765) (by decide +kernel)) rfl) (mem_g (List.mem_of_getElem? (i := 169) (by decide +kernel)) rfl) (mem_g (List.mem_of_getElem? (i := 766) (by decide +kernel)) rfl))) rfl rfl rfl (by decide +kernel) ⟨Nat.le_of_ble_eq_true rfl, Nat.le_of_ble_eq_true rfl⟩) ⟨jPc_blind, fun U hU hW => ⟨rfl, by show jst base a v N g U U.heap; rw [hU]; exact hj.warm hW (fun _ _ _ => rfl)⟩⟩ rfl rfl hsz rfl (lv_room (Nat.le_of_ble_eq_true rfl)) dJ0_charAt_5068e_12 ⟨Nat.le_of_ble_eq_true rfl, Nat.le_of_ble_eq_true rfl⟩) ?_
  exact W.zret hx hb hr (pk_nc _) (fun t ht _ => ⟨rfl, ht⟩) (fun _ h => by cases h) dJ0_charAt_5068e_15
end
section
/-! THE SIMULATION, last part: a run of the abstract machine is a run of the machine -/
section S14
theorem opc_s {m pc : Nat} {i : AI} {is : List AI} (h : chk m pc (i :: is) = true) (h17 : i.1 ≠ 17) : ∃ o len pc', decode (bM m) pc = .ok (o, len) ∧ ck1 m pc i o len = some pc' ∧ chk m pc' is = true := by
  unfold chk at h
  rw [if_neg h17] at h
  split at h
  · cases h
  · rename_i o len hd
    split at h
    · cases h
    · rename_i pc' hc
      exact ⟨o, len, pc', hd, hc, h⟩
/-- how many cells there are never falls -/
theorem am1_n {m pc pc' len : Nat} {i : AI} {o : JI} {ls st ls' st' : List AV} {H H' : Hp} (h : am1 i ls st H = some (ls', st', H')) (hc : ck1 m pc i o len = some pc') : H 0 0 ≤ H' 0 0 := by
  obtain ⟨op, k, z, tb⟩ := i
  have put : ∀ {c j x : Int}, 0 ≤ shc c ∨ sht c ≠ 0 → hs H c j x 0 0 = H 0 0 := fun {c j x} q => by
    have := (sh_all c).2.2.2.2.1 q
    rw [hs_app, if_neg (by omega)]
  unfold am1 at h
  dsimp only at h
  split at h
  all_goals first
    | (cases h; exact Int.le_refl _)
    | (cases h; done)
    | (split at h <;> first
        | (cases h; exact Int.le_refl _)
        | (cases h; done)
        | (cases h; rw [hs_same]; omega)
        | (split at h <;> first
            | (cases h; exact Int.le_refl _)
            | (cases h; done)
            | (rename_i hg
               cases h
               first
                 | (rw [hs_same]; omega)
                 | (rw [put (Or.inr (by have := hg.1; omega))]; exact Int.le_refl _)
                 | (refine Int.le_of_eq (put (Or.inl ?_)).symm
                    have hz : 0 ≤ z := by
                      first
                        | (have hc : ck_21 m pc (21, k, z, tb) o len = some pc' := hc
                           unfold ck_21 at hc; split at hc
                           · obtain ⟨q, -⟩ := opg_s hc
                             simp only [Bool.and_eq_true, decide_eq_true_eq] at q
                             exact q.2.2.1
                           · cases hc)
                        | (have hc : ck_22 m pc (22, k, z, tb) o len = some pc' := hc
                           unfold ck_22 at hc; split at hc
                           · obtain ⟨q, -⟩ := opg_s hc
                             simp only [Bool.and_eq_true, decide_eq_true_eq] at q
                             exact q.2.2.1
                           · cases hc)
                        | (have hc : ck_23 m pc (23, k, z, tb) o len = some pc' := hc
                           unfold ck_23 at hc; split at hc
                           · obtain ⟨q, -⟩ := opg_s hc
                             simp only [Bool.and_eq_true, decide_eq_true_eq] at q
                             exact q.2.2.1
                           · cases hc)
                        | (have hc : ck_24 m pc (24, k, z, tb) o len = some pc' := hc
                           unfold ck_24 at hc; split at hc
                           · obtain ⟨q, -⟩ := opg_s hc
                             simp only [Bool.and_eq_true, decide_eq_true_eq] at q
                             exact q.2.2.1
                           · cases hc)
                    first | (rw [hg]; exact hz) | (rw [hg.1]; exact hz))
                 | (have q := (sh_all _).2.2.2.2.1 (Or.inr (show sht _ ≠ 0 by rw [hg.2.2.1]; omega))
                    show _ ≤ (if (0 : Int) = _ ∧ _ ∧ _ then _ else _)
                    rw [if_neg (by omega)]
                    exact Int.le_refl _))))
theorem ex_n : ∀ (n : Nat) {d m pc : Nat} {is : List AI} {ls st : List AV} {H : Hp} {r : AV} {H' : Hp}, m < 374 → chk m pc is = true → ex n d m is ls st H = some (r, H') → H 0 0 ≤ H' 0 0
  | 0, _, _, _, _, _, _, _, _, _, _, _, h => by cases h
  | n + 1, d, m, pc, is, ls, st, H, r, H', hm, hk, h => by
    have jmp : ∀ {k : Nat} {ls st : List AV} {H : Hp}, ex n d m (blk m k) ls st H = some (r, H') → H 0 0 ≤ H' 0 0 := fun {k ls st H} h => ex_n n hm (chk_all hm k) h
    have cal : ∀ {c d' : Nat} {l : List AV} {kk : AV → List AV} {is' : List AI} {pc' : Nat}, c < 374 → chk m pc' is' = true → (match ex n d' c (blk c 0) l [] H with
        | some (r1, H1) => ex n d m is' ls (kk r1) H1
        | none => none) = some (r, H') → H 0 0 ≤ H' 0 0 := by
      intro c d' l kk is' pc' hc hk2 h
      cases hx : ex n d' c (blk c 0) l [] H with
      | none => rw [hx] at h; cases h
      | some q =>
        obtain ⟨r1, H1⟩ := q
        rw [hx] at h
        exact Int.le_trans (ex_n n hc (chk_all hc 0) hx) (ex_n n hm hk2 h)
    have h : stp (ex n) d m is ls st H = some (r, H') := h
    cases is with
    | nil => cases h
    | cons i is' =>
      obtain ⟨op, k, z, tb⟩ := i
      by_cases h17 : op = 17
      · subst h17; exact jmp h
      · obtain ⟨o, len, pc', hd, hc, hk'⟩ := opc_s hk h17
        unfold stp at h
        dsimp only at h
        split at h
        · split at h
          · split at h
            · exact jmp h
            · exact ex_n n hm hk' h
          · cases h
        · split at h
          · split at h
            · exact jmp h
            · exact ex_n n hm hk' h
          · cases h
        · exact jmp h
        · exact jmp h
        · split at h
          · cases h
          · split at h
            · refine cal (kk := fun r1 => r1 :: _) ?_ hk' h
              have hc : ck_35 m pc (35, k, z, tb) o len = some pc' := hc
              unfold ck_35 at hc; split at hc
              · obtain ⟨q, -⟩ := opg_s hc
                simp only [Bool.and_eq_true, decide_eq_true_eq] at q
                omega
              · cases hc
            · cases h
        · split at h
          · cases h
          · split at h
            · refine cal (kk := fun r1 => r1 :: _) ?_ hk' h
              have hc : ck_36 m pc (36, k, z, tb) o len = some pc' := hc
              unfold ck_36 at hc; split at hc
              · obtain ⟨q, -⟩ := opg_s hc
                simp only [Bool.and_eq_true, decide_eq_true_eq] at q
                omega
              · cases hc
            · cases h
        · split at h
          · cases h
          · split at h
            · refine cal (kk := fun _ => _) ?_ hk' h
              have hc : ck_37 m pc (37, k, z, tb) o len = some pc' := hc
              unfold ck_37 at hc; split at hc
              · obtain ⟨q, -⟩ := opg_s hc
                simp only [Bool.and_eq_true, decide_eq_true_eq] at q
                omega
              · cases hc
            · cases h
        · split at h
          · cases h
          · split at h
            · refine cal (kk := fun _ => _) ?_ hk' h
              have hc : ck_38 m pc (38, k, z, tb) o len = some pc' := hc
              unfold ck_38 at hc; split at hc
              · obtain ⟨q, -⟩ := opg_s hc
                simp only [Bool.and_eq_true, decide_eq_true_eq] at q
                omega
              · obtain ⟨q, -⟩ := opg_s hc
                simp only [Bool.and_eq_true, decide_eq_true_eq] at q
                omega
              · cases hc
            · cases h
        · split at h
          · cases h; exact Int.le_refl _
          · cases h
        · split at h
          · cases h; exact Int.le_refl _
          · cases h
        · split at h
          · cases h; exact Int.le_refl _
          · cases h
        · split at h
          · split at h
            · cases h; exact Int.le_refl _
            · cases h
          · cases h
        · split at h
          · exact jmp h
          · cases h
        · split at h
          · rename_i ha
            exact Int.le_trans (am1_n ha hc) (ex_n n hm hk' h)
          · cases h
end S14
end
section
/-! THE SIMULATION, last part (2): texts, branches, calls, and the whole run -/
section S15
variable {p : Program} {l : Launch} {e : Env} {R : Room} {s : State} {mid : MethodId} {args : Array Value} {below : List Frame} {meth : Method} {c : Code} {Q : State → Prop}
variable {D : va_G} {cy : Nat → ClassId} {b : Nat → Nat} {base L : Nat} {xs : Nat → Int32} {m : Nat}
variable {pc pc' len k : Nat} {z : Int} {tb : List (Int × Nat)} {o : JI} {ls st ls' st' : List AV} {H H' : Hp}
theorem goodIn_l {ws : List Cond} (h : ∀ w ∈ ws, w ∈ lw_g) : GoodIn lw_g ws := fun w hw => ⟨h w hw, good_of_word (List.mem_filter.mp (h w hw)).2⟩
theorem stf_js {U : State} {Hm : Heap} (h : stf b base U Hm) {zz : Int} (hz : zz = 901 ∨ zz = 902) : ∃ (i v : Nat), i < 2 ∧ jst base (if zz = 901 then b 1 else b 2) v (lnS.getD i 0) (fun j => (byS.getD i []).getD j 0) U Hm ∧ (zz = 901 ∧ i = 0 ∨ zz = 902 ∧ i = 1) := by
  obtain ⟨⟨adK, adV, ⟨h1, -⟩, h2, h3⟩, -, -, h6, t, h7⟩ := h
  rcases hz with rfl | rfl
  · obtain ⟨a1, a2, a3, a4⟩ := h1 0 (by omega)
    rw [h2] at a1 a2 a3
    exact ⟨0, adV 0, by omega, ⟨a1, a2, a3, a4, h6, t, h7⟩, Or.inl ⟨rfl, rfl⟩⟩
  · obtain ⟨a1, a2, a3, a4⟩ := h1 1 (by omega)
    rw [h3] at a1 a2 a3
    exact ⟨1, adV 1, by omega, ⟨a1, a2, a3, a4, h6, t, h7⟩, Or.inr ⟨rfl, rfl⟩⟩
theorem stx_len : ∀ i, i < 2 → lnS.getD i 0 = (stx (901 + i)).length ∧ lnS.getD i 0 < 1000 := by decide +kernel
theorem stx_ch : ∀ i, i < 2 → ∀ j, j < lnS.getD i 0 → ((((byS.getD i []).getD j 0 &&& 255).toUInt32 % 65536).toInt32).toInt = (stx (901 + i)).getD j 0 := by decide +kernel
theorem f_str {f : Int → Nat} {zz : Int} (hf : f 999 = b 0 ∧ f 901 = b 1 ∧ f 902 = b 2) (hz : zz = 901 ∨ zz = 902) : f zz = if zz = 901 then b 1 else b 2 := by
  rcases hz with rfl | rfl
  · exact hf.2.1
  · exact hf.2.2
theorem sim_50 {zz : Int} (F : frm p s mid args meth c D cy base b L xs m) (hR : 10 ≤ R.frames ∧ 400 ≤ R.locals) (hd : decode (bM m) pc = .ok (o, len)) (hc : ck1 m pc (50, k, z, tb) o len = some pc') (hz : zz = 901 ∨ zz = 902) (hw : wds st ≤ 8) (hRc : ∀ n : Nat, True) : ∀ (f : Int → Nat) (la : Array Slot) (sv : List Value) (Hm : Heap) (locs : List Loc) (cells slots : Nat), cells ≤ R.cells → slots ≤ R.slots → held s D cy base b L xs m f ls ((2, zz) :: st) H la sv Hm locs →
      (∀ (sv' : List Value), srel f (H 0 0) (vi ((stx zz).length : Nat) :: st) sv' → W p l e R s mid args below meth c Hm locs cells slots Q (F0 mid pc' la sv')) → W p l e R s mid args below meth c Hm locs cells slots Q (F0 mid pc la sv) := by
  obtain ⟨hxx, hb, hml, hown, -, hts, hK, -, -, -, hst⟩ := F
  intro f la sv Hm locs cells slots hcl hsl hh kk
  obtain ⟨hl, hs, -, hS, hlen, hff, -⟩ := hh
  replace hc : ck_50 m pc (50, k, z, tb) o len = some pc' := hc
  unfold ck_50 at hc
  split at hc
  · rename_i x
    obtain ⟨h, rfl⟩ := opg_s hc
    simp only [Bool.and_eq_true, decide_eq_true_eq] at h
    obtain ⟨rfl, h2⟩ := h
    have hq := ML_ok _ (List.contains_iff_mem.mp h2)
    replace hs := srel_a hs (by omega)
    obtain ⟨sv', rfl, ho, hs⟩ := hs
    obtain ⟨i, v, hi, hj, hzi⟩ := stf_js hst hz
    rw [f_str hff hz]
    have hwd := srel_wds hs
    have hsz : la.size = mxl m := by rw [hl.size, hlen]
    refine jcall (v := some (.int (Int32.ofNat (lnS.getD i 0)))) (W.runV (C := RJ0) (As := []) (rest := sv') ⟨hxx, hb, hml, hown, hts⟩ (jm_length l base _ v (lnS.getD i 0) (fun j => (byS.getD i []).getD j 0)) (cwV (ws := wJ yJ0_length_8abf5 cJ0_length_8abf5 1 (some .int)) (R := R) 0 hts (goodIn_l (wsV_g (mem_g hq rfl) (mem_g (List.mem_of_getElem? (i := 747) (by decide +kernel)) rfl) (mem_g (List.mem_of_getElem? (i := 748) (by decide +kernel)) rfl) (mem_g (List.mem_of_getElem? (i := 168) (by decide +kernel)) rfl) (mem_g (List.mem_of_getElem? (i := 749) (by decide +kernel)) rfl))) rfl rfl rfl (by decide +kernel) ⟨by show 1 + 1 ≤ _; omega, by show 8 + (1 + 11) + 20 ≤ _; omega⟩) ⟨jPc_blind, ?_, fun U hU hW => ⟨rfl, by show jst base _ v _ _ U U.heap; rw [hU]; exact hj.warm hW hS.2.1⟩⟩ rfl rfl hsz rfl (by show 2 * 0 + _ ≤ 8; omega) hd ⟨by omega, by omega⟩) (kk _ (hs.i ?_))
    · obtain ⟨cell, q1, q2, q3, -⟩ := hj.1.kept hS.2.1
      exact ⟨cell, q1, q2, q3⟩
    · obtain ⟨e1, e2⟩ := stx_len i hi
      have e3 : (Int32.ofNat (lnS.getD i 0)).toInt = ((lnS.getD i 0 : Nat) : Int) := nI_toInt (by omega)
      rw [e3, e1]
      rcases hzi with ⟨rfl, rfl⟩ | ⟨rfl, rfl⟩ <;> rfl
  · cases hc
theorem sim_51 {zz j : Int} (F : frm p s mid args meth c D cy base b L xs m) (hR : 10 ≤ R.frames ∧ 400 ≤ R.locals) (hd : decode (bM m) pc = .ok (o, len)) (hc : ck1 m pc (51, k, z, tb) o len = some pc') (hz : zz = 901 ∨ zz = 902) (h0 : 0 ≤ j) (h1 : j < ((stx zz).length : Nat)) (hw : wds st ≤ 8) : ∀ (f : Int → Nat) (la : Array Slot) (sv : List Value) (Hm : Heap) (locs : List Loc) (cells slots : Nat), cells ≤ R.cells → slots ≤ R.slots → held s D cy base b L xs m f ls ((0, j) :: (2, zz) :: st) H la sv Hm locs →
      (∀ (sv' : List Value), srel f (H 0 0) (vi ((stx zz).getD j.toNat 0) :: st) sv' → W p l e R s mid args below meth c Hm locs cells slots Q (F0 mid pc' la sv')) → W p l e R s mid args below meth c Hm locs cells slots Q (F0 mid pc la sv) := by
  obtain ⟨hxx, hb, hml, hown, -, hts, hK, -, -, -, hst⟩ := F
  intro f la sv Hm locs cells slots hcl hsl hh kk
  obtain ⟨hl, hs, -, hS, hlen, hff, -⟩ := hh
  replace hc : ck_51 m pc (51, k, z, tb) o len = some pc' := hc
  unfold ck_51 at hc
  split at hc
  · rename_i x
    obtain ⟨h, rfl⟩ := opg_s hc
    simp only [Bool.and_eq_true, decide_eq_true_eq] at h
    obtain ⟨rfl, h2⟩ := h
    have hq := ML_ok _ (List.contains_iff_mem.mp h2)
    replace hs := srel_i hs
    obtain ⟨j', sv', rfl, hjj, hs⟩ := hs
    replace hs := srel_a hs (by omega)
    obtain ⟨sv', rfl, ho, hs⟩ := hs
    obtain ⟨i, v, hi, hj, hzi⟩ := stf_js hst hz
    obtain ⟨e1, e2⟩ := stx_len i hi
    have e0 : 901 + (i : Int) = zz := by omega
    have h1' : j < (lnS.getD i 0 : Nat) := by rw [e1, e0]; exact h1
    obtain ⟨g1, g2⟩ := vp_in_of_int (n := lnS.getD i 0) hjj h0 h1'
    rw [f_str hff hz]
    have hwd := srel_wds hs
    have hsz : la.size = mxl m := by rw [hl.size, hlen]
    have n1 : ¬ j' < 0 := fun h => g1 (Or.inl h)
    have n2 : j' < Int32.ofNat (lnS.getD i 0) := by
      rw [Int32.lt_iff_toInt_lt, hjj]
      have : (Int32.ofNat (lnS.getD i 0)).toInt = ((lnS.getD i 0 : Nat) : Int) := nI_toInt (by omega)
      rw [this]
      exact h1'
    refine jcall (v := some (.int ((((byS.getD i []).getD j'.toNatClampNeg 0) &&& 255).toUInt32 % 65536).toInt32)) (W.runV (C := RJ0) (As := [.int j']) (rest := sv') ⟨hxx, hb, hml, hown, hts⟩ (jm_charAt l base _ v (lnS.getD i 0) (fun j => (byS.getD i []).getD j 0) j' n1 n2 g1) (cwV (ws := wJ yJ0_charAt_5068e cJ0_charAt_5068e 2 (some .char)) (R := R) 1 hts (goodIn_l (wsV_g (mem_g hq rfl) (mem_g (List.mem_of_getElem? (i := 757) (by decide +kernel)) rfl) (mem_g (List.mem_of_getElem? (i := 758) (by decide +kernel)) rfl) (mem_g (List.mem_of_getElem? (i := 168) (by decide +kernel)) rfl) (mem_g (List.mem_of_getElem? (i := 759) (by decide +kernel)) rfl))) rfl rfl rfl (by decide +kernel) ⟨by show 3 + 1 ≤ _; omega, by show 8 + (2 + 11) + 64 ≤ _; omega⟩) ⟨jPc_blind, ?_, fun U hU hW => ⟨rfl, by show jst base _ v _ _ U U.heap; rw [hU]; exact hj.warm hW hS.2.1⟩⟩ rfl rfl hsz rfl (by show 2 * 0 + _ ≤ 8; omega) hd ⟨by omega, by omega⟩) (kk _ (hs.i ?_))
    · obtain ⟨cell, q1, q2, q3, -⟩ := hj.1.kept hS.2.1
      exact ⟨cell, q1, q2, q3⟩
    · rw [g2, stx_ch i hi j.toNat (by omega), e0]
  · cases hc
/-- branches -/
theorem b_if {x' : Int32} {x off : Int} {tgt : Nat} {la : Array Slot} {sv : List Value} {Hm : Heap} {locs : List Loc} {cells slots : Nat} (hxx : p.tables.exec = Jvm.exec) (hb : c.code = bM m) (hz : 0 ≤ z ∧ z < 6) (hx : x'.toInt = x) (hd : decode (bM m) pc = .ok (.ifCond (cnd z) off, 3)) (ht : (pc : Int) + off = (tgt : Int)) (kt : am_cn z x 0 = true → W p l e R s mid args below meth c Hm locs cells slots Q (F0 mid tgt la sv)) (kf : ¬ am_cn z x 0 = true → W p l e R s mid args below meth c Hm locs cells slots Q (F0 mid (pc + 3) la sv)) : W p l e R s mid args below meth c Hm locs cells slots Q (F0 mid pc la (.int x' :: sv)) := by
  have e0 : (0 : Int32).toInt = 0 := rfl
  have eq0 : x' = 0 ↔ x = 0 := by rw [← Int32.toInt_inj, hx, e0]
  have lt0 : x' < 0 ↔ x < 0 := by rw [Int32.lt_iff_toInt_lt, hx, e0]
  have le0 : x' ≤ 0 ↔ x ≤ 0 := by rw [Int32.le_iff_toInt_le, hx, e0]
  have gt0 : 0 < x' ↔ 0 < x := by rw [Int32.lt_iff_toInt_lt, hx, e0]
  have ge0 : 0 ≤ x' ↔ 0 ≤ x := by rw [Int32.le_iff_toInt_le, hx, e0]
  have hz6 : z = 0 ∨ z = 1 ∨ z = 2 ∨ z = 3 ∨ z = 4 ∨ z = 5 := by omega
  rcases hz6 with rfl | rfl | rfl | rfl | rfl | rfl
  · exact lv_if_eq hxx hb hd ht (fun h => kt (decide_eq_true (eq0.mp h))) (fun h => kf (fun q => h (eq0.mpr (of_decide_eq_true q))))
  · exact lv_if_ne hxx hb hd ht (fun h => kt (decide_eq_true (fun q => h (eq0.mpr q)))) (fun h => kf (fun q => (of_decide_eq_true q) (eq0.mp h)))
  · exact lv_if_lt hxx hb hd ht (fun h => kt (decide_eq_true (lt0.mp h))) (fun h => kf (fun q => h (lt0.mpr (of_decide_eq_true q))))
  · exact lv_if_ge hxx hb hd ht (fun h => kt (decide_eq_true (ge0.mp h))) (fun h => kf (fun q => h (ge0.mpr (of_decide_eq_true q))))
  · exact lv_if_gt hxx hb hd ht (fun h => kt (decide_eq_true (gt0.mp h))) (fun h => kf (fun q => h (gt0.mpr (of_decide_eq_true q))))
  · exact lv_if_le hxx hb hd ht (fun h => kt (decide_eq_true (le0.mp h))) (fun h => kf (fun q => h (le0.mpr (of_decide_eq_true q))))
theorem b_ic {x' y' : Int32} {x y off : Int} {tgt : Nat} {la : Array Slot} {sv : List Value} {Hm : Heap} {locs : List Loc} {cells slots : Nat} (hxx : p.tables.exec = Jvm.exec) (hb : c.code = bM m) (hz : 0 ≤ z ∧ z < 6) (hx : x'.toInt = x) (hy : y'.toInt = y) (hd : decode (bM m) pc = .ok (.if_icmp (cnd z) off, 3)) (ht : (pc : Int) + off = (tgt : Int)) (kt : am_cn z x y = true → W p l e R s mid args below meth c Hm locs cells slots Q (F0 mid tgt la sv)) (kf : ¬ am_cn z x y = true → W p l e R s mid args below meth c Hm locs cells slots Q (F0 mid (pc + 3) la sv)) : W p l e R s mid args below meth c Hm locs cells slots Q (F0 mid pc la (.int y' :: .int x' :: sv)) := by
  have eq0 : x' = y' ↔ x = y := by rw [← Int32.toInt_inj, hx, hy]
  have lt0 : x' < y' ↔ x < y := by rw [Int32.lt_iff_toInt_lt, hx, hy]
  have le0 : x' ≤ y' ↔ x ≤ y := by rw [Int32.le_iff_toInt_le, hx, hy]
  have gt0 : y' < x' ↔ y < x := by rw [Int32.lt_iff_toInt_lt, hx, hy]
  have ge0 : y' ≤ x' ↔ y ≤ x := by rw [Int32.le_iff_toInt_le, hx, hy]
  have hz6 : z = 0 ∨ z = 1 ∨ z = 2 ∨ z = 3 ∨ z = 4 ∨ z = 5 := by omega
  rcases hz6 with rfl | rfl | rfl | rfl | rfl | rfl
  · exact lv_icmp_eq hxx hb hd ht (fun h => kt (decide_eq_true (eq0.mp h))) (fun h => kf (fun q => h (eq0.mpr (of_decide_eq_true q))))
  · exact lv_icmp_ne hxx hb hd ht (fun h => kt (decide_eq_true (fun q => h (eq0.mpr q)))) (fun h => kf (fun q => (of_decide_eq_true q) (eq0.mp h)))
  · exact lv_icmp_lt hxx hb hd ht (fun h => kt (decide_eq_true (lt0.mp h))) (fun h => kf (fun q => h (lt0.mpr (of_decide_eq_true q))))
  · exact lv_icmp_ge hxx hb hd ht (fun h => kt (decide_eq_true (ge0.mp h))) (fun h => kf (fun q => h (ge0.mpr (of_decide_eq_true q))))
  · exact lv_icmp_gt hxx hb hd ht (fun h => kt (decide_eq_true (gt0.mp h))) (fun h => kf (fun q => h (gt0.mpr (of_decide_eq_true q))))
  · exact lv_icmp_le hxx hb hd ht (fun h => kt (decide_eq_true (le0.mp h))) (fun h => kf (fun q => h (le0.mpr (of_decide_eq_true q))))
theorem sw_tab {m pc : Nat} {x lo : Int} {d : Nat} {offs : Array Int} : ∀ (n : Nat) (q : List (Int × Nat)) (j0 : Nat), q.length = n → j0 + n = offs.size → (∀ j : Nat, j < n → ∃ f, offs[j0 + j]? = some f ∧ (q[j]?).map Prod.fst = some (lo + ((j0 + j : Nat) : Int)) ∧ ∃ t, q[j]? = some t ∧ (pc : Int) + f = (lpc m t.2 : Nat)) →
    (lo + (j0 : Nat) ≤ x ∧ x < lo + (offs.size : Nat) → ∃ f, offs[(x - lo).toNat]? = some f ∧ (pc : Int) + f = (lpc m (swl x d q) : Nat)) ∧ (x < lo + (j0 : Nat) ∨ lo + (offs.size : Nat) ≤ x → swl x d q = d)
  | 0, q, j0, hq, hj, _ => by
    have : q = [] := List.length_eq_zero_iff.mp hq
    subst this
    exact ⟨fun h => by omega, fun _ => rfl⟩
  | n + 1, [], j0, hq, _, _ => by simp at hq
  | n + 1, t :: q, j0, hq, hj, h => by
    obtain ⟨f0, a1, a2, t0, a3, a4⟩ := h 0 (by omega)
    simp at a2 a3
    subst a3
    obtain ⟨ih1, ih2⟩ := sw_tab (m := m) (pc := pc) (x := x) (lo := lo) (d := d) (offs := offs) n q (j0 + 1) (by simpa using hq) (by omega) (fun j hjn => by
      have := h (j + 1) (by omega)
      simpa [Nat.add_assoc, Nat.add_comm 1 j] using this)
    unfold swl
    by_cases hx : x = t.1
    · rw [if_pos hx]
      refine ⟨fun _ => ⟨f0, ?_, a4⟩, fun hh => by omega⟩
      have : (x - lo).toNat = j0 := by omega
      rw [this]
      simpa using a1
    · rw [if_neg hx]
      exact ⟨fun hh => ih1 ⟨by omega, hh.2⟩, fun hh => ih2 (by omega)⟩
theorem sw_look {m pc : Nat} {x dflt : Int} {d : Nat} (hd : (pc : Int) + dflt = (lpc m d : Nat)) : ∀ (q : List (Int × Nat)) (ps : List (Int × Int)), q.length = ps.length → (q.zip ps).all (fun q => decide (q.1.1 = q.2.1) && decide ((pc : Int) + q.2.2 = (lpc m q.1.2 : Nat))) = true → (pc : Int) + Op.lookupswitch.offset ps dflt x = (lpc m (swl x d q) : Nat)
  | [], [], _, _ => hd
  | t :: q, u :: ps, hl, h => by
    simp only [List.zip_cons_cons, List.all_cons, Bool.and_eq_true, decide_eq_true_eq] at h
    have ih := sw_look (x := x) hd q ps (by simpa using hl) h.2
    unfold swl
    by_cases hx : x = t.1
    · rw [if_pos hx]
      rw [show Op.lookupswitch.offset (u :: ps) dflt x = u.2 by unfold Op.lookupswitch.offset; rw [if_pos (by simp [hx, h.1.1])]]
      exact h.1.2
    · rw [if_neg hx]
      rw [show Op.lookupswitch.offset (u :: ps) dflt x = Op.lookupswitch.offset ps dflt x by rw [Op.lookupswitch.offset, if_neg]; intro w; exact hx (by rw [h.1.1]; first | exact w | exact w.symm | simpa using w | exact (by simpa using w : _).symm)]
      exact ih
  | [], _ :: _, hl, _ => by simp at hl
  | _ :: _, [], hl, _ => by simp at hl
theorem stp1.call {pc pc' : Nat} {ls st st' : List AV} {H : Hp}
    (h : ∀ (f : Int → Nat) (la : Array Slot) (sv : List Value) (Hm : Heap) (locs : List Loc) (cells slots : Nat), cells ≤ R.cells → slots ≤ R.slots → held s D cy base b L xs m f ls st H la sv Hm locs →
      (∀ (sv' : List Value), srel f (H 0 0) st' sv' → W p l e R s mid args below meth c Hm locs cells slots Q (F0 mid pc' la sv')) → W p l e R s mid args below meth c Hm locs cells slots Q (F0 mid pc la sv)) :
    stp1 p l e R s mid args below meth c Q D cy base b L xs m pc pc' ls st H ls st' H := by
  intro f la sv Hm locs cells slots hh h1 h2 kk
  refine h f la sv Hm locs cells slots (by omega) (by omega) hh fun sv' hs => ?_
  obtain ⟨hl, -, h3, h4, h5, h6⟩ := hh
  have := kk f la sv' Hm locs (fun _ _ => rfl) ⟨hl, hs, h3, h4, h5, h6⟩
  simpa using this
theorem sim1 {i : AI} (F : frm p s mid args meth c D cy base b L xs m) (hR : 10 ≤ R.frames ∧ 400 ≤ R.locals) (hd : decode (bM m) pc = .ok (o, len)) (hc : ck1 m pc i o len = some pc') (ha : am1 i ls st H = some (ls', st', H')) : stp1 p l e R s mid args below meth c Q D cy base b L xs m pc pc' ls st H ls' st' H' := by
  obtain ⟨op, k, z, tb⟩ := i
  unfold am1 at ha
  dsimp only at ha
  split at ha
  · cases ha; exact sim_1 F hd hc
  · cases ha; exact sim_2 F hd hc
  · split at ha
    · rename_i hg; cases ha; exact sim_3 F hd hc hg
    · cases ha
  · split at ha
    · rename_i hg; cases ha; exact sim_53 F hd hc hg
    · cases ha
  · split at ha
    · rename_i hg; cases ha; exact sim_54 F hd hc hg
    · cases ha
  · split at ha
    · split at ha
      · rename_i hg; cases ha; exact sim_4 F hd hc hg
      · cases ha
    · cases ha
  · split at ha
    · split at ha
      · rename_i hg; cases ha; exact sim_55 F hd hc hg
      · cases ha
    · cases ha
  · split at ha
    · split at ha
      · rename_i hg; cases ha; exact sim_5 F hd hc hg
      · cases ha
    · cases ha
  · split at ha
    · rename_i hq
      split at ha
      · rename_i hg; cases ha; exact sim_6 F hd hc hq hg
      · cases ha
    · cases ha
  · split at ha
    · cases ha; exact sim_7 F hd hc
    · cases ha
  · split at ha
    · cases ha; exact sim_8 F hd hc
    · cases ha
  · split at ha
    · cases ha; exact sim_9 F hd hc
    · cases ha
  · split at ha
    · split at ha
      · rename_i hg; cases ha; exact sim_10 F hd hc hg
      · cases ha
    · cases ha
  · split at ha
    · split at ha
      · rename_i hg; cases ha; exact sim_11 F hd hc hg
      · cases ha
    · cases ha
  · split at ha
    · cases ha; exact sim_60 F hd hc
    · cases ha
  · split at ha
    · cases ha; exact sim_61 F hd hc
    · cases ha
  · split at ha
    · cases ha; exact sim_62 F hd hc
    · cases ha
  · split at ha
    · cases ha; exact sim_63 F hd hc
    · cases ha
  · split at ha
    · cases ha; exact sim_64 F hd hc
    · cases ha
  · split at ha
    · cases ha; exact sim_65 F hd hc
    · cases ha
  · split at ha
    · cases ha; exact sim_13 F hd hc
    · cases ha
  · split at ha
    · split at ha
      · rename_i hg; cases ha; exact sim_18 F hd hc hg
      · cases ha
    · cases ha
  · split at ha
    · split at ha
      · rename_i hg; cases ha; exact sim_19 F hd hc hg
      · cases ha
    · cases ha
  · split at ha
    · split at ha
      · rename_i hg; cases ha; exact sim_20 F hd hc hg
      · cases ha
    · cases ha
  · split at ha
    · split at ha
      · rename_i hg; cases ha; exact sim_21 F hd hc hg
      · cases ha
    · cases ha
  · split at ha
    · split at ha
      · rename_i hg; cases ha; exact sim_22 F hd hc hg
      · cases ha
    · cases ha
  · split at ha
    · split at ha
      · rename_i hg; cases ha; exact sim_23 F hd hc hg
      · cases ha
    · cases ha
  · split at ha
    · split at ha
      · rename_i hg; cases ha; exact sim_24 F hd hc hg.1 hg.2
      · cases ha
    · cases ha
  · split at ha
    · split at ha
      · rename_i hg; cases ha; exact sim_25 F hd hc hg.1 hg.2.1 hg.2.2
      · cases ha
    · cases ha
  · split at ha
    · split at ha
      · rename_i hg; cases ha; exact sim_26 F hd hc hg.1 hg.2.1 hg.2.2
      · cases ha
    · cases ha
  · split at ha
    · split at ha
      · rename_i hg; cases ha; exact sim_27 F hd hc hg.1 hg.2.1 hg.2.2
      · cases ha
    · cases ha
  · split at ha
    · split at ha
      · rename_i hg; cases ha; exact sim_28 F hd hc hg.1 hg.2.1 hg.2.2
      · cases ha
    · cases ha
  · split at ha
    · split at ha
      · rename_i hg; cases ha; exact sim_29 F hd hc hg.1 hg.2.1 hg.2.2
      · cases ha
    · cases ha
  · split at ha
    · split at ha
      · rename_i hg; cases ha; exact sim_30 F hd hc hg.1 hg.2.1 hg.2.2
      · cases ha
    · cases ha
  · split at ha
    · split at ha
      · rename_i hg; cases ha; exact sim_31 F hd hc hg.1 hg.2.1 hg.2.2
      · cases ha
    · cases ha
  · split at ha
    · split at ha
      · rename_i hg; cases ha; exact sim_32 F hd hc hg.1 hg.2.1 hg.2.2
      · cases ha
    · cases ha
  · split at ha
    · split at ha
      · rename_i hg; cases ha; exact sim_33 F hd hc hg
      · cases ha
    · cases ha
  · split at ha
    · cases ha; exact sim_34 F hd hc
    · cases ha; exact sim_34a F hd hc
    · cases ha
  · split at ha
    · cases ha; exact sim_66 F hd hc
    · cases ha; exact sim_66l F hd hc
    · cases ha
  · split at ha
    · cases ha; exact sim_67 F hd hc
    · cases ha
  · split at ha
    · rename_i hg; cases ha; exact sim_43 F hd hc hg
    · cases ha
  · split at ha
    · split at ha
      · rename_i hg; cases ha; exact sim_44 F hd hc hg.1 hg.2
      · cases ha
    · cases ha
  · cases ha; exact sim_46 F hd hc
  · split at ha
    · split at ha
      · rename_i hg; cases ha; exact sim_47 F ⟨by omega, by omega⟩ hd hc hg
      · cases ha
    · cases ha
  · split at ha
    · split at ha
      · rename_i hg; cases ha; exact sim_48 F hd hc hg.1 hg.2.1 hg.2.2
      · cases ha
    · cases ha
  · split at ha
    · split at ha
      · rename_i hg; cases ha; exact sim_49 F hd hc hg
      · cases ha
    · cases ha
  · split at ha
    · split at ha
      · rename_i hg
        cases ha
        exact stp1.call (fun f la sv Hm locs cells slots h1 h2 hh kk => sim_50 F hR hd hc hg.1 hg.2 (fun _ => trivial) f la sv Hm locs cells slots h1 h2 hh kk)
      · cases ha
    · cases ha
  · split at ha
    · split at ha
      · rename_i hg
        cases ha
        exact stp1.call (fun f la sv Hm locs cells slots h1 h2 hh kk => sim_51 F hR hd hc hg.1 hg.2.1 hg.2.2.1 hg.2.2.2 f la sv Hm locs cells slots h1 h2 hh kk)
      · cases ha
    · cases ha
  · split at ha
    · split at ha
      · rename_i hg; cases ha; exact sim_52 F ⟨by omega, by omega⟩ hd hc hg.1 hg.2
      · cases ha
    · cases ha
  · cases ha
end S15
end
section
/-! THE SIMULATION, last part (3): the whole run -/
theorem length_lcs : ∀ (k : Nat) (av : List AV), (lcs k av).length = k
  | 0, _ => rfl
  | k + 1, [] => by show (lcs k []).length + 1 = k + 1; rw [length_lcs k []]
  | 1, _ :: _ => rfl
  | k + 2, a :: l => by
    show (if a.1 = 1 then a :: vu :: lcs k l else a :: lcs (k + 1) l).length = k + 2
    split
    · show (lcs k l).length + 2 = _; rw [length_lcs k l]
    · show (lcs (k + 1) l).length + 1 = _; rw [length_lcs (k + 1) l]
theorem lcs_nil : ∀ (k j : Nat), lget (lcs k []) j = vu
  | 0, j => lget_nil j
  | k + 1, 0 => rfl
  | k + 1, j + 1 => lcs_nil k j
theorem lcs_rel {f : Int → Nat} {n : Int} : ∀ (k : Nat) (av : List AV) (vals : List Value) (i : Nat), srel f n av vals → ∀ j, (lget (lcs k av) j).1 ≠ 3 → ∃ v, (i + j, v) ∈ lv_args i vals ∧ vrel f n (lget (lcs k av) j) v
  | 0, av, vals, i, _, j, h => by
    have : lcs 0 av = [] := by cases av <;> rfl
    rw [this, lget_nil] at h
    exact absurd rfl h
  | k + 1, [], vals, i, _, j, h => by rw [lcs_nil] at h; exact absurd rfl h
  | 1, a :: l, vals, i, hs, j, h => by
    obtain ⟨v, sv, rfl, h1, h2⟩ := srel_cons hs
    cases j with
    | zero => exact ⟨v, List.mem_cons_self, h1⟩
    | succ j =>
      have : lget (lcs 1 (a :: l)) (j + 1) = vu := lget_nil j
      rw [this] at h
      exact absurd rfl h
  | k + 2, a :: l, vals, i, hs, j, h => by
    obtain ⟨v, sv, rfl, h1, h2⟩ := srel_cons hs
    by_cases ha : a.1 = 1
    · have e : lcs (k + 2) (a :: l) = a :: vu :: lcs k l := if_pos ha
      rw [e] at h ⊢
      have ea : lv_args i (v :: sv) = (i, v) :: lv_args (i + 2) sv := by
        show (i, v) :: lv_args (if v.category = 2 then i + 2 else i + 1) sv = _
        rw [if_pos (h1.cat.1 ha)]
      rw [ea]
      match j, h with
      | 0, _ => exact ⟨v, List.mem_cons_self, h1⟩
      | 1, h => exact absurd rfl h
      | j + 2, h =>
        obtain ⟨w, q1, q2⟩ := lcs_rel k l sv (i + 2) h2 j h
        exact ⟨w, List.mem_cons_of_mem _ (by rw [show i + (j + 2) = i + 2 + j by omega]; exact q1), q2⟩
    · have e : lcs (k + 2) (a :: l) = a :: lcs (k + 1) l := if_neg ha
      rw [e] at h ⊢
      have ea : lv_args i (v :: sv) = (i, v) :: lv_args (i + 1) sv := by
        show (i, v) :: lv_args (if v.category = 2 then i + 2 else i + 1) sv = _
        rw [if_neg (by have := h1.cat.2 ha; omega)]
      rw [ea]
      match j, h with
      | 0, _ => exact ⟨v, List.mem_cons_self, h1⟩
      | j + 1, h =>
        obtain ⟨w, q1, q2⟩ := lcs_rel (k + 1) l sv (i + 1) h2 j h
        exact ⟨w, List.mem_cons_of_mem _ (by rw [show i + (j + 1) = i + 1 + j by omega]; exact q1), q2⟩
theorem sl_wds {f : Int → Nat} {n : Int} : ∀ {av : List AV} {vals : List Value}, srel f n av vals → (lg_sl vals).length = wds av
  | [], [], _ => rfl
  | a :: av, v :: vals, h => by
    have ih := sl_wds h.2
    have e : lg_sl (v :: vals) = (if v.category = 2 then [Slot.val v, .second] else [.val v]) ++ lg_sl vals := rfl
    have ew : wds (a :: av) = wds av + (if a.1 = 1 then 2 else 1) := rfl
    rw [e, List.length_append, ih, ew]
    have hc := h.1.cat
    by_cases ha : a.1 = 1
    · rw [if_pos (hc.1 ha), if_pos ha]; show 2 + _ = _; omega
    · rw [if_neg (by have := hc.2 ha; omega), if_neg ha]; show 1 + _ = _; omega
  | [], _ :: _, h => h.elim
  | _ :: _, [], h => h.elim
theorem srel_len {f : Int → Nat} {n : Int} : ∀ {av : List AV} {vals : List Value}, srel f n av vals → vals.length = av.length
  | [], [], _ => rfl
  | _ :: _, _ :: _, h => by simp [srel_len h.2]
  | [], _ :: _, h => h.elim
  | _ :: _, [], h => h.elim
theorem tkr_rel {f : Int → Nat} {n : Int} : ∀ (k : Nat) (st : List AV) (sv : List Value) (acc : List AV) (vacc : List Value), srel f n st sv → k ≤ st.length → srel f n acc vacc → ∃ top rest, sv = top ++ rest ∧ top.length = k ∧ srel f n (tkr k st acc) (top.reverse ++ vacc) ∧ srel f n (dpr k st) rest
  | 0, st, sv, acc, vacc, h, _, ha => ⟨[], sv, rfl, rfl, by rw [tkr_0]; exact ha, by rw [dpr_0]; exact h⟩
  | k + 1, [], sv, acc, vacc, h, hk, ha => by simp at hk
  | k + 1, a :: st, sv, acc, vacc, h, hk, ha => by
    obtain ⟨v, sv', rfl, h1, h2⟩ := srel_cons h
    obtain ⟨top, rest, rfl, q2, q3, q4⟩ := tkr_rel k st sv' (a :: acc) (v :: vacc) h2 (by simpa using hk) ⟨h1, ha⟩
    exact ⟨v :: top, rest, rfl, by simp [q2], by rw [tkr_s]; simpa using q3, q4⟩
theorem szs_mono {a b : Nat} (h : a ≤ b) : szs a ≤ szs b := by
  induction h with
  | refl => exact Nat.le_refl _
  | step _ ih => exact Nat.le_trans ih (Nat.le_add_right _ _)
theorem lpc_0 {m : Nat} (h : m < 374) : lpc m 0 = 0 := by
  have h1 : (List.range 374).all (fun m => decide (lpc m 0 = 0)) = true := by decide +kernel
  exact of_decide_eq_true (List.all_eq_true.mp h1 m (List.mem_range.mpr h))
section S16
variable {l : Launch} {D : va_G} {cy : Nat → ClassId} {b : Nat → Nat} {base L : Nat} {xs : Nat → Int32}
def rmd (d mc ms : Nat) : Room := { frames := d + 10, cells := mc, slots := ms, locals := 40 * d + 400 }
def wM (m : Nat) : List Cond := .code (yM m) (bM m) (mxl m) (rM m) :: lw_g
def mta (L : Nat) (xs : Nat → Int32) (H : Hp) : Prop := H 0 1 = L ∧ (∀ j : Nat, j < L → H 999 j = (xs j).toInt) ∧ L < 100000
def fok (b : Nat → Nat) (f : Int → Nat) : Prop := f 999 = b 0 ∧ f 901 = b 1 ∧ f 902 = b 2
def mPc (D : va_G) (cy : Nat → ClassId) (b : Nat → Nat) (base L : Nat) (xs : Nat → Int32) (f : Int → Nat) (H : Hp) (vals : List Value) : Array Value → State → Prop := va_Pc vals (fun U => wrl D cy base f H U.heap ∧ va_K D vwCl (tys4 cy) U ∧ va_X (b 0) L xs U U.heap ∧ b 0 < base ∧ base ≤ U.heap.size ∧ stf b base U U.heap)
def rrel (f : Int → Nat) (n : Int) (m : Nat) (r : AV) (v : Option Value) : Prop := (rM m = none ∧ v = none) ∨ (rM m ≠ none ∧ ∃ v', v = some v' ∧ vrel f n r v')
def mQc (D : va_G) (cy : Nat → ClassId) (b : Nat → Nat) (base L : Nat) (xs : Nat → Int32) (f : Int → Nat) (H : Hp) (m : Nat) (r : AV) (H' : Hp) : Array Value → State → Outcome → State → Prop := fun _ st o t => ∃ (v : Option Value) (f' : Int → Nat), o = .returned v ∧ (∀ k, okr (H 0 0) k → f' k = f k) ∧ rrel f' (H' 0 0) m r v ∧ wrl D cy base f' H' t.heap ∧ mta L xs H' ∧ va_F (aq base) st t
def metAM (l : Launch) (D : va_G) (cy : Nat → ClassId) (b : Nat → Nat) (base L : Nat) (xs : Nat → Int32) (n : Nat) : Prop := ∀ (d m : Nat) (av : List AV) (H : Hp) (r : AV) (H' : Hp) (f : Int → Nat) (vals : List Value), ex n d m (blk m 0) (lcs (mxl m) av) [] H = some (r, H') → m < 373 → wds av ≤ mxl m → srel f (H 0 0) av vals → mta L xs H → fok b f →
  Met l (yM m) (wM m) (rmd d ((H' 0 0).toNat - (H 0 0).toNat) (szs (H' 0 0).toNat - szs (H 0 0).toNat)) (mPc D cy b base L xs f H vals) (mQc D cy b base L xs f H m r H') ((H' 0 0).toNat - (H 0 0).toNat) (szs (H' 0 0).toNat - szs (H 0 0).toNat) (aq base)
def retc (m pc : Nat) (r : AV) (sv : List Value) : Prop :=
  (decode (bM m) pc = .ok (.return_, 1) ∧ rM m = none ∧ sv = []) ∨ (decode (bM m) pc = .ok (.ireturn, 1) ∧ ∃ x : Int32, sv = [.int x] ∧ r = (0, x.toInt) ∧ (rM m = some .int ∨ (rM m = some .boolean ∧ (x = 0 ∨ x = 1)))) ∨ (decode (bM m) pc = .ok (.lreturn, 1) ∧ rM m = some .long ∧ ∃ x : Int64, sv = [.long x] ∧ r = (1, x.toInt))
def frmAM (l : Launch) (D : va_G) (cy : Nat → ClassId) (b : Nat → Nat) (base L : Nat) (xs : Nat → Int32) (n : Nat) : Prop := ∀ (p : Program) (e : Env) (R : Room) (s : State) (mid : MethodId) (args : Array Value) (below : List Frame) (meth : Method) (c : Code) (Q : State → Prop) (d m pc : Nat) (is : List AI) (ls st : List AV) (H : Hp) (r : AV) (H' : Hp), ex n d m is ls st H = some (r, H') → m < 374 → chk m pc is = true → frm p s mid args meth c D cy base b L xs m → d + 10 ≤ R.frames → 40 * d + 400 ≤ R.locals →
  ∀ (f : Int → Nat) (la : Array Slot) (sv : List Value) (Hm : Heap) (locs : List Loc) (cells slots : Nat), held s D cy base b L xs m f ls st H la sv Hm locs → cells + ((H' 0 0).toNat - (H 0 0).toNat) ≤ R.cells → slots + (szs (H' 0 0).toNat - szs (H 0 0).toNat) ≤ R.slots →
  (∀ (f' : Int → Nat) (la' : Array Slot) (sv' : List Value) (Hm' : Heap) (locs' : List Loc) (pc' : Nat), (∀ k, okr (H 0 0) k → f' k = f k) → wrl D cy base f' H' Hm' → va_S (aq base) s.heap Hm' locs' → mta L xs H' → retc m pc' r sv' → W p l e R s mid args below meth c Hm' locs' (cells + ((H' 0 0).toNat - (H 0 0).toNat)) (slots + (szs (H' 0 0).toNat - szs (H 0 0).toNat)) Q (F0 mid pc' la' sv')) →
  W p l e R s mid args below meth c Hm locs cells slots Q (F0 mid pc la sv)
theorem met_of {n : Nat} (h : frmAM l D cy b base L xs n) : metAM l D cy b base L xs n := by
  intro d m av H r H' f vals hex hm hwd hs hmt hfk
  have hF := mfB_ok m (MA_lt hm)
  unfold mfB at hF
  simp only [Bool.and_eq_true, decide_eq_true_eq] at hF
  obtain ⟨⟨-, -, hpl, hcls, -⟩, -⟩ := hF
  refine va_MetF (cc := bM m) (maxL := mxl m) (ret := rM m) hpl rfl ?_
  intro p e s mid args below meth c s₁ B hml hv
  obtain ⟨rfl, hw, hK, hX, hbb, hbs, hst⟩ := hv
  have hts0 := atoms_spec (ws := wM m) B.pre
  have hlocks := B.notSynchronized
  have F : frm p s mid vals.toArray meth c D cy base b L xs m := ⟨B.exec, B.bytes, hml, by rw [← hcls]; exact findClass_of_methodNamed B.named, fun h => (name_of_methodNamed B.named B.method).1.trans h, fun w h => hts0 w (List.mem_cons_of_mem _ h), hK, hX, hbb, hbs, hst⟩
  rw [lg_entry_eq]
  have hl := lv_entry vals (n := mxl m) (by rw [sl_wds hs]; exact hwd)
  refine h p e _ s mid vals.toArray below meth c _ d m 0 (blk m 0) (lcs (mxl m) av) [] H r H' hex (by omega) (by have := chk_all (m := m) (by omega) 0; rw [lpc_0 (by omega)] at this; exact this) F (Nat.le_refl _) (Nat.le_refl _) f _ [] s.heap [] 0 0 ⟨⟨lv_args 0 vals, by rw [length_lcs]; exact hl, fun j hj => by simpa using lcs_rel (mxl m) av vals 0 hs j hj⟩, trivial, hw, va_S.rf, length_lcs _ _, hfk, hmt⟩ (by rw [Nat.zero_add]; exact Nat.le_refl _) (by rw [Nat.zero_add]; exact Nat.le_refl _) ?_
  intro f' la' sv' Hm' locs' pc' hag hw' hS' hmt' hrc
  rw [Nat.zero_add, Nat.zero_add]
  rcases hrc with ⟨hd, hr0, rfl⟩ | ⟨hd, x, rfl, hr1, hr0 | ⟨hr0, hx⟩⟩ | ⟨hd, hr0, x, rfl, hr1⟩
  · exact W.vret B.exec B.bytes (B.returns.trans hr0) (fun t ht _ => ⟨none, f', rfl, hag, Or.inl ⟨hr0, rfl⟩, by rw [ht]; exact hw', hmt', hS'.F ht⟩) hS'.2.2 hd
  · exact W.iret B.exec B.bytes (B.returns.trans hr0) (fun t ht _ => ⟨_, f', rfl, hag, Or.inr ⟨by rw [hr0]; simp, _, rfl, by rw [hr1]; exact vrel_i.mpr ⟨x, rfl, rfl⟩⟩, by rw [ht]; exact hw', hmt', hS'.F ht⟩) hS'.2.2 hd
  · exact W.zret B.exec B.bytes (B.returns.trans hr0) (by rcases hx with rfl | rfl <;> decide +kernel) (fun t ht _ => ⟨_, f', rfl, hag, Or.inr ⟨by rw [hr0]; simp, _, rfl, by rw [hr1]; exact vrel_i.mpr ⟨x, rfl, rfl⟩⟩, by rw [ht]; exact hw', hmt', hS'.F ht⟩) hS'.2.2 hd
  · exact W.lret B.exec B.bytes (B.returns.trans hr0) (fun t ht _ => ⟨_, f', rfl, hag, Or.inr ⟨by rw [hr0]; simp, _, rfl, by rw [hr1]; exact vrel_l.mpr ⟨x, rfl, rfl⟩⟩, by rw [ht]; exact hw', hmt', hS'.F ht⟩) hS'.2.2 hd
theorem mPc_blind {f : Int → Nat} {H : Hp} {vals : List Value} : FrameBlind (mPc D cy b base L xs f H vals) := fun a U g mk h => by
  obtain ⟨h0, h1, h2, h3, h4, h5, h6⟩ := h
  exact ⟨h0, h1, va_K.moved (u := U) (U := U.calling g mk a) (Vm.Alike.refl U.vm) h2, va_X.moved (u := U) (U := U.calling g mk a) (Vm.Alike.refl U.vm) h3, h4, h5, h6.same rfl⟩
/-- what a callee may lean on, out of what its caller stands on -/
theorem mPc_at {p : Program} {s U : State} {mid : MethodId} {args : Array Value} {meth : Method} {c : Code} {m : Nat} {f : Int → Nat} {H : Hp} {vals : List Value} {Hm : Heap} {locs : List Loc} (F : frm p s mid args meth c D cy base b L xs m) (hw : wrl D cy base f H Hm) (hS : va_S (aq base) s.heap Hm locs) (hU : U.heap = Hm) (hW : s.WarmedH U.vm) : mPc D cy b base L xs f H vals vals.toArray U := by
  obtain ⟨-, -, -, -, -, -, hK, hX, hbb, hbs, hst⟩ := F
  refine ⟨rfl, by rw [hU]; exact hw, hK.moved hW.alike, ?_, hbb, ?_, ?_⟩
  · rw [hU]
    exact (hX.kept (hS.2.1 _ (by omega) (fun q => by unfold aq at q; omega))).moved hW.alike
  · rw [hU]; exact Nat.le_trans hbs hS.1
  · rw [hU]; exact hst.warm hW hS.2.1
end S16
end
section
/-! THE SIMULATION, last part (4): the step of the fuel -/
section S17
variable {l : Launch} {D : va_G} {cy : Nat → ClassId} {b : Nat → Nat} {base L : Nat} {xs : Nat → Int32}
theorem rcv_s {e : Int} {av : List AV} (h : shc (rcv av) = e) (he : 0 ≤ e) : ∃ c0 l, av = (2, c0) :: l ∧ shc c0 = e := by
  match av, h with
  | [], h => exact absurd h (by show ¬ (-1 : Int) = e; omega)
  | (2, c0) :: l, h => exact ⟨c0, l, rfl, h⟩
  | (0, c0) :: l, h => exact absurd h (by show ¬ (-1 : Int) = e; omega)
  | (1, c0) :: l, h => exact absurd h (by show ¬ (-1 : Int) = e; omega)
  | (k + 3, c0) :: l, h => exact absurd h (by show ¬ (-1 : Int) = e; omega)
theorem mF_facts {m : Nat} (hm : m < 373) : Cond.code (yM m) (bM m) (mxl m) (rM m) ∈ lw_g ∧ Cond.initialized (yM m).cls ∈ lw_g ∧ ((yM m).cls ≠ "java/lang/invoke/MethodHandle" ∧ (yM m).cls ≠ "java/lang/invoke/VarHandle" ∧ (parseMethodDescriptor (yM m).desc).map (fun d => d.parameters.length) = some (nP m)) ∧ mxl m ≤ 21 := by
  have hF := mfB_ok m (MA_lt hm)
  unfold mfB at hF
  simp only [Bool.and_eq_true, decide_eq_true_eq] at hF
  obtain ⟨⟨⟨h1, h2⟩, h3, h4, h5, h6⟩, h7⟩ := hF
  exact ⟨mem_g (MA1_ok m (MA_lt hm)) rfl, mem_g (MA2_ok m (MA_lt hm)) rfl, ⟨h1, h2, h3⟩, h7⟩
theorem wM_in {m : Nat} (hm : m < 373) : ∀ w ∈ wM m, w ∈ lw_g := fun w h => by
  rcases List.mem_cons.mp h with rfl | h
  · exact (mF_facts hm).1
  · exact h
theorem sM_ms {m : Nat} (hm : m < 373) (hs : sM m = true) : Cond.static (yM m) ∈ lw_g := by
  have hF := mfB_ok m (MA_lt hm)
  unfold mfB at hF
  simp only [Bool.and_eq_true, decide_eq_true_eq] at hF
  obtain ⟨⟨-, -, -, -, h⟩, -⟩ := hF
  rcases h with ⟨-, h⟩ | ⟨h, -⟩
  · exact mem_g (MS1_ok m h) rfl
  · rw [hs] at h; cases h

set_option maxRecDepth 20000 in
theorem fr_l {d d' a RF RL : Nat} (h : d = d' + 1) (hF : d + 10 ≤ RF) (hL : 40 * d + 400 ≤ RL) (ha : a ≤ 21) : d' + 10 + 1 ≤ RF ∧ 8 + (a + 11) + (40 * d' + 400) ≤ RL := by
  subst h
  rw [Nat.mul_succ] at hL
  generalize 40 * d' = t at hL ⊢
  constructor <;> omega
section
variable {p : Program} {e : Env} {R : Room} {s : State} {mid : MethodId} {args : Array Value} {below : List Frame} {meth : Method} {c : Code} {Q : State → Prop} {d m : Nat} {r : AV} {H H' H1 : Hp} {f f1 : Int → Nat} {cells slots n pc k len : Nat} {is' : List AI} {ls st ls' st' : List AV} {la : Array Slot} {sv : List Value} {Hm : Heap} {locs : List Loc} {z : Int} {tb : List (Int × Nat)} {o : JI}
/-- what stands all through a run -/
def gox (l : Launch) (D : va_G) (cy : Nat → ClassId) (b : Nat → Nat) (base L : Nat) (xs : Nat → Int32) (p : Program) (e : Env) (R : Room) (s : State) (mid : MethodId) (args : Array Value) (below : List Frame) (meth : Method) (c : Code) (Q : State → Prop) (d m : Nat) (r : AV) (H H' : Hp) (f : Int → Nat) (cells slots : Nat) : Prop := m < 374 ∧ frm p s mid args meth c D cy base b L xs m ∧ (d + 10 ≤ R.frames ∧ 40 * d + 400 ≤ R.locals) ∧ (cells + ((H' 0 0).toNat - (H 0 0).toNat) ≤ R.cells ∧ slots + (szs (H' 0 0).toNat - szs (H 0 0).toNat) ≤ R.slots) ∧
  ∀ (f' : Int → Nat) (la' : Array Slot) (sv' : List Value) (Hm' : Heap) (locs' : List Loc) (pc' : Nat), (∀ k, okr (H 0 0) k → f' k = f k) → wrl D cy base f' H' Hm' → va_S (aq base) s.heap Hm' locs' → mta L xs H' → retc m pc' r sv' → W p l e R s mid args below meth c Hm' locs' (cells + ((H' 0 0).toNat - (H 0 0).toNat)) (slots + (szs (H' 0 0).toNat - szs (H 0 0).toNat)) Q (F0 mid pc' la' sv')
theorem gox.mono (X : gox l D cy b base L xs p e R s mid args below meth c Q d m r H H' f cells slots) (n1 : H 0 0 ≤ H1 0 0) (n2 : H1 0 0 ≤ H' 0 0) (hag : ∀ k, okr (H 0 0) k → f1 k = f k) : gox l D cy b base L xs p e R s mid args below meth c Q d m r H1 H' f1 (cells + ((H1 0 0).toNat - (H 0 0).toNat)) (slots + (szs (H1 0 0).toNat - szs (H 0 0).toNat)) := by
  have z1 : szs (H 0 0).toNat ≤ szs (H1 0 0).toNat := szs_mono (by omega)
  have z2 : szs (H1 0 0).toNat ≤ szs (H' 0 0).toNat := szs_mono (by omega)
  have ec : cells + ((H1 0 0).toNat - (H 0 0).toNat) + ((H' 0 0).toNat - (H1 0 0).toNat) = cells + ((H' 0 0).toNat - (H 0 0).toNat) := by omega
  have es : slots + (szs (H1 0 0).toNat - szs (H 0 0).toNat) + (szs (H' 0 0).toNat - szs (H1 0 0).toNat) = slots + (szs (H' 0 0).toNat - szs (H 0 0).toNat) := by omega
  refine ⟨X.1, X.2.1, X.2.2.1, ⟨by rw [ec]; exact X.2.2.2.1.1, by rw [es]; exact X.2.2.2.1.2⟩, fun f'' la' sv' Hm' locs' pc'' hag' hw'' hS'' hmt'' hrc => ?_⟩
  rw [ec, es]
  exact X.2.2.2.2 f'' la' sv' Hm' locs' pc'' (fun k hk => (hag' k (hk.mono n1)).trans (hag k hk)) hw'' hS'' hmt'' hrc
theorem gox.go (X : gox l D cy b base L xs p e R s mid args below meth c Q d m r H H' f cells slots) (ih : frmAM l D cy b base L xs n) (hx : ex n d m is' ls st H = some (r, H')) (hk : chk m pc is' = true) (hh : held s D cy base b L xs m f ls st H la sv Hm locs) : W p l e R s mid args below meth c Hm locs cells slots Q (F0 mid pc la sv) :=
  ih p e R s mid args below meth c Q d m pc is' ls st H r H' hx X.1 hk X.2.1 X.2.2.1.1 X.2.2.1.2 f la sv Hm locs cells slots hh X.2.2.2.1.1 X.2.2.2.1.2 X.2.2.2.2
theorem gox.jmp (X : gox l D cy b base L xs p e R s mid args below meth c Q d m r H H' f cells slots) (ih : frmAM l D cy b base L xs n) (hx : ex n d m (blk m k) ls st H = some (r, H')) (hh : held s D cy base b L xs m f ls st H la sv Hm locs) : W p l e R s mid args below meth c Hm locs cells slots Q (F0 mid (lpc m k) la sv) :=
  X.go ih hx (chk_all X.1 k) hh
theorem held.stk {st' : List AV} {sv' : List Value} (hh : held s D cy base b L xs m f ls st H la sv Hm locs) (hs : srel f (H 0 0) st' sv') : held s D cy base b L xs m f ls st' H la sv' Hm locs := by
  obtain ⟨hl, -, hw, hS, hlen, hfk, hmt⟩ := hh
  exact ⟨hl, hs, hw, hS, hlen, hfk, hmt⟩
/-- the callee's word for it: its run's cells fit -/
theorem gox.bnd (X : gox l D cy b base L xs p e R s mid args below meth c Q d m r H H' f cells slots) (n1 : H 0 0 ≤ H1 0 0) (n2 : H1 0 0 ≤ H' 0 0) : cells + ((H1 0 0).toNat - (H 0 0).toNat) ≤ R.cells ∧ slots + (szs (H1 0 0).toNat - szs (H 0 0).toNat) ≤ R.slots := by
  have h := X.2.2.2.1
  have z1 : szs (H 0 0).toNat ≤ szs (H1 0 0).toNat := szs_mono (by omega)
  have z2 : szs (H1 0 0).toNat ≤ szs (H' 0 0).toNat := szs_mono (by omega)
  omega
theorem gox.back (X : gox l D cy b base L xs p e R s mid args below meth c Q d m r H H' f cells slots) (ih : frmAM l D cy b base L xs n) (hh : held s D cy base b L xs m f ls st H la sv Hm locs) (k' : Nat) (r1 : AV) {st2 : List AV} {rest vals : List Value} (hk' : chk m (pc + 3) is' = true) (n1 : H 0 0 ≤ H1 0 0) (n2 : H1 0 0 ≤ H' 0 0) (hn : ex n d m is' ls st2 H1 = some (r, H'))
    (hcase : (rM k' = none ∧ st2 = dpr z.toNat st) ∨ (rM k' ≠ none ∧ st2 = r1 :: dpr z.toNat st)) (hrest : srel f (H 0 0) (dpr z.toNat st) rest)
    (run : va_Run p l e R s mid args below meth c Hm locs cells slots ((H1 0 0).toNat - (H 0 0).toNat) (szs (H1 0 0).toNat - szs (H 0 0).toNat) (F0 mid pc la sv) rest (mQc D cy b base L xs f H k' r1 H1 vals.toArray) (aq base)) : W p l e R s mid args below meth c Hm locs cells slots Q (F0 mid pc la sv) := by
  obtain ⟨hl, hs, hw, hS, hlen, hfk, hmt⟩ := hh
  intro T hT X0
  obtain ⟨v, st₀, t, T', Lc, h0, X', hL, e1, e2, ⟨v2, f', hv, hag, hrr, hw', hmt', hz', hF'⟩, hgo⟩ := run T hT X0
  cases hv
  rw [h0] at hz' hF'
  have hS' : va_S (aq base) s.heap T'.heap (locs ++ Lc) := ⟨Nat.le_trans hS.1 (by rw [e1]; exact hz'), fun q g1 g2 => by rw [e1, hF' q (Nat.lt_of_lt_of_le g1 hS.1) g2]; exact hS.2.1 q g1 g2, fun q hq => by
    rcases List.mem_append.mp hq with h | h
    · exact hS.2.2 q h
    · exact hL q h⟩
  have hrest' := hrest.mono n1 hag
  have hst2 : srel f' (H1 0 0) st2 (v.toList ++ rest) := by
    rcases hrr with ⟨q1, rfl⟩ | ⟨q1, v', rfl, q2⟩
    · rcases hcase with ⟨-, rfl⟩ | ⟨w, -⟩
      · exact hrest'
      · exact absurd q1 w
    · rcases hcase with ⟨w, -⟩ | ⟨-, rfl⟩
      · exact absurd w q1
      · exact ⟨q2, hrest'⟩
  have hfk' : fok b f' := ⟨by rw [hag _ (by unfold okr; omega)]; exact hfk.1, by rw [hag _ (by unfold okr; omega)]; exact hfk.2.1, by rw [hag _ (by unfold okr; omega)]; exact hfk.2.2⟩
  have := (X.mono n1 n2 hag).go (la := la) (sv := v.toList ++ rest) (Hm := T'.heap) (locs := locs ++ Lc) ih hn hk' ⟨hl.mono n1 hag, hst2, by rw [e1]; exact hw', hS', hlen, hfk', hmt'⟩
  obtain ⟨t2, a1, b1⟩ := this T' rfl X'
  exact ⟨t2, hgo t2 a1, b1⟩
theorem gox.stat (X : gox l D cy b base L xs p e R s mid args below meth c Q d m r H H' f cells slots) (ihM : metAM l D cy b base L xs n) (ih : frmAM l D cy b base L xs n) (hh : held s D cy base b L xs m f ls st H la sv Hm locs) (d' k' x : Nat) (r1 : AV) {st2 : List AV} (hdd : d = d' + 1) (hk3 : k' < 373) (hk' : chk m (pc + 3) is' = true) (hdx : decode (bM m) pc = .ok (.invokestatic x, 3)) (hML : (on m, x, k', 0) ∈ ML) (hsM : sM k' = true) (hz : z = (nP k' : Nat)) (hzl : z.toNat ≤ st.length) (hwd : wds (dpr z.toNat st) ≤ 8) (hwa : wds (tkr z.toNat st []) ≤ mxl k') (hx : ex n d' k' (blk k' 0) (lcs (mxl k') (tkr z.toNat st [])) [] H = some (r1, H1)) (hn : ex n d m is' ls st2 H1 = some (r, H')) (hcase : (rM k' = none ∧ st2 = dpr z.toNat st) ∨ (rM k' ≠ none ∧ st2 = r1 :: dpr z.toNat st)) : W p l e R s mid args below meth c Hm locs cells slots Q (F0 mid pc la sv) := by
  obtain ⟨hl, hs, hw, hS, hlen, hfk, hmt⟩ := id hh
  have F := X.2.1
  obtain ⟨hxx, hb, hml, hown, hini, hts, hK, hX, hbb, hbs, hst⟩ := id F
  have hla : la.size = mxl m := by rw [hl.size, hlen]
  have n1 : H 0 0 ≤ H1 0 0 := ex_n n (by omega) (chk_all (by omega) 0) hx
  have n2 : H1 0 0 ≤ H' 0 0 := ex_n n X.1 hk' hn
  obtain ⟨top, rest, rfl, t2, t3, t4⟩ := tkr_rel z.toNat st sv [] [] hs hzl trivial
  rw [List.append_nil] at t3
  obtain ⟨q1, q2, q3, q4⟩ := mF_facts hk3
  have hM := ihM d' k' _ H r1 H1 f _ hx hk3 hwa t3 hmt hfk
  obtain ⟨hfr, hfl⟩ := fr_l hdd X.2.2.1.1 X.2.2.1.2 q4
  refine X.back ih hh k' r1 (vals := top.reverse) hk' n1 n2 hn hcase t4 (va_runS (As := top.reverse) (rest := rest) ⟨hxx, hb, hml, hown, hts⟩ hM (va_cwS (nP k') hts (goodIn_l (fun w hw => ?_)) rfl rfl rfl q3 ⟨hfr, hfl⟩) ⟨mPc_blind, fun U hU hW => mPc_at F hw hS hU hW⟩ rfl ?_ hla ?_ ?_ hdx (X.bnd n1 n2))
  · unfold va_wsS at hw
    rcases List.mem_append.mp hw with h | h
    · simp only [List.mem_cons, List.not_mem_nil, or_false] at h
      rcases h with rfl | rfl | rfl
      · exact mem_g (ML_ok _ hML) rfl
      · exact sM_ms hk3 hsM
      · exact q2
    · exact wM_in hk3 w h
  · rw [List.length_reverse, t2]; omega
  · show top ++ rest = _; rw [List.reverse_reverse]
  · show 2 * 0 + _ ≤ 8
    have := srel_wds t4
    omega
theorem gox.virt (X : gox l D cy b base L xs p e R s mid args below meth c Q d m r H H' f cells slots) (ihM : metAM l D cy b base L xs n) (ih : frmAM l D cy b base L xs n) (hh : held s D cy base b L xs m f ls st H la sv Hm locs) (d' k' x : Nat) (ee : Int) (r1 : AV) {st2 : List AV} (hdd : d = d' + 1) (hk3 : k' < 373) (hk' : chk m (pc + 3) is' = true) (hdx : decode (bM m) pc = .ok (.invokevirtual x, 3)) (hML : (on m, x, k', 1) ∈ ML) (hMV : k' ∈ MV) (hz : z = (nP k' + 1 : Nat)) (hee : 0 ≤ ee ∧ ee < 12 ∧ (clD ee.toNat).1 = (yM k').cls) (hsh : shc (rcv (tkr z.toNat st [])) = ee) (hzl : z.toNat ≤ st.length) (hwd : wds (dpr z.toNat st) ≤ 8) (hwa : wds (tkr z.toNat st []) ≤ mxl k') (hx : ex n d' k' (blk k' 0) (lcs (mxl k') (tkr z.toNat st [])) [] H = some (r1, H1)) (hn : ex n d m is' ls st2 H1 = some (r, H')) (hcase : (rM k' = none ∧ st2 = dpr z.toNat st) ∨ (rM k' ≠ none ∧ st2 = r1 :: dpr z.toNat st)) : W p l e R s mid args below meth c Hm locs cells slots Q (F0 mid pc la sv) := by
  obtain ⟨hl, hs, hw, hS, hlen, hfk, hmt⟩ := id hh
  have F := X.2.1
  obtain ⟨hxx, hb, hml, hown, hini, hts, hK, hX, hbb, hbs, hst⟩ := id F
  have hla : la.size = mxl m := by rw [hl.size, hlen]
  have n1 : H 0 0 ≤ H1 0 0 := ex_n n (by omega) (chk_all (by omega) 0) hx
  have n2 : H1 0 0 ≤ H' 0 0 := ex_n n X.1 hk' hn
  obtain ⟨top, rest, rfl, t2, t3, t4⟩ := tkr_rel z.toNat st sv [] [] hs hzl trivial
  rw [List.append_nil] at t3
  obtain ⟨q1, q2, q3, q4⟩ := mF_facts hk3
  have hM := ihM d' k' _ H r1 H1 f _ hx hk3 hwa t3 hmt hfk
  obtain ⟨hfr, hfl⟩ := fr_l hdd X.2.2.1.1 X.2.2.1.2 q4
  obtain ⟨c0, av', hav, hc0⟩ := rcv_s hsh hee.1
  rw [hav] at t3
  obtain ⟨As, hAs, ho, t5⟩ := srel_a t3 (sh_ne (Or.inl (by omega))).1
  have hlen2 : As.length = nP k' := by
    have := congrArg List.length hAs
    simp at this
    omega
  obtain ⟨ws, fs, w1, w2, w3, w4, w5, -⟩ := hw.obj ho (ci := ee.toNat) (by omega)
  obtain ⟨hc1, -⟩ := cls_at (ci := ee.toNat) (by omega)
  have hrecv := va_recv hK w4 hc1 w1
  rw [hee.2.2] at hrecv
  rw [hAs] at hM
  refine X.back ih hh k' r1 (vals := Value.ref (f c0) :: As) hk' n1 n2 hn hcase t4 (va_runV (C := (yM k').cls) (As := As) (rest := rest) ⟨hxx, hb, hml, hown, hts⟩ hM (cwV (nP k') hts (goodIn_l (wsV_g (mem_g (ML_ok _ hML) rfl) ?_ (mem_g (MV1_ok _ hMV) rfl) q2 q1)) rfl rfl rfl ⟨rfl, q3⟩ ⟨hfr, hfl⟩) ⟨mPc_blind, hrecv, fun U hU hW => mPc_at F hw hS hU hW⟩ rfl hlen2 hla ?_ ?_ hdx (X.bnd n1 n2))
  · have hF := mfB_ok k' (MA_lt hk3)
    unfold mfB at hF
    simp only [Bool.and_eq_true, decide_eq_true_eq] at hF
    obtain ⟨⟨-, -, -, -, h⟩, -⟩ := hF
    rcases h with ⟨-, h⟩ | ⟨-, h⟩
    · have hdis : ∀ a ∈ MV, a ∉ MS := by decide +kernel
      exact absurd h (hdis _ hMV)
    · exact mem_g (MI1_ok _ h) rfl
  · show top ++ rest = _
    have : top = (Value.ref (f c0) :: As).reverse := by rw [← hAs, List.reverse_reverse]
    rw [this]; simp
  · show 2 * 0 + _ ≤ 8
    have := srel_wds t4
    omega
theorem gox.spec (X : gox l D cy b base L xs p e R s mid args below meth c Q d m r H H' f cells slots) (ihM : metAM l D cy b base L xs n) (ih : frmAM l D cy b base L xs n) (hh : held s D cy base b L xs m f ls st H la sv Hm locs) (d' k' x kd : Nat) (ee : Int) (r1 : AV) {st2 : List AV} (hdd : d = d' + 1) (hk3 : k' < 373) (hk' : chk m (pc + 3) is' = true) (hdx : decode (bM m) pc = .ok (.invokespecial x, 3)) (hML : (on m, x, k', kd) ∈ ML) (hkd : kd = 2 ∨ kd = 3) (hMI : k' ∈ MI) (hnm : (yM k').name = "<init>") (hrM : rM k' = none) (hz : z = (nP k' + 1 : Nat)) (hsh : shc (rcv (tkr z.toNat st [])) = ee) (hzl : z.toNat ≤ st.length) (hwd : wds (dpr z.toNat st) ≤ 8) (hwa : wds (tkr z.toNat st []) ≤ mxl k') (hx : ex n d' k' (blk k' 0) (lcs (mxl k') (tkr z.toNat st [])) [] H = some (r1, H1)) (hn : ex n d m is' ls st2 H1 = some (r, H')) (hcase : (rM k' = none ∧ st2 = dpr z.toNat st) ∨ (rM k' ≠ none ∧ st2 = r1 :: dpr z.toNat st)) (hee : 0 ≤ ee) : W p l e R s mid args below meth c Hm locs cells slots Q (F0 mid pc la sv) := by
  obtain ⟨hl, hs, hw, hS, hlen, hfk, hmt⟩ := id hh
  have F := X.2.1
  obtain ⟨hxx, hb, hml, hown, hini, hts, hK, hX, hbb, hbs, hst⟩ := id F
  have hla : la.size = mxl m := by rw [hl.size, hlen]
  have n1 : H 0 0 ≤ H1 0 0 := ex_n n (by omega) (chk_all (by omega) 0) hx
  have n2 : H1 0 0 ≤ H' 0 0 := ex_n n X.1 hk' hn
  obtain ⟨top, rest, rfl, t2, t3, t4⟩ := tkr_rel z.toNat st sv [] [] hs hzl trivial
  rw [List.append_nil] at t3
  obtain ⟨q1, q2, q3, q4⟩ := mF_facts hk3
  have hM := ihM d' k' _ H r1 H1 f _ hx hk3 hwa t3 hmt hfk
  obtain ⟨hfr, hfl⟩ := fr_l hdd X.2.2.1.1 X.2.2.1.2 q4
  obtain ⟨c0, av', hav, hc0⟩ := rcv_s hsh hee
  rw [hav] at t3
  obtain ⟨As, hAs, ho, t5⟩ := srel_a t3 (sh_ne (Or.inl (by omega))).1
  have hlen2 : As.length = nP k' := by
    have := congrArg List.length hAs
    simp at this
    omega
  rw [hAs] at hM
  have htop : (F0 mid pc la (top ++ rest)).stack = As.reverse ++ .ref (f c0) :: rest := by
    show top ++ rest = _
    have : top = (Value.ref (f c0) :: As).reverse := by rw [← hAs, List.reverse_reverse]
    rw [this]; simp
  have hroom : 2 * (F0 mid pc la (top ++ rest)).monitorRoom + (rest.map fun v => v.category).sum ≤ 8 := by
    show 2 * 0 + _ ≤ 8
    have := srel_wds t4
    omega
  have hwM : wM k' = Cond.code (yM k') (bM k') (mxl k') none :: lw_g := by unfold wM; rw [hrM]
  have hml' := ML_ok _ hML
  rcases hkd with rfl | rfl
  · exact X.back ih hh k' r1 (vals := Value.ref (f c0) :: As) hk' n1 n2 hn hcase t4 (va_runI (As := As) (rest := rest) ⟨hxx, hb, hml, hown, hts⟩ hM (cwI (nP k') hts (goodIn_l (wM_in hk3)) hwM rfl rfl (hts _ q2) (hts _ (mem_g hml' rfl)) (hts _ (mem_g (MI1_ok _ hMI) rfl)) hnm q3 ⟨hfr, hfl⟩) ⟨mPc_blind, fun U hU hW => mPc_at F hw hS hU hW⟩ rfl hlen2 hla htop hroom hdx (X.bnd n1 n2))
  · have hne : va_Nw (Cond.methodLinkNest (cn (on m)) x (yM k') "EvenOars") s := hst.2.2.1 _ hML rfl
    exact X.back ih hh k' r1 (vals := Value.ref (f c0) :: As) hk' n1 n2 hn hcase t4 (va_runIN (As := As) (rest := rest) ⟨hxx, hb, hml, hown, hts⟩ hM ⟨va_cnB (nP k') hts (goodIn_l (wM_in hk3)) hwM rfl rfl hne (hts _ q2) q3 ⟨hfr, hfl⟩, hnm, hts _ (mem_g (MI1_ok _ hMI) rfl)⟩ ⟨mPc_blind, fun U hU hW => mPc_at F hw hS hU hW⟩ rfl hlen2 hla htop hroom hdx (X.bnd n1 n2))
/-- the orders, one by one -/
theorem o_14 {x : Int} {pc' : Nat} (X : gox l D cy b base L xs p e R s mid args below meth c Q d m r H H' f cells slots) (ih : frmAM l D cy b base L xs n) (hd : decode (bM m) pc = .ok (o, len)) (hk' : chk m pc' is' = true) (hc : ck1 m pc (14, k, z, tb) o len = some pc') (hh : held s D cy base b L xs m f ls ((0, x) :: st') H la sv Hm locs) (hex : (if am_cn z x 0 = true then ex n d m (blk m k) ls st' H else ex n d m is' ls st' H) = some (r, H')) : W p l e R s mid args below meth c Hm locs cells slots Q (F0 mid pc la sv) := by
  have hs := hh.2.1
  replace hc : ck_14 m pc (14, k, z, tb) o len = some pc' := hc
  unfold ck_14 at hc
  split at hc
  · obtain ⟨h, rfl⟩ := opg_s hc
    simp only [Bool.and_eq_true, decide_eq_true_eq] at h
    obtain ⟨rfl, rfl, hz, ht⟩ := h
    replace hs := srel_i hs
    obtain ⟨x', sv', rfl, hx', hs⟩ := hs
    exact b_if X.2.1.1 X.2.1.2.1 hz hx' hd ht (fun q => X.jmp ih (by rw [if_pos q] at hex; exact hex) (hh.stk hs)) (fun q => X.go ih (by rw [if_neg q] at hex; exact hex) hk' (hh.stk hs))
  · cases hc
theorem o_15 {x y : Int} {pc' : Nat} (X : gox l D cy b base L xs p e R s mid args below meth c Q d m r H H' f cells slots) (ih : frmAM l D cy b base L xs n) (hd : decode (bM m) pc = .ok (o, len)) (hk' : chk m pc' is' = true) (hc : ck1 m pc (15, k, z, tb) o len = some pc') (hh : held s D cy base b L xs m f ls ((0, y) :: (0, x) :: st') H la sv Hm locs) (hex : (if am_cn z x y = true then ex n d m (blk m k) ls st' H else ex n d m is' ls st' H) = some (r, H')) : W p l e R s mid args below meth c Hm locs cells slots Q (F0 mid pc la sv) := by
  have hs := hh.2.1
  replace hc : ck_15 m pc (15, k, z, tb) o len = some pc' := hc
  unfold ck_15 at hc
  split at hc
  · obtain ⟨h, rfl⟩ := opg_s hc
    simp only [Bool.and_eq_true, decide_eq_true_eq] at h
    obtain ⟨rfl, rfl, hz, ht⟩ := h
    replace hs := srel_i hs
    obtain ⟨y', sv', rfl, hy', hs⟩ := hs
    replace hs := srel_i hs
    obtain ⟨x', sv', rfl, hx', hs⟩ := hs
    exact b_ic X.2.1.1 X.2.1.2.1 hz hx' hy' hd ht (fun q => X.jmp ih (by rw [if_pos q] at hex; exact hex) (hh.stk hs)) (fun q => X.go ih (by rw [if_neg q] at hex; exact hex) hk' (hh.stk hs))
  · cases hc
theorem o_16 {pc' : Nat} (X : gox l D cy b base L xs p e R s mid args below meth c Q d m r H H' f cells slots) (ih : frmAM l D cy b base L xs n) (hd : decode (bM m) pc = .ok (o, len)) (hc : ck1 m pc (16, k, z, tb) o len = some pc') (hh : held s D cy base b L xs m f ls st H la sv Hm locs) (hex : ex n d m (blk m k) ls st H = some (r, H')) : W p l e R s mid args below meth c Hm locs cells slots Q (F0 mid pc la sv) := by
  replace hc : ck_16 m pc (16, k, z, tb) o len = some pc' := hc
  unfold ck_16 at hc
  split at hc
  · obtain ⟨h, rfl⟩ := opg_s hc
    simp only [Bool.and_eq_true, decide_eq_true_eq] at h
    obtain ⟨rfl, ht⟩ := h
    exact lv_goto X.2.1.1 X.2.1.2.1 hd ht (X.jmp ih hex hh)
  · cases hc
theorem o_35 {pc' d' : Nat} {r1 : AV} (X : gox l D cy b base L xs p e R s mid args below meth c Q d m r H H' f cells slots) (ihM : metAM l D cy b base L xs n) (ih : frmAM l D cy b base L xs n) (hd : decode (bM m) pc = .ok (o, len)) (hk' : chk m pc' is' = true) (hc : ck1 m pc (35, k, z, tb) o len = some pc') (hh : held s D cy base b L xs m f ls st H la sv Hm locs) (hdd : d = d' + 1) (hg : (z.toNat ≤ st.length ∧ wds (dpr z.toNat st) ≤ 8) ∧ wds (tkr z.toNat st []) ≤ mxl k) (hx : ex n d' k (blk k 0) (lcs (mxl k) (tkr z.toNat st [])) [] H = some (r1, H1)) (hn : ex n d m is' ls (r1 :: dpr z.toNat st) H1 = some (r, H')) : W p l e R s mid args below meth c Hm locs cells slots Q (F0 mid pc la sv) := by
  replace hc : ck_35 m pc (35, k, z, tb) o len = some pc' := hc
  unfold ck_35 at hc
  split at hc
  · obtain ⟨h, rfl⟩ := opg_s hc
    simp only [Bool.and_eq_true, decide_eq_true_eq] at h
    obtain ⟨rfl, h2, h3, h4, h5, h6⟩ := h
    exact X.stat ihM ih hh d' k _ r1 hdd h6 hk' hd (List.contains_iff_mem.mp h2) h3 h4 hg.1.1 hg.1.2 hg.2 hx hn (Or.inr ⟨h5, rfl⟩)
  · cases hc
theorem o_37 {pc' d' : Nat} {r1 : AV} (X : gox l D cy b base L xs p e R s mid args below meth c Q d m r H H' f cells slots) (ihM : metAM l D cy b base L xs n) (ih : frmAM l D cy b base L xs n) (hd : decode (bM m) pc = .ok (o, len)) (hk' : chk m pc' is' = true) (hc : ck1 m pc (37, k, z, tb) o len = some pc') (hh : held s D cy base b L xs m f ls st H la sv Hm locs) (hdd : d = d' + 1) (hg : (z.toNat ≤ st.length ∧ wds (dpr z.toNat st) ≤ 8) ∧ wds (tkr z.toNat st []) ≤ mxl k) (hx : ex n d' k (blk k 0) (lcs (mxl k) (tkr z.toNat st [])) [] H = some (r1, H1)) (hn : ex n d m is' ls (dpr z.toNat st) H1 = some (r, H')) : W p l e R s mid args below meth c Hm locs cells slots Q (F0 mid pc la sv) := by
  replace hc : ck_37 m pc (37, k, z, tb) o len = some pc' := hc
  unfold ck_37 at hc
  split at hc
  · obtain ⟨h, rfl⟩ := opg_s hc
    simp only [Bool.and_eq_true, decide_eq_true_eq] at h
    obtain ⟨rfl, h2, h3, h4, h5, h6⟩ := h
    exact X.stat ihM ih hh d' k _ r1 hdd h6 hk' hd (List.contains_iff_mem.mp h2) h3 h4 hg.1.1 hg.1.2 hg.2 hx hn (Or.inl ⟨h5, rfl⟩)
  · cases hc
theorem o_36 {pc' d' : Nat} {r1 : AV} (X : gox l D cy b base L xs p e R s mid args below meth c Q d m r H H' f cells slots) (ihM : metAM l D cy b base L xs n) (ih : frmAM l D cy b base L xs n) (hd : decode (bM m) pc = .ok (o, len)) (hk' : chk m pc' is' = true) (hc : ck1 m pc (36, k, z, tb) o len = some pc') (hh : held s D cy base b L xs m f ls st H la sv Hm locs) (hdd : d = d' + 1) (hg : ([shc (rcv (tkr z.toNat st []))] = tb.map Prod.fst ∧ z.toNat ≤ st.length ∧ wds (dpr z.toNat st) ≤ 8) ∧ wds (tkr z.toNat st []) ≤ mxl k) (hx : ex n d' k (blk k 0) (lcs (mxl k) (tkr z.toNat st [])) [] H = some (r1, H1)) (hn : ex n d m is' ls (r1 :: dpr z.toNat st) H1 = some (r, H')) : W p l e R s mid args below meth c Hm locs cells slots Q (F0 mid pc la sv) := by
  replace hc : ck_36 m pc (36, k, z, tb) o len = some pc' := hc
  unfold ck_36 at hc
  split at hc
  · rename_i x ee htb
    obtain ⟨h, rfl⟩ := opg_s hc
    simp only [Bool.and_eq_true, decide_eq_true_eq] at h
    obtain ⟨rfl, h2, h3, h4, h5, h6, h7⟩ := h
    replace htb : tb = [(ee, 0)] := htb
    subst htb
    exact X.virt ihM ih hh d' k _ ee r1 hdd h7 hk' hd (List.contains_iff_mem.mp h2) (List.contains_iff_mem.mp h3) h4 h5 (List.cons.inj hg.1.1).1 hg.1.2.1 hg.1.2.2 hg.2 hx hn (Or.inr ⟨h6, rfl⟩)
  · cases hc
theorem o_38 {pc' d' : Nat} {r1 : AV} (X : gox l D cy b base L xs p e R s mid args below meth c Q d m r H H' f cells slots) (ihM : metAM l D cy b base L xs n) (ih : frmAM l D cy b base L xs n) (hd : decode (bM m) pc = .ok (o, len)) (hk' : chk m pc' is' = true) (hc : ck1 m pc (38, k, z, tb) o len = some pc') (hh : held s D cy base b L xs m f ls st H la sv Hm locs) (hdd : d = d' + 1) (hg : ([shc (rcv (tkr z.toNat st []))] = tb.map Prod.fst ∧ z.toNat ≤ st.length ∧ wds (dpr z.toNat st) ≤ 8) ∧ wds (tkr z.toNat st []) ≤ mxl k) (hx : ex n d' k (blk k 0) (lcs (mxl k) (tkr z.toNat st [])) [] H = some (r1, H1)) (hn : ex n d m is' ls (dpr z.toNat st) H1 = some (r, H')) : W p l e R s mid args below meth c Hm locs cells slots Q (F0 mid pc la sv) := by
  replace hc : ck_38 m pc (38, k, z, tb) o len = some pc' := hc
  unfold ck_38 at hc
  split at hc
  · rename_i x ee htb
    obtain ⟨h, rfl⟩ := opg_s hc
    simp only [Bool.and_eq_true, decide_eq_true_eq] at h
    obtain ⟨rfl, h2, h3, h4, h5, h6, h7⟩ := h
    replace htb : tb = [(ee, 0)] := htb
    subst htb
    exact X.virt ihM ih hh d' k _ ee r1 hdd h7 hk' hd (List.contains_iff_mem.mp h2) (List.contains_iff_mem.mp h3) h4 h5 (List.cons.inj hg.1.1).1 hg.1.2.1 hg.1.2.2 hg.2 hx hn (Or.inl ⟨h6, rfl⟩)
  · rename_i x ee htb
    obtain ⟨h, rfl⟩ := opg_s hc
    simp only [Bool.and_eq_true, Bool.or_eq_true, decide_eq_true_eq] at h
    obtain ⟨rfl, h2, h3, h4, h5, h6, h7, h8⟩ := h
    replace htb : tb = [(ee, 1)] := htb
    subst htb
    rcases h2 with h2 | h2
    · exact X.spec ihM ih hh d' k _ 2 ee r1 hdd h7 hk' hd (List.contains_iff_mem.mp h2) (Or.inl rfl) (List.contains_iff_mem.mp h3) h4 h6 h5 (List.cons.inj hg.1.1).1 hg.1.2.1 hg.1.2.2 hg.2 hx hn (Or.inl ⟨h6, rfl⟩) h8
    · exact X.spec ihM ih hh d' k _ 3 ee r1 hdd h7 hk' hd (List.contains_iff_mem.mp h2) (Or.inr rfl) (List.contains_iff_mem.mp h3) h4 h6 h5 (List.cons.inj hg.1.1).1 hg.1.2.1 hg.1.2.2 hg.2 hx hn (Or.inl ⟨h6, rfl⟩) h8
  · cases hc
/-- the end of a run -/
theorem gox.fin (X : gox l D cy b base L xs p e R s mid args below meth c Q d m r H H f cells slots) (hh : held s D cy base b L xs m f ls st H la sv Hm locs) (hr : retc m pc r sv) : W p l e R s mid args below meth c Hm locs cells slots Q (F0 mid pc la sv) := by
  have := X.2.2.2.2 f la sv Hm locs pc (fun _ _ => rfl) hh.2.2.1 hh.2.2.2.1 hh.2.2.2.2.2.2 hr
  rw [Nat.sub_self, Nat.sub_self, Nat.add_zero, Nat.add_zero] at this
  exact this
theorem o_39 {pc' : Nat} (X : gox l D cy b base L xs p e R s mid args below meth c Q d m r H H f cells slots) (hd : decode (bM m) pc = .ok (o, len)) (hc : ck1 m pc (39, k, z, tb) o len = some pc') (hh : held s D cy base b L xs m f ls [] H la sv Hm locs) : W p l e R s mid args below meth c Hm locs cells slots Q (F0 mid pc la sv) := by
  replace hc : ck_39 m pc (39, k, z, tb) o len = some pc' := hc
  unfold ck_39 at hc
  obtain ⟨h, -⟩ := opg_s hc
  simp only [Bool.and_eq_true, decide_eq_true_eq] at h
  obtain ⟨rfl, rfl, h2⟩ := h
  exact X.fin hh (Or.inl ⟨hd, h2, srel_nil hh.2.1⟩)
theorem o_40 {pc' : Nat} {x : Int} (X : gox l D cy b base L xs p e R s mid args below meth c Q d m (vi x) H H f cells slots) (hd : decode (bM m) pc = .ok (o, len)) (hc : ck1 m pc (40, k, z, tb) o len = some pc') (hh : held s D cy base b L xs m f ls [(0, x)] H la sv Hm locs) : W p l e R s mid args below meth c Hm locs cells slots Q (F0 mid pc la sv) := by
  replace hc : ck_40 m pc (40, k, z, tb) o len = some pc' := hc
  unfold ck_40 at hc
  obtain ⟨h, -⟩ := opg_s hc
  simp only [Bool.and_eq_true, decide_eq_true_eq] at h
  obtain ⟨rfl, rfl, h2⟩ := h
  obtain ⟨x', sv', rfl, rfl, hs⟩ := srel_i hh.2.1
  obtain rfl := srel_nil hs
  exact X.fin hh (Or.inr (Or.inl ⟨hd, x', rfl, rfl, Or.inl h2⟩))
theorem o_41 {pc' : Nat} {x : Int} (X : gox l D cy b base L xs p e R s mid args below meth c Q d m (vl x) H H f cells slots) (hd : decode (bM m) pc = .ok (o, len)) (hc : ck1 m pc (41, k, z, tb) o len = some pc') (hh : held s D cy base b L xs m f ls [(1, x)] H la sv Hm locs) : W p l e R s mid args below meth c Hm locs cells slots Q (F0 mid pc la sv) := by
  replace hc : ck_41 m pc (41, k, z, tb) o len = some pc' := hc
  unfold ck_41 at hc
  obtain ⟨h, -⟩ := opg_s hc
  simp only [Bool.and_eq_true, decide_eq_true_eq] at h
  obtain ⟨rfl, rfl, h2⟩ := h
  obtain ⟨x', sv', rfl, rfl, hs⟩ := srel_l hh.2.1
  obtain rfl := srel_nil hs
  exact X.fin hh (Or.inr (Or.inr ⟨hd, h2, x', rfl, rfl⟩))
theorem o_42 {pc' : Nat} {x : Int} (X : gox l D cy b base L xs p e R s mid args below meth c Q d m (vi x) H H f cells slots) (hd : decode (bM m) pc = .ok (o, len)) (hc : ck1 m pc (42, k, z, tb) o len = some pc') (hbv : x = 0 ∨ x = 1) (hh : held s D cy base b L xs m f ls [(0, x)] H la sv Hm locs) : W p l e R s mid args below meth c Hm locs cells slots Q (F0 mid pc la sv) := by
  replace hc : ck_42 m pc (42, k, z, tb) o len = some pc' := hc
  unfold ck_42 at hc
  obtain ⟨h, -⟩ := opg_s hc
  simp only [Bool.and_eq_true, decide_eq_true_eq] at h
  obtain ⟨rfl, rfl, h2⟩ := h
  obtain ⟨x', sv', rfl, rfl, hs⟩ := srel_i hh.2.1
  obtain rfl := srel_nil hs
  have hb2 : x' = 0 ∨ x' = 1 := by
    rcases hbv with q | q
    · exact Or.inl (Int32.toInt_inj.mp q)
    · exact Or.inr (Int32.toInt_inj.mp q)
  exact X.fin hh (Or.inr (Or.inl ⟨hd, x', rfl, rfl, Or.inr ⟨h2, hb2⟩⟩))
theorem o_45 {pc' : Nat} {x : Int} (X : gox l D cy b base L xs p e R s mid args below meth c Q d m r H H' f cells slots) (ih : frmAM l D cy b base L xs n) (hd : decode (bM m) pc = .ok (o, len)) (hc : ck1 m pc (45, k, z, tb) o len = some pc') (hh : held s D cy base b L xs m f ls ((0, x) :: st') H la sv Hm locs) (hex : ex n d m (blk m (swl x k tb)) ls st' H = some (r, H')) : W p l e R s mid args below meth c Hm locs cells slots Q (F0 mid pc la sv) := by
  obtain ⟨x', sv', rfl, hx', hs⟩ := srel_i hh.2.1
  replace hc : ck_45 m pc (45, k, z, tb) o len = some pc' := hc
  unfold ck_45 at hc
  split at hc
  · rename_i dflt lo hi offs
    obtain ⟨h, -⟩ := opg_s hc
    simp only [Bool.and_eq_true, decide_eq_true_eq] at h
    obtain ⟨-, h2, h3, h4, h5⟩ := h
    have key := sw_tab (m := m) (pc := pc) (x := x) (lo := lo) (d := k) (offs := offs) offs.size tb 0 h3 (by omega) (fun j hj => by
      have h6 := List.all_eq_true.mp h5 j (List.mem_range.mpr hj)
      split at h6
      · rename_i q f0 g1 g2
        simp only [Bool.and_eq_true, decide_eq_true_eq] at h6
        rw [Nat.zero_add]
        exact ⟨f0, g2, by rw [show tb[j]? = some q from g1]; simp [h6.1], q, g1, h6.2⟩
      · cases h6)
    by_cases hin : lo ≤ x ∧ x < lo + (offs.size : Nat)
    · obtain ⟨f0, g1, g2⟩ := key.1 (by simpa using hin)
      refine lv_tableIn X.2.1.1 X.2.1.2.1 hd (by rw [hx']; omega) (by rw [hx']; omega) (by rw [hx']; exact g1) g2 (X.jmp ih hex (hh.stk hs))
    · have g2 := key.2 (by simp; omega)
      rw [g2] at hex
      exact lv_tableOut X.2.1.1 X.2.1.2.1 hd (by rw [hx']; omega) h2 (X.jmp ih hex (hh.stk hs))
  · rename_i dflt ps
    obtain ⟨h, -⟩ := opg_s hc
    simp only [Bool.and_eq_true, decide_eq_true_eq] at h
    obtain ⟨-, h2, h3, h4, h5⟩ := h
    have key := sw_look (x := x) h2 tb ps.toList h3 h5
    exact lv_lookup X.2.1.1 X.2.1.2.1 hd h4 rfl (by rw [hx']; exact key) (X.jmp ih hex (hh.stk hs))
  · cases hc
theorem o_am {pc' : Nat} {i : AI} (X : gox l D cy b base L xs p e R s mid args below meth c Q d m r H H' f cells slots) (ih : frmAM l D cy b base L xs n) (hd : decode (bM m) pc = .ok (o, len)) (hk' : chk m pc' is' = true) (hc : ck1 m pc i o len = some pc') (hh : held s D cy base b L xs m f ls st H la sv Hm locs) (ha : am1 i ls st H = some (ls', st', H1)) (hex : ex n d m is' ls' st' H1 = some (r, H')) : W p l e R s mid args below meth c Hm locs cells slots Q (F0 mid pc la sv) := by
  have n1 : H 0 0 ≤ H1 0 0 := am1_n ha hc
  have n2 : H1 0 0 ≤ H' 0 0 := ex_n n X.1 hk' hex
  have hb := X.bnd n1 n2
  have hR := X.2.2.1
  refine sim1 X.2.1 ⟨by omega, by omega⟩ hd hc ha f la sv Hm locs cells slots hh (by omega) (by omega) fun f' la' sv' Hm' locs' hag hh' => ?_
  exact (X.mono n1 n2 hag).go ih hex hk' hh'
end
theorem frm_succ {n : Nat} (ihM : metAM l D cy b base L xs n) (ih : frmAM l D cy b base L xs n) : frmAM l D cy b base L xs (n + 1) := by
  intro p e R s mid args below meth c Q d m pc is ls st H r H' hex hm hk F hRf hRl f la sv Hm locs cells slots hh hRc hRs hret
  have X : gox l D cy b base L xs p e R s mid args below meth c Q d m r H H' f cells slots := ⟨hm, F, ⟨hRf, hRl⟩, ⟨hRc, hRs⟩, hret⟩
  clear hret hRc hRs F hRf hRl
  cases is with
  | nil => cases hex
  | cons i is' =>
    obtain ⟨op, k, z, tb⟩ := i
    by_cases h17 : op = 17
    · subst h17
      have e1 : pc = lpc m k := by
        unfold chk at hk
        rw [if_pos rfl] at hk
        exact of_decide_eq_true hk
      rw [e1]
      exact X.jmp ih hex hh
    · obtain ⟨o, len, pc', hd, hc, hk'⟩ := opc_s hk h17
      replace hex : stp (ex n) d m ((op, k, z, tb) :: is') ls st H = some (r, H') := hex
      unfold stp at hex
      dsimp only at hex
      split at hex
      · split at hex
        · exact o_14 X ih hd hk' hc hh hex
        · cases hex
      · split at hex
        · exact o_15 X ih hd hk' hc hh hex
        · cases hex
      · exact o_16 X ih hd hc hh hex
      · exact absurd rfl h17
      · split at hex
        · cases hex
        · split at hex
          · rename_i hg
            split at hex
            · rename_i hx
              exact o_35 X ihM ih hd hk' hc hh rfl hg hx hex
            · cases hex
          · cases hex
      · split at hex
        · cases hex
        · split at hex
          · rename_i hg
            split at hex
            · rename_i hx
              exact o_36 X ihM ih hd hk' hc hh rfl hg hx hex
            · cases hex
          · cases hex
      · split at hex
        · cases hex
        · split at hex
          · rename_i hg
            split at hex
            · rename_i hx
              exact o_37 X ihM ih hd hk' hc hh rfl hg hx hex
            · cases hex
          · cases hex
      · split at hex
        · cases hex
        · split at hex
          · rename_i hg
            split at hex
            · rename_i hx
              exact o_38 X ihM ih hd hk' hc hh rfl hg hx hex
            · cases hex
          · cases hex
      · split at hex
        · cases hex
          exact o_39 X hd hc hh
        · cases hex
      · split at hex
        · cases hex
          exact o_40 X hd hc hh
        · cases hex
      · split at hex
        · cases hex
          exact o_41 X hd hc hh
        · cases hex
      · split at hex
        · split at hex
          · rename_i hbv
            cases hex
            exact o_42 X hd hc hbv hh
          · cases hex
        · cases hex
      · split at hex
        · exact o_45 X ih hd hc hh hex
        · cases hex
      · split at hex
        · rename_i ha
          exact o_am X ih hd hk' hc hh ha hex
        · cases hex
theorem frm_all : ∀ n, frmAM l D cy b base L xs n
  | 0 => fun _ _ _ _ _ _ _ _ _ _ _ _ _ _ _ _ _ _ _ hex => by cases hex
  | n + 1 => frm_succ (met_of (frm_all n)) (frm_all n)
end S17
end
section
/-! THE START: a run of the abstract machine from the script gives the claim -/
def Hz (L : Nat) (xs : Nat → Int32) : Hp := fun a b => if a = 999 then (if 0 ≤ b ∧ b < L then (xs b.toNat).toInt else 0) else if a = 0 ∧ b = 1 then (L : Int) else 0
/-- what is owed of the abstract machine -/
def AmOk (L : Nat) (xs : Nat → Int32) : Prop := ∃ n H', ex n 300 373 (blk 373 0) [va 999, vu, vu, vu] [] (Hz L xs) = some (vi 1, H') ∧ H' 0 0 ≤ 139
def tmS (i : Nat) : Term := if i = 0 then .string "EvenOars$BoatText" 44 else .string "EvenOars$Question" 49
def fltS : List Cond := flatC (Jvm.Cond.and given_1 narrow_1)
theorem fl_at {l : List Cond} {i : Nat} {c : Cond} (h : l[i]? = some c) : c ∈ l := List.mem_of_getElem? h
theorem fl_mem {l : List Cond} {a n : Nat} {f : Nat → Cond} (h : (l.drop a).take n = (List.range n).map f) {j : Nat} (hj : j < n) : f j ∈ l := List.mem_of_mem_drop (List.mem_of_mem_take (by rw [h]; exact List.mem_map_of_mem (List.mem_range.mpr hj)))
def elS (i j : Nat) : Cond := Cond.eq (.elem (.field (tmS i) "java/lang/String" "value" "[B") (.int (Int32.ofNat j))) (.int ((byS.getD i []).getD j 0))
set_option maxRecDepth 100000 in
set_option maxHeartbeats 4000000 in
theorem fltS_e0 : (fltS.drop 13).take 86 = (List.range 86).map (elS 0) := by rfl
set_option maxRecDepth 100000 in
set_option maxHeartbeats 4000000 in
theorem fltS_e1 : (fltS.drop 103).take 85 = (List.range 85).map (elS 1) := by rfl
set_option maxRecDepth 100000 in
theorem fltS_a : Cond.exactly (tmS 0) "java/lang/String" ∈ fltS ∧ Cond.eq (.field (tmS 0) "java/lang/String" "coder" "B") (.int 0) ∈ fltS ∧ Cond.arrayOf (.field (tmS 0) "java/lang/String" "value" "[B") .byte ∈ fltS ∧ Cond.eq (.length (.field (tmS 0) "java/lang/String" "value" "[B")) (.int (Int32.ofNat 86)) ∈ fltS := ⟨fl_at (i := 9) rfl, fl_at (i := 10) rfl, fl_at (i := 11) rfl, fl_at (i := 12) rfl⟩
set_option maxRecDepth 100000 in
theorem fltS_b : Cond.exactly (tmS 1) "java/lang/String" ∈ fltS ∧ Cond.eq (.field (tmS 1) "java/lang/String" "coder" "B") (.int 0) ∈ fltS ∧ Cond.arrayOf (.field (tmS 1) "java/lang/String" "value" "[B") .byte ∈ fltS ∧ Cond.eq (.length (.field (tmS 1) "java/lang/String" "value" "[B")) (.int (Int32.ofNat 85)) ∈ fltS := ⟨fl_at (i := 99) rfl, fl_at (i := 100) rfl, fl_at (i := 101) rfl, fl_at (i := 102) rfl⟩
set_option maxRecDepth 100000 in
theorem fltS_2 : Cond.not (Cond.eq (tmS 0) (tmS 1)) ∈ fltS ∧ Cond.eq (.static "java/lang/String" "COMPACT_STRINGS" "Z") (.int 1) ∈ fltS ∧ Cond.isRef (.static "jdk/internal/util/Preconditions" "SIOOBE_FORMATTER" "Ljava/util/function/BiFunction;") ∈ fltS := ⟨fl_at (i := 188) rfl, fl_at (i := 4) rfl, fl_at (i := 5) rfl⟩
theorem two {P : Nat → Prop} (h0 : P 0) (h1 : P 1) : ∀ i, i < 2 → P i
  | 0, _ => h0
  | 1, _ => h1
  | i + 2, h => by omega
set_option maxRecDepth 100000 in
theorem on_373 : on 373 = 13 ∧ cn 13 = "EvenOarsLaw" ∧ bM 373 = code ∧ mxl 373 = 4 ∧ (yM 373).name = "law" := ⟨rfl, rfl, rfl, rfl, rfl⟩
theorem st_arr {s : State} (hts : ∀ w ∈ lw_tbl, w.before #[] s = true) (ty : FieldType) (h : ty = .int ∨ ty = .long ∨ ty = .byte ∨ ty = .char) : ∃ cA, ArrOfT s cA ty ∧ va_RA s cA ty := by
  have h1 := hts _ (List.mem_filter.mp (wd_arr ty h)).1
  obtain ⟨c, k, comp, q1, q2, q3⟩ := Cond.arrayClass_spec h1
  refine ⟨c, fun n z => ⟨fun k h => (by cases h), k, q2, comp, q3⟩, ?_⟩
  rcases h with rfl | rfl | rfl | rfl <;> exact q1
theorem wrl_0 {D : va_G} {cy : Nat → ClassId} {base : Nat} {f : Int → Nat} {L : Nat} {xs : Nat → Int32} {Hm : Heap} : wrl D cy base f (Hz L xs) Hm := by
  refine ⟨0, [], rfl, by omega, rfl, fun k hk => absurd hk (Nat.not_lt_zero k), fun k q h => by simp at h, ⟨fun i j p q h => by simp at h, fun k q h => by simp at h⟩, fun k h1 h2 j => ?_⟩
  unfold Hz
  rw [if_neg (by omega), if_neg (by omega)]
set_option maxRecDepth 20000 in
/-- YOUR PART: from the entry, for every script of at most 3072 ints, the law comes to its end with true -/
theorem start_of {p : Program} {e : Env} {s : State} {m : MethodId} {below : List Frame} {meth : Method} {c : Code} (l : Launch) {b0 L : Nat} {xs : Nat → Int32} (hL : L ≤ 3072) (hx : p.tables.exec = Jvm.exec) (hb : c.code = code) (hml : c.maxLocals = 4) (hown : s.vm.findClass "EvenOarsLaw" = some m.cls) (hts : ∀ w ∈ lw_tbl, w.before #[Value.ref b0] s = true) (hX : va_X b0 L xs s s.heap) (hbl : b0 < s.heap.size) (hgv : (Jvm.Cond.and given_1 narrow_1).before #[Value.ref b0] s = true) (hAm : AmOk L xs) {Q : State → Prop}
    (hend : ∀ {pc : Nat} {H : Heap} {ls : Array Slot}, decode code pc = .ok (.ireturn, 1) → W p l e room_1 s m #[Value.ref b0] below meth c H [] 600000 7302250 Q (F0 m pc ls [.int 1])) :
    W p l e room_1 s m #[Value.ref b0] below meth c s.heap [] 0 0 Q (entryFrame m ([Value.ref b0] : List Value).toArray 4) := by
  obtain ⟨n, H', hex, hn⟩ := hAm
  have hflat : ∀ w ∈ fltS, w.before #[Value.ref b0] s = true := flat_of_before _ hgv
  have hA : ∀ a : Nat, a < s.heap.size → ¬ aq s.heap.size a := fun a h => Nat.not_le.mpr h
  have f2 := fltS_2
  obtain ⟨adK, adV, hvS, hvE⟩ := vk_Sof (args := #[Value.ref b0]) (s := s) (N := 2) (tm := tmS) (len := lnS) (byt := byS) (A := aq s.heap.size) (two (P := fun i => lnS.getD i 0 < 2 ^ 31) (by decide) (by decide)) (two (hflat _ fltS_a.1) (hflat _ fltS_b.1)) (two (hflat _ fltS_a.2.1) (hflat _ fltS_b.2.1)) (two (hflat _ fltS_a.2.2.1) (hflat _ fltS_b.2.2.1)) (two (hflat _ fltS_a.2.2.2) (hflat _ fltS_b.2.2.2))
    (two (P := fun i => ∀ j, j < lnS.getD i 0 → (elS i j).before #[Value.ref b0] s = true) (fun j hj => hflat _ (fl_mem fltS_e0 hj)) (fun j hj => hflat _ (fl_mem fltS_e1 hj)))
    (fun i j hi hj hij => by
      have := hflat _ f2.1
      match i, j, hi, hj, hij with
      | 0, 1, _, _, _ => exact Or.inl this
      | 1, 0, _, _, _ => exact Or.inr this
      | 0, 0, _, _, h => exact absurd rfl h
      | 1, 1, _, _, h => exact absurd rfl h
      | i + 2, _, h, _, _ => omega
      | _, j + 2, _, h, _ => omega) hA
  have hZ1 : va_Z "java/lang/String" "COMPACT_STRINGS" "Z" (.int 1) (aq s.heap.size) s s.heap := va_Zof (hts _ (List.mem_of_getElem? (i := 755) (by decide +kernel))) (hts _ (List.mem_of_getElem? (i := 168) (by decide +kernel))) (va_eqt (hflat _ f2.2.1)) hA
  obtain ⟨t2, ht2, hZ2⟩ : ∃ t : Value, (t = .null ∨ ∃ q : Nat, t = .ref q) ∧ va_Z "jdk/internal/util/Preconditions" "SIOOBE_FORMATTER" "Ljava/util/function/BiFunction;" t (aq s.heap.size) s s.heap := by
    rcases va_Zqof (hts _ (List.mem_of_getElem? (i := 771) (by decide +kernel))) (hts _ (List.mem_of_getElem? (i := 170) (by decide +kernel))) (hflat _ f2.2.2) hA with h | ⟨t, h⟩
    · exact ⟨_, Or.inl rfl, h⟩
    · exact ⟨_, Or.inr ⟨t, rfl⟩, h⟩
  obtain ⟨cc, hcc⟩ : ∃ cc : Nat → ClassId × (Nat → Nat), ∀ k, k < 12 → u_Kn s (clD k).1 (clD k).2.1 (clD k).2.2 (cc k).1 (cc k).2 := by
    have h0 : ∀ k : Nat, ∃ q : ClassId × (Nat → Nat), k < 12 → u_Kn s (clD k).1 (clD k).2.1 (clD k).2.2 q.1 q.2 := fun k => by
      by_cases hk : k < 12
      · obtain ⟨c0, i0, h⟩ := u_known (C := (clD k).1) (T := (clD k).2.1) (N := (clD k).2.2) (n := (clD k).2.2) hts (fun w hw => (List.mem_filter.mp ((cls_at hk).2.1 w hw)).1) (hts _ (KD1_ok k (by show k ∈ KD_0 ++ []; rw [List.append_nil]; exact List.mem_of_getElem? (i := k) (by match k, hk with | 0, _ => rfl | 1, _ => rfl | 2, _ => rfl | 3, _ => rfl | 4, _ => rfl | 5, _ => rfl | 6, _ => rfl | 7, _ => rfl | 8, _ => rfl | 9, _ => rfl | 10, _ => rfl | 11, _ => rfl | k + 12, h => omega))))
        exact ⟨(c0, i0), fun _ => h⟩
      · exact ⟨(0, fun _ => 0), fun h => absurd h hk⟩
    exact Classical.axiomOfChoice h0
  have hts0 : ∀ w ∈ lw_g, w.before #[Value.ref b0] s = true := fun w h => hts w (List.mem_filter.mp h).1
  have harr : ∀ ty : FieldType, ty = .int ∨ ty = .long ∨ ty = .byte ∨ ty = .char → ∃ cA, ArrOfT s cA ty ∧ va_RA s cA ty := fun ty h => by
    have h1 := hts0 _ (wd_arr ty h)
    obtain ⟨c, k, comp, q1, q2, q3⟩ := Cond.arrayClass_spec h1
    refine ⟨c, fun n z => ⟨fun k h => (by cases h), k, q2, comp, q3⟩, ?_⟩
    rcases h with rfl | rfl | rfl | rfl <;> exact q1
  obtain ⟨a1, ha1⟩ := harr .int (Or.inl rfl)
  obtain ⟨a2, ha2⟩ := harr .long (Or.inr (Or.inl rfl))
  obtain ⟨a3, ha3⟩ := harr .byte (Or.inr (Or.inr (Or.inl rfl)))
  obtain ⟨a4, ha4⟩ := harr .char (Or.inr (Or.inr (Or.inr rfl)))
  obtain ⟨cy, hcy⟩ : ∃ cy : Nat → ClassId, cy 1 = a1 ∧ cy 2 = a2 ∧ cy 3 = a3 ∧ cy 4 = a4 := ⟨fun k => if k = 1 then a1 else if k = 2 then a2 else if k = 3 then a3 else a4, rfl, rfl, rfl, rfl⟩
  have hK : va_K (fun k => (cc k).1, fun k => (cc k).2) vwCl (tys4 cy) s := by
    refine ⟨fun k q hq => ?_, fun k q hq => ?_⟩
    · have hk : k < 12 := by
        have := (List.getElem?_eq_some_iff.mp hq).1
        exact this
      have := (cls_at hk).1
      rw [hq] at this
      rw [Option.some.inj this]
      exact hcc k hk
    · obtain ⟨e1, e2, e3, e4⟩ := hcy
      match k, hq with
      | 0, hq => cases hq; dsimp only; rw [e1]; exact ha1
      | 1, hq => cases hq; dsimp only; rw [e2]; exact ha2
      | 2, hq => cases hq; dsimp only; rw [e3]; exact ha3
      | 3, hq => cases hq; dsimp only; rw [e4]; exact ha4
      | k + 4, hq => simp [tys4] at hq
  obtain ⟨b, hbb⟩ : ∃ b : Nat → Nat, b 0 = b0 ∧ b 1 = adK 0 ∧ b 2 = adK 1 := ⟨fun k => if k = 0 then b0 else if k = 1 then adK 0 else adK 1, rfl, rfl, rfl⟩
  obtain ⟨eb0, eb1, eb2⟩ := hbb
  obtain ⟨o1, o2, o3, o4, o5⟩ := on_373
  have hnest : ∀ q ∈ ML, q.2.2.2 = 3 → va_Nw (mlW q) s := fun q hq hk => by
    have h1 := hts _ (ML_ok q hq)
    unfold mlW at h1 ⊢
    rw [hk] at h1 ⊢
    exact va_Nw.of rfl h1
  have hst : stf b s.heap.size s s.heap := by
    refine ⟨⟨adK, adV, hvS, eb1.symm, eb2.symm⟩, ⟨?_, ?_⟩, hnest, hZ1, t2, ht2, hZ2⟩
    · rw [eb1]
      exact vk_R.of (A := #[Value.ref b0]) (hts _ (List.mem_of_getElem? (i := 729) (by decide +kernel))) ((Term.string_eval_of_vm (args := #[]) (args' := #[Value.ref b0]) rfl).trans (hvE 0 (by omega)))
    · rw [eb2]
      exact vk_R.of (A := #[Value.ref b0]) (hts _ (List.mem_of_getElem? (i := 1476) (by decide +kernel))) ((Term.string_eval_of_vm (args := #[]) (args' := #[Value.ref b0]) rfl).trans (hvE 1 (by omega)))
  have F : frm p s m #[Value.ref b0] meth c (fun k => (cc k).1, fun k => (cc k).2) cy s.heap.size b L xs 373 :=
    ⟨hx, by rw [o3]; exact hb, by rw [o4]; exact hml, by rw [o1, o2]; exact hown, fun h => absurd (o5.symm.trans h) (by decide), hts0, hK, by rw [eb0]; exact hX, by rw [eb0]; exact hbl, Nat.le_refl _, hst⟩
  have hs999 : srel (fun k => if k = 999 then b 0 else if k = 901 then b 1 else b 2) (Hz L xs 0 0) [va 999] [.ref b0] := by
    refine ⟨vrel_a.mpr (Or.inr ⟨Or.inr (Or.inr (Or.inr rfl)), ?_⟩), trivial⟩
    show Value.ref b0 = .ref (b 0)
    rw [eb0]
  rw [lg_entry_eq]
  have hl := lv_entry ([.ref b0]) (n := 4) (Nat.le_of_ble_eq_true rfl)
  have hz0 : Hz L xs 0 0 = 0 := rfl
  have hsz : szs (H' 0 0).toNat ≤ szs 139 := szs_mono (by omega)
  have hsz2 : szs 139 ≤ 7302250 := by decide +kernel
  refine frm_all n p e room_1 s m #[Value.ref b0] below meth c Q 300 373 0 (blk 373 0) [va 999, vu, vu, vu] [] (Hz L xs) (vi 1) H' hex (by omega) (by have := chk_all (m := 373) (by omega) 0; rw [lpc_0 (by omega)] at this; exact this) F (by show 310 ≤ 2048; omega) (by show 40 * 300 + 400 ≤ 84000; omega) (fun k => if k = 999 then b 0 else if k = 901 then b 1 else b 2) _ [] s.heap [] 0 0 ⟨⟨lv_args 0 [.ref b0], hl, fun j hj => by have := lcs_rel 4 [va 999] [.ref b0] 0 hs999 j hj; rw [Nat.zero_add] at this; exact this⟩, trivial, wrl_0, va_S.rf, by rw [o4]; rfl, ⟨rfl, rfl, rfl⟩, rfl, fun j hj => ?_, by omega⟩ (by rw [hz0]; show _ ≤ 600000; omega) (by rw [hz0]; show _ ≤ 7302250; have : szs (0 : Int).toNat = 0 := rfl; omega) ?_
  · show (if (999 : Int) = 999 then (if 0 ≤ (j : Int) ∧ (j : Int) < L then (xs (j : Int).toNat).toInt else 0) else _) = _
    rw [if_pos rfl, if_pos ⟨by omega, by omega⟩]
    rfl
  · intro f' la' sv' Hm' locs' pc' hag hw' hS' hmt' hrc
    rcases hrc with ⟨-, hr0, -⟩ | ⟨hd, x, rfl, hr1, -⟩ | ⟨-, -, x, -, hr1⟩
    · exact absurd hr0 (by decide +kernel)
    · have hx1 : x = 1 := Int32.toInt_inj.mp (by have := congrArg Prod.snd hr1; exact this.symm)
      subst hx1
      rw [o3] at hd
      refine va_forget (fun q hq => hS'.2.2 q hq) ?_
      refine W.widen (k := 600000) (n := 7302250) (by rw [hz0]; show _ ≤ 600000; omega) (by rw [hz0]; show _ ≤ 7302250; have : szs (0 : Int).toNat = 0 := rfl; omega) ?_
      exact hend hd
    · have := congrArg Prod.fst hr1
      exact absurd this (by show ¬ (0 : Nat) = 1; omega)
end
section
/-! PURE NUMBERS: wrap-around, bits, sums; loops by count -/
theorem w32_id {x : Int} (h1 : -2147483648 ≤ x) (h2 : x < 2147483648) : w32 x = x := by unfold w32; omega
theorem w64_id {x : Int} (h1 : -9223372036854775808 ≤ x) (h2 : x < 9223372036854775808) : w64 x = x := by unfold w64; omega
theorem w32_rng (x : Int) : -2147483648 ≤ w32 x ∧ w32 x < 2147483648 := by unfold w32; omega
theorem w64_rng (x : Int) : -9223372036854775808 ≤ w64 x ∧ w64 x < 9223372036854775808 := by unfold w64; omega
theorem w64_w64 (x : Int) : w64 (w64 x) = w64 x := by unfold w64; omega
theorem w32_w32 (x : Int) : w32 (w32 x) = w32 x := by unfold w32; omega
theorem w64_al (a b : Int) : w64 (w64 a + b) = w64 (a + b) := by unfold w64; omega
theorem w64_ar (a b : Int) : w64 (a + w64 b) = w64 (a + b) := by unfold w64; omega
theorem w64_sl (a b : Int) : w64 (w64 a - b) = w64 (a - b) := by unfold w64; omega
theorem w64_sr (a b : Int) : w64 (a - w64 b) = w64 (a - b) := by unfold w64; omega
theorem w64_neg (a : Int) : w64 (-w64 a) = w64 (-a) := by unfold w64; omega
theorem w64_mr (a b : Int) : w64 (a * w64 b) = w64 (a * b) := by
  obtain ⟨k, h⟩ := w64_k b
  exact w64_cong ⟨a * k, by rw [h]; grind⟩
theorem w64_ml (a b : Int) : w64 (w64 a * b) = w64 (a * b) := by
  obtain ⟨k, h⟩ := w64_k a
  exact w64_cong ⟨b * k, by rw [h]; grind⟩
theorem w32_al (a b : Int) : w32 (w32 a + b) = w32 (a + b) := by unfold w32; omega
theorem w32_ar (a b : Int) : w32 (a + w32 b) = w32 (a + b) := by unfold w32; omega
theorem w32_nat {n : Nat} (h : n < 2147483648) : w32 (n : Int) = n := w32_id (by omega) (by omega)
theorem w32_s {n : Nat} (h : n < 2147483647) : w32 ((n : Int) + 1) = ((n + 1 : Nat) : Int) := by rw [w32_id (by omega) (by omega)]; omega
theorem w32_p {n : Nat} (h0 : 0 < n) (h : n < 2147483647) : w32 ((n : Int) + -1) = ((n - 1 : Nat) : Int) := by rw [w32_id (by omega) (by omega)]; omega
/-! bits -/
theorem i32b (a : Nat) : (Int32.ofInt (a : Int)).toBitVec = BitVec.ofNat 32 a := by
  show BitVec.ofInt 32 (a : Int) = _
  exact BitVec.ofInt_natCast 32 a
theorem i64b (a : Nat) : (Int64.ofInt (a : Int)).toBitVec = BitVec.ofNat 64 a := by
  show BitVec.ofInt 64 (a : Int) = _
  exact BitVec.ofInt_natCast 64 a
theorem bv_int {w : Nat} {x : BitVec w} {n : Nat} (h : x.toNat = n) (hn : 2 * n < 2 ^ w) : x.toInt = (n : Int) := by
  rw [BitVec.toInt_eq_toNat_of_lt (by rw [h]; exact hn), h]
theorem b_and_nat {a b : Nat} (ha : a < 2147483648) (hb : b < 2147483648) : b_and a b = ((a &&& b : Nat) : Int) := by
  show (Int32.ofInt a &&& Int32.ofInt b).toBitVec.toInt = _
  rw [Int32.toBitVec_and, i32b, i32b]
  refine bv_int ?_ ?_
  · rw [BitVec.toNat_and, BitVec.toNat_ofNat, BitVec.toNat_ofNat, Nat.mod_eq_of_lt (by omega), Nat.mod_eq_of_lt (by omega)]
  · have := @Nat.and_le_left a b; omega
theorem nlt_or {a b n : Nat} (ha : a < 2 ^ n) (hb : b < 2 ^ n) : a ||| b < 2 ^ n := Nat.or_lt_two_pow ha hb
theorem nlt_xor {a b n : Nat} (ha : a < 2 ^ n) (hb : b < 2 ^ n) : a ^^^ b < 2 ^ n := Nat.xor_lt_two_pow ha hb
theorem b_or_nat {a b : Nat} (ha : a < 2147483648) (hb : b < 2147483648) : b_or a b = ((a ||| b : Nat) : Int) := by
  show (Int32.ofInt a ||| Int32.ofInt b).toBitVec.toInt = _
  rw [Int32.toBitVec_or, i32b, i32b]
  refine bv_int ?_ ?_
  · rw [BitVec.toNat_or, BitVec.toNat_ofNat, BitVec.toNat_ofNat, Nat.mod_eq_of_lt (by omega), Nat.mod_eq_of_lt (by omega)]
  · have := nlt_or (n := 31) ha hb; omega
theorem b_xor_nat {a b : Nat} (ha : a < 2147483648) (hb : b < 2147483648) : b_xor a b = ((a ^^^ b : Nat) : Int) := by
  show (Int32.ofInt a ^^^ Int32.ofInt b).toBitVec.toInt = _
  rw [Int32.toBitVec_xor, i32b, i32b]
  refine bv_int ?_ ?_
  · rw [BitVec.toNat_xor, BitVec.toNat_ofNat, BitVec.toNat_ofNat, Nat.mod_eq_of_lt (by omega), Nat.mod_eq_of_lt (by omega)]
  · have := nlt_xor (n := 31) ha hb; omega
theorem shv (k : Nat) (h : k < 32) : ((Int32.ofInt (k : Int) &&& 31).toBitVec.smod 32).toNat = k := by
  have : ∀ k : Nat, k < 32 → ((Int32.ofInt (k : Int) &&& 31).toBitVec.smod 32).toNat = k := by decide +kernel
  exact this k h
theorem b_shl_nat {a k : Nat} (hk : k < 32) (h : a * 2 ^ k < 2147483648) : b_shl a k = ((a * 2 ^ k : Nat) : Int) := by
  have ha : a < 2147483648 := Nat.lt_of_le_of_lt (Nat.le_mul_of_pos_right a (Nat.two_pow_pos k)) h
  show ((Int32.ofInt a).toBitVec <<< ((Int32.ofInt k &&& 31).toBitVec.smod 32)).toInt = _
  refine bv_int ?_ ?_
  · rw [BitVec.shiftLeft_eq', shv k hk, BitVec.toNat_shiftLeft, i32b, BitVec.toNat_ofNat, Nat.mod_eq_of_lt (by omega : a < 2 ^ 32), Nat.shiftLeft_eq, Nat.mod_eq_of_lt (by omega)]
  · omega
theorem b_shr_int (x : Int) {k : Nat} (h1 : -2147483648 ≤ x) (h2 : x < 2147483648) (hk : k < 32) : b_shr x k = x / 2 ^ k := by
  show ((Int32.ofInt x).toBitVec.sshiftRight' ((Int32.ofInt k &&& 31).toBitVec.smod 32)).toInt = _
  rw [BitVec.sshiftRight_eq', shv k hk, BitVec.toInt_sshiftRight, Int.shiftRight_eq_div_pow]
  have : (Int32.ofInt x).toBitVec.toInt = x := by
    show (Int32.ofInt x).toInt = x
    exact toInt_ofInt32 (decide_eq_true ⟨h1, h2⟩)
  rw [this]
  norm_cast
theorem b_shr_nat {a k : Nat} (ha : a < 2147483648) (hk : k < 32) : b_shr a k = ((a / 2 ^ k : Nat) : Int) := by
  rw [b_shr_int _ (by omega) (by omega) hk]
  norm_cast
theorem b_bit {a k : Nat} (ha : a < 2147483648) (hk : k < 32) : b_and (b_shr a k) 1 = if a.testBit k then 1 else 0 := by
  rw [b_shr_nat ha hk]
  have : b_and ((a / 2 ^ k : Nat) : Int) ((1 : Nat) : Int) = _ := b_and_nat (Nat.lt_of_le_of_lt (Nat.div_le_self _ _) ha) (by omega)
  rw [show ((1 : Nat) : Int) = 1 from rfl] at this
  rw [this, Nat.and_one_is_mod, Nat.testBit_eq_decide_div_mod_eq]
  by_cases h : a / 2 ^ k % 2 = 1
  · simp [h]
  · have : a / 2 ^ k % 2 = 0 := by omega
    simp [this]
/-- sums -/
def sumI (f : Nat → Int) : Nat → Int
  | 0 => 0
  | n + 1 => sumI f n + f n
theorem sumI_cg {f g : Nat → Int} : ∀ {n : Nat}, (∀ k, k < n → f k = g k) → sumI f n = sumI g n
  | 0, _ => rfl
  | n + 1, h => by show sumI f n + f n = sumI g n + g n; rw [sumI_cg (fun k hk => h k (by omega)), h n (by omega)]
theorem up_nat {P : Nat → Prop} {n : Nat} (hend : P n) (hstep : ∀ k, k < n → P (k + 1) → P k) : ∀ k, k ≤ n → P k := by
  intro k hk
  induction h : n - k generalizing k with
  | zero => have : k = n := by omega
            rw [this]; exact hend
  | succ m ih => exact hstep k (by omega) (ih (k + 1) (by omega) (by omega))
end
section
/-! THE VIEW: constant pointers; what questions may write (scr); a heap seen past that (Vw) -/
def ptL : List (Int × Int × Int) := [(1, 0, 2), (1, 1, 4), (1, 3, 38), (1, 4, 42), (1, 5, 45), (1, 6, 50), (1, 7, 54), (1, 8, 58), (1, 9, 66), (1, 10, 70), (2, 0, 3), (4, 1, 18), (4, 2, 19), (4, 6, 20), (4, 7, 21), (4, 8, 22), (4, 9, 23), (4, 12, 24), (5, 1, 6), (5, 2, 7), (5, 3, 8), (5, 7, 9), (5, 8, 10), (5, 9, 11), (5, 11, 12), (5, 14, 13), (5, 15, 14), (5, 16, 15), (5, 18, 16), (5, 19, 17), (25, 1, 26), (25, 2, 27), (25, 3, 28), (25, 7, 29), (25, 8, 30), (25, 9, 31), (25, 11, 32), (25, 14, 33), (25, 15, 34), (25, 16, 35), (25, 18, 36), (25, 19, 37), (38, 1, 39), (38, 3, 40), (38, 6, 41), (42, 0, 43), (42, 1, 44), (45, 0, 46), (45, 1, 47), (45, 6, 48), (45, 7, 49), (50, 0, 51), (50, 1, 52), (50, 2, 53), (54, 0, 55), (54, 1, 56), (54, 2, 57), (58, 0, 59), (58, 1, 60), (58, 2, 61), (58, 3, 62), (58, 4, 63), (58, 5, 64), (58, 6, 65), (66, 0, 67), (66, 1, 68), (66, 4, 69), (71, 0, 72), (71, 9, 73), (71, 11, 74), (71, 12, 75), (71, 13, 76), (71, 14, 77), (71, 15, 78), (71, 16, 79), (71, 17, 80), (71, 18, 81), (71, 19, 82), (71, 20, 83), (71, 21, 84), (71, 22, 85), (71, 23, 86), (71, 24, 87), (71, 25, 88), (71, 26, 89), (71, 27, 90), (71, 29, 91), (71, 30, 92), (71, 31, 93), (71, 32, 94), (71, 33, 95), (71, 34, 96), (71, 35, 97), (71, 36, 98), (71, 37, 99), (71, 38, 100), (71, 39, 101), (71, 40, 102), (71, 41, 103), (71, 42, 104), (71, 43, 105), (71, 44, 106), (71, 50, 107), (71, 51, 108), (71, 52, 109), (71, 53, 110), (71, 54, 111), (71, 58, 112), (71, 61, 113), (71, 62, 114), (71, 66, 115), (71, 67, 116), (71, 68, 117), (71, 69, 118), (71, 70, 119), (71, 71, 120), (71, 72, 121), (71, 73, 122), (71, 74, 123), (71, 75, 124), (71, 76, 125), (71, 77, 126), (71, 78, 127), (71, 79, 128), (71, 80, 129), (71, 81, 130), (71, 82, 131), (71, 83, 132), (71, 84, 133), (71, 85, 134), (71, 86, 135), (71, 87, 136), (71, 89, 137), (71, 93, 138), (71, 97, 139)]
def Ptr (V : Hp) : Prop := ∀ q ∈ ptL, V q.1 q.2.1 = q.2.2
theorem Ptr.at {V : Hp} (h : Ptr V) (i : Nat) {a j v : Int} (e : ptL[i]? = some (a, j, v)) : V a j = v := h _ (List.mem_of_getElem? e)
def wdL : List (Int × Int × Int) := [(74, 0, 115), (74, 1, 101), (74, 2, 97), (74, 3, 116), (75, 0, 97), (75, 1, 114), (75, 2, 109), (76, 0, 114), (76, 1, 111), (76, 2, 119), (76, 3, 101), (76, 4, 114), (77, 0, 115), (77, 1, 116), (77, 2, 114), (77, 3, 101), (77, 4, 110), (77, 5, 103), (77, 6, 116), (77, 7, 104), (78, 0, 116), (78, 1, 105), (78, 2, 114), (78, 3, 101), (78, 4, 115), (79, 0, 101), (79, 1, 97), (79, 2, 99), (79, 3, 104), (80, 0, 102), (80, 1, 105), (80, 2, 120), (81, 0, 108), (81, 1, 101), (81, 2, 102), (81, 3, 116), (82, 0, 114), (82, 1, 105), (82, 2, 103), (82, 3, 104), (82, 4, 116), (83, 0, 119), (83, 1, 97), (83, 2, 110), (83, 3, 116), (84, 0, 105), (84, 1, 115), (85, 0, 110), (85, 1, 101), (85, 2, 97), (85, 3, 114), (86, 0, 114), (86, 1, 117), (86, 2, 110), (87, 0, 112), (87, 1, 111), (87, 2, 119), (87, 3, 101), (87, 4, 114), (88, 0, 115), (88, 1, 119), (88, 2, 117), (88, 3, 110), (88, 4, 103), (89, 0, 112), (89, 1, 97), (89, 2, 121), (90, 0, 111), (90, 1, 110), (119, 0, 102), (119, 1, 105), (119, 2, 114), (119, 3, 115), (119, 4, 116), (120, 0, 108), (120, 1, 97), (120, 2, 115), (120, 3, 116), (121, 0, 111), (121, 1, 102), (121, 2, 116), (121, 3, 101), (121, 4, 110), (122, 0, 116), (122, 1, 111), (122, 2, 116), (122, 3, 97), (122, 4, 108), (123, 0, 109), (123, 1, 111), (123, 2, 115), (123, 3, 116), (124, 0, 108), (124, 1, 101), (124, 2, 97), (124, 3, 115), (124, 4, 116), (125, 0, 110), (125, 1, 111), (125, 2, 116), (126, 0, 97), (126, 1, 110), (126, 2, 100), (127, 0, 111), (127, 1, 114), (128, 0, 97), (128, 1, 108), (128, 2, 108), (129, 0, 109), (129, 1, 105), (129, 2, 110), (130, 0, 109), (130, 1, 97), (130, 2, 120), (131, 0, 115), (131, 1, 116), (131, 2, 114), (131, 3, 111), (131, 4, 107), (131, 5, 101), (132, 0, 111), (132, 1, 102), (132, 2, 102), (133, 0, 103), (133, 1, 111), (133, 2, 111), (133, 3, 100), (134, 0, 115), (134, 1, 119), (134, 2, 105), (134, 3, 110), (134, 4, 103), (135, 0, 102), (135, 1, 111), (135, 2, 114), (135, 3, 99), (135, 4, 101)]
def Wds (V : Hp) : Prop := ∀ q ∈ wdL, V q.1 q.2.1 = q.2.2
def scr (a b : Int) : Bool := if a = 43 then true else if a = 44 then true else if a = 46 then true else if a = 47 then true else if a = 48 then true else if a = 49 then true else if a = 51 then true else if a = 52 then true else if a = 53 then true else if a = 55 then true else if a = 56 then true else if a = 57 then true else if a = 59 then true else if a = 60 then true else if a = 61 then true else if a = 62 then true else if a = 63 then true else if a = 69 then true else if a = 39 then true else if a = 40 then true else if a = 41 then true else if a = 113 then true else if a = 114 then true else if a = 115 then true else if a = 116 then true else if a = 117 then true else if a = 118 then true else if a = 136 then true else if a = 137 then true else if a = 138 then true else if a = 112 then true else if a = 42 then (decide (b = 2)) else if a = 45 then (decide (b = 2) || decide (b = 3) || decide (b = 4) || decide (b = 5) || decide (b = 8) || decide (b = 9) || decide (b = 10)) else if a = 50 then (decide (b = 3) || decide (b = 4)) else if a = 54 then (decide (b = 3) || decide (b = 4) || decide (b = 5) || decide (b = 6) || decide (b = 7)) else if a = 66 then (decide (b = 3) || decide (b = 5) || decide (b = 6)) else if a = 38 then (decide (b = 0) || decide (b = 2) || decide (b = 4) || decide (b = 5) || decide (b = 7) || decide (b = 8)) else if a = 2 then (decide (b = 2) || decide (b = 3) || decide (b = 4) || decide (b = 5) || decide (b = 6) || decide (b = 7)) else if a = 71 then (decide (b = 2) || decide (b = 3) || decide (b = 4) || decide (b = 5) || decide (b = 6) || decide (b = 10) || decide (b = 28) || decide (b = 45) || decide (b = 59) || decide (b = 60) || decide (b = 63) || decide (b = 64) || decide (b = 65) || decide (b = 88) || decide (b = 90) || decide (b = 91) || decide (b = 92) || decide (b = 94) || decide (b = 95) || decide (b = 96)) else false
def Vw (V H : Hp) : Prop := ∀ a b, scr a b = false → H a b = V a b
theorem Vw.rf {V : Hp} : Vw V V := fun _ _ _ => rfl
theorem Vw.tr {V H H1 : Hp} (h : Vw V H) (h1 : Vw H H1) : Vw V H1 := fun a b q => (h1 a b q).trans (h a b q)
theorem Vw.hs {V H : Hp} {c j v : Int} (h : Vw V H) (hc : scr c j = true) : Vw V (hs H c j v) := fun a b q => by
  rw [hs_app, if_neg (fun e => by rw [e.1, e.2, hc] at q; cases q)]
  exact h a b q
set_option maxRecDepth 20000 in
theorem Vw.f {V H : Hp} (h : Vw V H) (p : Ptr V) : H 1 0 = 2 ∧ H 1 1 = 4 ∧ H 1 3 = 38 ∧ H 1 4 = 42 ∧ H 1 5 = 45 ∧ H 1 6 = 50 ∧ H 1 7 = 54 ∧ H 1 8 = 58 ∧ H 1 9 = 66 ∧ H 1 10 = 70 ∧ H 2 0 = 3 ∧ H 4 1 = 18 ∧ H 4 2 = 19 ∧ H 4 6 = 20 ∧ H 4 7 = 21 ∧ H 4 8 = 22 ∧ H 4 9 = 23 ∧ H 4 12 = 24 ∧ H 5 1 = 6 ∧ H 5 2 = 7 ∧ H 5 3 = 8 ∧ H 5 7 = 9 ∧ H 5 8 = 10 ∧ H 5 9 = 11 ∧ H 5 11 = 12 ∧ H 5 14 = 13 ∧ H 5 15 = 14 ∧ H 5 16 = 15 ∧ H 5 18 = 16 ∧ H 5 19 = 17 ∧ H 25 1 = 26 ∧ H 25 2 = 27 ∧ H 25 3 = 28 ∧ H 25 7 = 29 ∧ H 25 8 = 30 ∧ H 25 9 = 31 ∧ H 25 11 = 32 ∧ H 25 14 = 33 ∧ H 25 15 = 34 ∧ H 25 16 = 35 ∧ H 25 18 = 36 ∧ H 25 19 = 37 ∧ H 38 1 = 39 ∧ H 38 3 = 40 ∧ H 38 6 = 41 ∧ H 42 0 = 43 ∧ H 42 1 = 44 ∧ H 45 0 = 46 ∧ H 45 1 = 47 ∧ H 45 6 = 48 ∧ H 45 7 = 49 ∧ H 50 0 = 51 ∧ H 50 1 = 52 ∧ H 50 2 = 53 ∧ H 54 0 = 55 ∧ H 54 1 = 56 ∧ H 54 2 = 57 ∧ H 58 0 = 59 ∧ H 58 1 = 60 ∧ H 58 2 = 61 ∧ H 58 3 = 62 ∧ H 58 4 = 63 ∧ H 58 5 = 64 ∧ H 58 6 = 65 ∧ H 66 0 = 67 ∧ H 66 1 = 68 ∧ H 66 4 = 69 ∧ H 71 0 = 72 ∧ H 71 9 = 73 ∧ H 71 11 = 74 ∧ H 71 12 = 75 ∧ H 71 13 = 76 ∧ H 71 14 = 77 ∧ H 71 15 = 78 ∧ H 71 16 = 79 ∧ H 71 17 = 80 ∧ H 71 18 = 81 ∧ H 71 19 = 82 ∧ H 71 20 = 83 ∧ H 71 21 = 84 ∧ H 71 22 = 85 ∧ H 71 23 = 86 ∧ H 71 24 = 87 ∧ H 71 25 = 88 ∧ H 71 26 = 89 ∧ H 71 27 = 90 ∧ H 71 29 = 91 ∧ H 71 30 = 92 ∧ H 71 31 = 93 ∧ H 71 32 = 94 ∧ H 71 33 = 95 ∧ H 71 34 = 96 ∧ H 71 35 = 97 ∧ H 71 36 = 98 ∧ H 71 37 = 99 ∧ H 71 38 = 100 ∧ H 71 39 = 101 ∧ H 71 40 = 102 ∧ H 71 41 = 103 ∧ H 71 42 = 104 ∧ H 71 43 = 105 ∧ H 71 44 = 106 ∧ H 71 50 = 107 ∧ H 71 51 = 108 ∧ H 71 52 = 109 ∧ H 71 53 = 110 ∧ H 71 54 = 111 ∧ H 71 58 = 112 ∧ H 71 61 = 113 ∧ H 71 62 = 114 ∧ H 71 66 = 115 ∧ H 71 67 = 116 ∧ H 71 68 = 117 ∧ H 71 69 = 118 ∧ H 71 70 = 119 ∧ H 71 71 = 120 ∧ H 71 72 = 121 ∧ H 71 73 = 122 ∧ H 71 74 = 123 ∧ H 71 75 = 124 ∧ H 71 76 = 125 ∧ H 71 77 = 126 ∧ H 71 78 = 127 ∧ H 71 79 = 128 ∧ H 71 80 = 129 ∧ H 71 81 = 130 ∧ H 71 82 = 131 ∧ H 71 83 = 132 ∧ H 71 84 = 133 ∧ H 71 85 = 134 ∧ H 71 86 = 135 ∧ H 71 87 = 136 ∧ H 71 89 = 137 ∧ H 71 93 = 138 ∧ H 71 97 = 139 ∧ H 3 = V 3 ∧ H 6 = V 6 ∧ H 7 = V 7 ∧ H 8 = V 8 ∧ H 9 = V 9 ∧ H 10 = V 10 ∧ H 11 = V 11 ∧ H 12 = V 12 ∧ H 13 = V 13 ∧ H 14 = V 14 ∧ H 15 = V 15 ∧ H 16 = V 16 ∧ H 17 = V 17 ∧ H 18 = V 18 ∧ H 19 = V 19 ∧ H 20 = V 20 ∧ H 21 = V 21 ∧ H 22 = V 22 ∧ H 23 = V 23 ∧ H 24 = V 24 ∧ H 26 = V 26 ∧ H 27 = V 27 ∧ H 28 = V 28 ∧ H 29 = V 29 ∧ H 30 = V 30 ∧ H 31 = V 31 ∧ H 32 = V 32 ∧ H 33 = V 33 ∧ H 34 = V 34 ∧ H 35 = V 35 ∧ H 36 = V 36 ∧ H 37 = V 37 ∧ H 64 = V 64 ∧ H 65 = V 65 ∧ H 67 = V 67 ∧ H 68 = V 68 ∧ H 70 = V 70 ∧ H 72 = V 72 ∧ H 73 = V 73 ∧ H 74 = V 74 ∧ H 75 = V 75 ∧ H 76 = V 76 ∧ H 77 = V 77 ∧ H 78 = V 78 ∧ H 79 = V 79 ∧ H 80 = V 80 ∧ H 81 = V 81 ∧ H 82 = V 82 ∧ H 83 = V 83 ∧ H 84 = V 84 ∧ H 85 = V 85 ∧ H 86 = V 86 ∧ H 87 = V 87 ∧ H 88 = V 88 ∧ H 89 = V 89 ∧ H 90 = V 90 ∧ H 91 = V 91 ∧ H 92 = V 92 ∧ H 93 = V 93 ∧ H 94 = V 94 ∧ H 95 = V 95 ∧ H 96 = V 96 ∧ H 97 = V 97 ∧ H 98 = V 98 ∧ H 99 = V 99 ∧ H 100 = V 100 ∧ H 101 = V 101 ∧ H 102 = V 102 ∧ H 103 = V 103 ∧ H 104 = V 104 ∧ H 105 = V 105 ∧ H 106 = V 106 ∧ H 107 = V 107 ∧ H 108 = V 108 ∧ H 109 = V 109 ∧ H 110 = V 110 ∧ H 111 = V 111 ∧ H 119 = V 119 ∧ H 120 = V 120 ∧ H 121 = V 121 ∧ H 122 = V 122 ∧ H 123 = V 123 ∧ H 124 = V 124 ∧ H 125 = V 125 ∧ H 126 = V 126 ∧ H 127 = V 127 ∧ H 128 = V 128 ∧ H 129 = V 129 ∧ H 130 = V 130 ∧ H 131 = V 131 ∧ H 132 = V 132 ∧ H 133 = V 133 ∧ H 134 = V 134 ∧ H 135 = V 135 ∧ H 139 = V 139 ∧ H 1 2 = V 1 2 ∧ H 1 11 = V 1 11 ∧ H 1 12 = V 1 12 ∧ H 2 1 = V 2 1 ∧ H 4 0 = V 4 0 ∧ H 4 3 = V 4 3 ∧ H 4 4 = V 4 4 ∧ H 4 5 = V 4 5 ∧ H 4 10 = V 4 10 ∧ H 4 11 = V 4 11 ∧ H 4 13 = V 4 13 ∧ H 5 0 = V 5 0 ∧ H 5 4 = V 5 4 ∧ H 5 5 = V 5 5 ∧ H 5 6 = V 5 6 ∧ H 5 10 = V 5 10 ∧ H 5 12 = V 5 12 ∧ H 5 13 = V 5 13 ∧ H 5 17 = V 5 17 ∧ H 25 0 = V 25 0 ∧ H 25 4 = V 25 4 ∧ H 25 5 = V 25 5 ∧ H 25 6 = V 25 6 ∧ H 25 10 = V 25 10 ∧ H 25 12 = V 25 12 ∧ H 25 13 = V 25 13 ∧ H 25 17 = V 25 17 ∧ H 58 7 = V 58 7 ∧ H 58 8 = V 58 8 ∧ H 66 2 = V 66 2 ∧ H 71 1 = V 71 1 ∧ H 71 7 = V 71 7 ∧ H 71 8 = V 71 8 ∧ H 71 46 = V 71 46 ∧ H 71 47 = V 71 47 ∧ H 71 48 = V 71 48 ∧ H 71 49 = V 71 49 ∧ H 71 55 = V 71 55 ∧ H 71 56 = V 71 56 ∧ H 71 57 = V 71 57 ∧ H 71 98 = V 71 98 := ⟨((h 1 0 rfl).trans (p.at 0 rfl)), ((h 1 1 rfl).trans (p.at 1 rfl)), ((h 1 3 rfl).trans (p.at 2 rfl)), ((h 1 4 rfl).trans (p.at 3 rfl)), ((h 1 5 rfl).trans (p.at 4 rfl)), ((h 1 6 rfl).trans (p.at 5 rfl)), ((h 1 7 rfl).trans (p.at 6 rfl)), ((h 1 8 rfl).trans (p.at 7 rfl)), ((h 1 9 rfl).trans (p.at 8 rfl)), ((h 1 10 rfl).trans (p.at 9 rfl)), ((h 2 0 rfl).trans (p.at 10 rfl)), ((h 4 1 rfl).trans (p.at 11 rfl)), ((h 4 2 rfl).trans (p.at 12 rfl)), ((h 4 6 rfl).trans (p.at 13 rfl)), ((h 4 7 rfl).trans (p.at 14 rfl)), ((h 4 8 rfl).trans (p.at 15 rfl)), ((h 4 9 rfl).trans (p.at 16 rfl)), ((h 4 12 rfl).trans (p.at 17 rfl)), ((h 5 1 rfl).trans (p.at 18 rfl)), ((h 5 2 rfl).trans (p.at 19 rfl)), ((h 5 3 rfl).trans (p.at 20 rfl)), ((h 5 7 rfl).trans (p.at 21 rfl)), ((h 5 8 rfl).trans (p.at 22 rfl)), ((h 5 9 rfl).trans (p.at 23 rfl)), ((h 5 11 rfl).trans (p.at 24 rfl)), ((h 5 14 rfl).trans (p.at 25 rfl)), ((h 5 15 rfl).trans (p.at 26 rfl)), ((h 5 16 rfl).trans (p.at 27 rfl)), ((h 5 18 rfl).trans (p.at 28 rfl)), ((h 5 19 rfl).trans (p.at 29 rfl)), ((h 25 1 rfl).trans (p.at 30 rfl)), ((h 25 2 rfl).trans (p.at 31 rfl)), ((h 25 3 rfl).trans (p.at 32 rfl)), ((h 25 7 rfl).trans (p.at 33 rfl)), ((h 25 8 rfl).trans (p.at 34 rfl)), ((h 25 9 rfl).trans (p.at 35 rfl)), ((h 25 11 rfl).trans (p.at 36 rfl)), ((h 25 14 rfl).trans (p.at 37 rfl)), ((h 25 15 rfl).trans (p.at 38 rfl)), ((h 25 16 rfl).trans (p.at 39 rfl)), ((h 25 18 rfl).trans (p.at 40 rfl)), ((h 25 19 rfl).trans (p.at 41 rfl)), ((h 38 1 rfl).trans (p.at 42 rfl)), ((h 38 3 rfl).trans (p.at 43 rfl)), ((h 38 6 rfl).trans (p.at 44 rfl)), ((h 42 0 rfl).trans (p.at 45 rfl)), ((h 42 1 rfl).trans (p.at 46 rfl)), ((h 45 0 rfl).trans (p.at 47 rfl)), ((h 45 1 rfl).trans (p.at 48 rfl)), ((h 45 6 rfl).trans (p.at 49 rfl)), ((h 45 7 rfl).trans (p.at 50 rfl)), ((h 50 0 rfl).trans (p.at 51 rfl)), ((h 50 1 rfl).trans (p.at 52 rfl)), ((h 50 2 rfl).trans (p.at 53 rfl)), ((h 54 0 rfl).trans (p.at 54 rfl)), ((h 54 1 rfl).trans (p.at 55 rfl)), ((h 54 2 rfl).trans (p.at 56 rfl)), ((h 58 0 rfl).trans (p.at 57 rfl)), ((h 58 1 rfl).trans (p.at 58 rfl)), ((h 58 2 rfl).trans (p.at 59 rfl)), ((h 58 3 rfl).trans (p.at 60 rfl)), ((h 58 4 rfl).trans (p.at 61 rfl)), ((h 58 5 rfl).trans (p.at 62 rfl)), ((h 58 6 rfl).trans (p.at 63 rfl)), ((h 66 0 rfl).trans (p.at 64 rfl)), ((h 66 1 rfl).trans (p.at 65 rfl)), ((h 66 4 rfl).trans (p.at 66 rfl)), ((h 71 0 rfl).trans (p.at 67 rfl)), ((h 71 9 rfl).trans (p.at 68 rfl)), ((h 71 11 rfl).trans (p.at 69 rfl)), ((h 71 12 rfl).trans (p.at 70 rfl)), ((h 71 13 rfl).trans (p.at 71 rfl)), ((h 71 14 rfl).trans (p.at 72 rfl)), ((h 71 15 rfl).trans (p.at 73 rfl)), ((h 71 16 rfl).trans (p.at 74 rfl)), ((h 71 17 rfl).trans (p.at 75 rfl)), ((h 71 18 rfl).trans (p.at 76 rfl)), ((h 71 19 rfl).trans (p.at 77 rfl)), ((h 71 20 rfl).trans (p.at 78 rfl)), ((h 71 21 rfl).trans (p.at 79 rfl)), ((h 71 22 rfl).trans (p.at 80 rfl)), ((h 71 23 rfl).trans (p.at 81 rfl)), ((h 71 24 rfl).trans (p.at 82 rfl)), ((h 71 25 rfl).trans (p.at 83 rfl)), ((h 71 26 rfl).trans (p.at 84 rfl)), ((h 71 27 rfl).trans (p.at 85 rfl)), ((h 71 29 rfl).trans (p.at 86 rfl)), ((h 71 30 rfl).trans (p.at 87 rfl)), ((h 71 31 rfl).trans (p.at 88 rfl)), ((h 71 32 rfl).trans (p.at 89 rfl)), ((h 71 33 rfl).trans (p.at 90 rfl)), ((h 71 34 rfl).trans (p.at 91 rfl)), ((h 71 35 rfl).trans (p.at 92 rfl)), ((h 71 36 rfl).trans (p.at 93 rfl)), ((h 71 37 rfl).trans (p.at 94 rfl)), ((h 71 38 rfl).trans (p.at 95 rfl)), ((h 71 39 rfl).trans (p.at 96 rfl)), ((h 71 40 rfl).trans (p.at 97 rfl)), ((h 71 41 rfl).trans (p.at 98 rfl)), ((h 71 42 rfl).trans (p.at 99 rfl)), ((h 71 43 rfl).trans (p.at 100 rfl)), ((h 71 44 rfl).trans (p.at 101 rfl)), ((h 71 50 rfl).trans (p.at 102 rfl)), ((h 71 51 rfl).trans (p.at 103 rfl)), ((h 71 52 rfl).trans (p.at 104 rfl)), ((h 71 53 rfl).trans (p.at 105 rfl)), ((h 71 54 rfl).trans (p.at 106 rfl)), ((h 71 58 rfl).trans (p.at 107 rfl)), ((h 71 61 rfl).trans (p.at 108 rfl)), ((h 71 62 rfl).trans (p.at 109 rfl)), ((h 71 66 rfl).trans (p.at 110 rfl)), ((h 71 67 rfl).trans (p.at 111 rfl)), ((h 71 68 rfl).trans (p.at 112 rfl)), ((h 71 69 rfl).trans (p.at 113 rfl)), ((h 71 70 rfl).trans (p.at 114 rfl)), ((h 71 71 rfl).trans (p.at 115 rfl)), ((h 71 72 rfl).trans (p.at 116 rfl)), ((h 71 73 rfl).trans (p.at 117 rfl)), ((h 71 74 rfl).trans (p.at 118 rfl)), ((h 71 75 rfl).trans (p.at 119 rfl)), ((h 71 76 rfl).trans (p.at 120 rfl)), ((h 71 77 rfl).trans (p.at 121 rfl)), ((h 71 78 rfl).trans (p.at 122 rfl)), ((h 71 79 rfl).trans (p.at 123 rfl)), ((h 71 80 rfl).trans (p.at 124 rfl)), ((h 71 81 rfl).trans (p.at 125 rfl)), ((h 71 82 rfl).trans (p.at 126 rfl)), ((h 71 83 rfl).trans (p.at 127 rfl)), ((h 71 84 rfl).trans (p.at 128 rfl)), ((h 71 85 rfl).trans (p.at 129 rfl)), ((h 71 86 rfl).trans (p.at 130 rfl)), ((h 71 87 rfl).trans (p.at 131 rfl)), ((h 71 89 rfl).trans (p.at 132 rfl)), ((h 71 93 rfl).trans (p.at 133 rfl)), ((h 71 97 rfl).trans (p.at 134 rfl)), (funext fun b => h 3 b rfl), (funext fun b => h 6 b rfl), (funext fun b => h 7 b rfl), (funext fun b => h 8 b rfl), (funext fun b => h 9 b rfl), (funext fun b => h 10 b rfl), (funext fun b => h 11 b rfl), (funext fun b => h 12 b rfl), (funext fun b => h 13 b rfl), (funext fun b => h 14 b rfl), (funext fun b => h 15 b rfl), (funext fun b => h 16 b rfl), (funext fun b => h 17 b rfl), (funext fun b => h 18 b rfl), (funext fun b => h 19 b rfl), (funext fun b => h 20 b rfl), (funext fun b => h 21 b rfl), (funext fun b => h 22 b rfl), (funext fun b => h 23 b rfl), (funext fun b => h 24 b rfl), (funext fun b => h 26 b rfl), (funext fun b => h 27 b rfl), (funext fun b => h 28 b rfl), (funext fun b => h 29 b rfl), (funext fun b => h 30 b rfl), (funext fun b => h 31 b rfl), (funext fun b => h 32 b rfl), (funext fun b => h 33 b rfl), (funext fun b => h 34 b rfl), (funext fun b => h 35 b rfl), (funext fun b => h 36 b rfl), (funext fun b => h 37 b rfl), (funext fun b => h 64 b rfl), (funext fun b => h 65 b rfl), (funext fun b => h 67 b rfl), (funext fun b => h 68 b rfl), (funext fun b => h 70 b rfl), (funext fun b => h 72 b rfl), (funext fun b => h 73 b rfl), (funext fun b => h 74 b rfl), (funext fun b => h 75 b rfl), (funext fun b => h 76 b rfl), (funext fun b => h 77 b rfl), (funext fun b => h 78 b rfl), (funext fun b => h 79 b rfl), (funext fun b => h 80 b rfl), (funext fun b => h 81 b rfl), (funext fun b => h 82 b rfl), (funext fun b => h 83 b rfl), (funext fun b => h 84 b rfl), (funext fun b => h 85 b rfl), (funext fun b => h 86 b rfl), (funext fun b => h 87 b rfl), (funext fun b => h 88 b rfl), (funext fun b => h 89 b rfl), (funext fun b => h 90 b rfl), (funext fun b => h 91 b rfl), (funext fun b => h 92 b rfl), (funext fun b => h 93 b rfl), (funext fun b => h 94 b rfl), (funext fun b => h 95 b rfl), (funext fun b => h 96 b rfl), (funext fun b => h 97 b rfl), (funext fun b => h 98 b rfl), (funext fun b => h 99 b rfl), (funext fun b => h 100 b rfl), (funext fun b => h 101 b rfl), (funext fun b => h 102 b rfl), (funext fun b => h 103 b rfl), (funext fun b => h 104 b rfl), (funext fun b => h 105 b rfl), (funext fun b => h 106 b rfl), (funext fun b => h 107 b rfl), (funext fun b => h 108 b rfl), (funext fun b => h 109 b rfl), (funext fun b => h 110 b rfl), (funext fun b => h 111 b rfl), (funext fun b => h 119 b rfl), (funext fun b => h 120 b rfl), (funext fun b => h 121 b rfl), (funext fun b => h 122 b rfl), (funext fun b => h 123 b rfl), (funext fun b => h 124 b rfl), (funext fun b => h 125 b rfl), (funext fun b => h 126 b rfl), (funext fun b => h 127 b rfl), (funext fun b => h 128 b rfl), (funext fun b => h 129 b rfl), (funext fun b => h 130 b rfl), (funext fun b => h 131 b rfl), (funext fun b => h 132 b rfl), (funext fun b => h 133 b rfl), (funext fun b => h 134 b rfl), (funext fun b => h 135 b rfl), (funext fun b => h 139 b rfl), (h 1 2 rfl), (h 1 11 rfl), (h 1 12 rfl), (h 2 1 rfl), (h 4 0 rfl), (h 4 3 rfl), (h 4 4 rfl), (h 4 5 rfl), (h 4 10 rfl), (h 4 11 rfl), (h 4 13 rfl), (h 5 0 rfl), (h 5 4 rfl), (h 5 5 rfl), (h 5 6 rfl), (h 5 10 rfl), (h 5 12 rfl), (h 5 13 rfl), (h 5 17 rfl), (h 25 0 rfl), (h 25 4 rfl), (h 25 5 rfl), (h 25 6 rfl), (h 25 10 rfl), (h 25 12 rfl), (h 25 13 rfl), (h 25 17 rfl), (h 58 7 rfl), (h 58 8 rfl), (h 66 2 rfl), (h 71 1 rfl), (h 71 7 rfl), (h 71 8 rfl), (h 71 46 rfl), (h 71 47 rfl), (h 71 48 rfl), (h 71 49 rfl), (h 71 55 rfl), (h 71 56 rfl), (h 71 57 rfl), (h 71 98 rfl)⟩
theorem hs_ne {H : Hp} {c j v a : Int} (h : a ≠ c) : hs H c j v a = H a := funext fun b => by rw [hs_app, if_neg (fun q => h q.1)]
end
section
/-! THE STATE between calls, told in the reference's own cells -/
def nN (V : Hp) (j : Int) : Nat := (V 91 j).toNat
def nS (V : Hp) : Nat := nN V 4
def nR (V : Hp) : Nat := nN V 5
def nU (V : Hp) : Nat := nN V 6
def nY (V : Hp) : Nat := nN V 7
def eaV (V : Hp) : Int := if V 71 46 = 0 then -1 else V 98 1
/-- the boat as the reference has it: all in its bounds -/
def BoatM (V : Hp) : Prop :=
  (V 91 4 = nS V ∧ nS V ≤ 12) ∧ (V 91 5 = nR V ∧ nR V ≤ 12) ∧ (V 91 6 = nU V ∧ nU V ≤ 8) ∧ (V 91 7 = nY V ∧ nY V ≤ 12) ∧
  (∀ k : Nat, k < nS V → 1 ≤ V 92 (12 + k) ∧ V 92 (12 + k) ≤ 99) ∧ (∀ k : Nat, k < nS V → 1 ≤ V 93 (12 + k) ∧ V 93 (12 + k) ≤ 99) ∧ (∀ k : Nat, k < nS V → 0 ≤ V 94 (12 + k) ∧ V 94 (12 + k) ≤ 2) ∧
  (∀ k : Nat, k < nR V → 1 ≤ V 96 (12 + k) ∧ V 96 (12 + k) ≤ 99) ∧ (∀ k : Nat, k < nR V → 0 ≤ V 97 (12 + k) ∧ V 97 (12 + k) ≤ 9) ∧
  (V 71 46 = 0 ∨ V 71 46 = 1) ∧ (-1 ≤ eaV V ∧ eaV V ≤ 12) ∧ (0 ≤ V 99 1 ∧ V 99 1 ≤ 9999) ∧
  (∀ q : Nat, q < 4 → V 100 (4 + q) = 0 ∨ V 100 (4 + q) = 1) ∧ (∀ q : Nat, q < 4 → -9999 ≤ V 101 (4 + q) ∧ V 101 (4 + q) ≤ 9999) ∧
  (∀ r : Nat, r < nU V → 0 ≤ V 103 (8 + r) ∧ V 103 (8 + r) ≤ 3) ∧ (∀ r : Nat, r < nU V → -99999 ≤ V 104 (8 + r) ∧ V 104 (8 + r) ≤ 99999) ∧
  (∀ k : Nat, k < nY V → 1 ≤ V 105 (12 + k) ∧ V 105 (12 + k) ≤ 999) ∧ (∀ k : Nat, k < nY V → 0 ≤ V 106 (12 + k) ∧ V 106 (12 + k) ≤ 999)
def sdV (V : Hp) : Nat := (V 71 49).toNat
/-- who sits where, and the rest that acts change -/
def CrewM (V : Hp) : Prop :=
  (0 ≤ V 71 47 ∧ V 71 47 ≤ 9999) ∧ (V 71 49 = sdV V ∧ sdV V < 2 ^ nS V) ∧ (∀ k : Nat, k < 12 → -1 ≤ V 107 k ∧ V 107 k < nR V) ∧ (∀ k : Nat, nS V ≤ k → k < 12 → V 107 k = -1) ∧ (0 ≤ V 71 57 ∧ V 71 57 < 2147483648) ∧ (-9223372036854775808 ≤ V 71 48 ∧ V 71 48 < 9223372036854775808)
/-- the class's plan at p tells the same boat -/
def PlanC (V : Hp) (p : Int) : Prop :=
  V p 0 = nS V ∧ V p 6 = nR V ∧ V p 13 = nU V ∧ V p 17 = nY V ∧ V p 10 = eaV V ∧ V p 12 = V 99 1 ∧
  (∀ k : Nat, k < nS V → V (p + 1) k = V 92 (12 + k)) ∧ (∀ k : Nat, k < nS V → V (p + 2) k = V 93 (12 + k)) ∧
  (∀ q k : Nat, q < 4 → k < nS V → V (p + 3) (12 * q + k) = V 93 (12 + k) * V 92 (12 + k) ^ q) ∧
  (∃ f g : Nat, V p 4 = f ∧ V p 5 = g ∧ f < 2 ^ nS V ∧ g < 2 ^ nS V ∧ ∀ k : Nat, k < nS V → (f.testBit k = decide (V 94 (12 + k) = 1) ∧ g.testBit k = decide (V 94 (12 + k) = 2))) ∧
  (∀ k : Nat, k < nR V → V (p + 5) k = V 96 (12 + k)) ∧ (∀ k : Nat, k < nR V → V (p + 6) k = V 97 (12 + k)) ∧
  (∀ q : Nat, q < 4 → V (p + 7) q = if V 100 (4 + q) = 1 then V 101 (4 + q) else -1000000000000000) ∧
  (∀ r k : Nat, r < nU V → k < 12 → V (p + 8) (12 * r + k) = if V 102 (96 + 12 * r + k) = 2 then 1 else if V 102 (96 + 12 * r + k) = 1 then -1 else 0) ∧
  (∀ r : Nat, r < nU V → V (p + 9) r = V 103 (8 + r)) ∧ (∀ r : Nat, r < nU V → V (p + 10) r = V 104 (8 + r)) ∧
  (∀ k : Nat, k < nY V → V (p + 11) k = V 105 (12 + k)) ∧ (∀ k : Nat, k < nY V → V (p + 12) k = V 106 (12 + k))
def CrewC (V : Hp) : Prop :=
  (V 4 0 = 5 ∨ V 4 0 = 25) ∧ V 1 2 = 30 - V 4 0 ∧ V 4 3 = V 71 47 ∧ V 4 4 = V 71 48 ∧ V 4 5 = V 71 57 ∧ (∀ k : Nat, k < 12 → V 18 k = V 107 k) ∧ (∀ k : Nat, k < nS V → V 19 k = if (sdV V).testBit k then 1 else 0)
/-- what most questions stand on -/
def Inq (V : Hp) : Prop := Ptr V ∧ BoatM V ∧ CrewM V ∧ PlanC V (V 4 0) ∧ CrewC V
/-! swings -/
def stg (V : Hp) (r t : Int) : Int := max 0 (V 96 (12 + r) - V 97 (12 + r) * (t / 10))
/-- the strength in a seat -/
def frc (V : Hp) (k : Nat) (t : Int) : Int := if V 107 k = -1 then 0 else stg V (V 107 k) t
def sgn (b : Bool) (x : Int) : Int := if b then x else -x
def lvr (V : Hp) (q k : Nat) : Int := V 93 (12 + k) * V 92 (12 + k) ^ q
def sww (V : Hp) (q by_ : Nat) (t : Int) : Int := sumI (fun k => sgn (by_.testBit k) (frc V k t * lvr V q k)) (nS V)
theorem ex_det {n n' d m : Nat} {is : List AI} {ls st : List AV} {H : Hp} {v v' : AV × Hp} (h : ex n d m is ls st H = some v) (h' : ex n' d m is ls st H = some v') : v = v' := by
  have h1 := ex_le (Nat.le_add_right n n') h
  have h2 := ex_le (Nat.le_add_left n' n) h'
  rw [h1] at h2
  exact Option.some.inj h2
theorem CC_det {d m : Nat} {args : List AV} {H H' : Hp} {r : AV} (h : CC d m args H (fun r1 H1 => r1 = r ∧ H1 = H')) {Q : AV → Hp → Prop} : CC d m args H Q = Q r H' := by
  obtain ⟨hw, n, r1, H1, e, rfl, rfl⟩ := h
  refine propext ⟨fun ⟨_, n2, r2, H2, e2, q⟩ => ?_, fun q => ⟨hw, n, r1, H1, e, q⟩⟩
  have := ex_det e e2
  cases this
  exact q
theorem R_cg {d m : Nat} {is : List AI} {ls ls' st : List AV} {H H' : Hp} {Q : AV → Hp → Prop} (h : R d m is ls st H Q) (h1 : ls' = ls) (h2 : H' = H) : R d m is ls' st H' Q := by rw [h1, h2]; exact h
theorem ite10_0 {c : Prop} [Decidable c] : ((if c then (1 : Int) else 0) = 0) = ¬ c := by by_cases h : c <;> simp [h]
theorem ite10_1 {c : Prop} [Decidable c] : ((if c then (1 : Int) else 0) = 1) = c := by by_cases h : c <;> simp [h]
theorem ite10_01 {c : Prop} [Decidable c] : ((if c then (1 : Int) else 0) = 0 ∨ (if c then (1 : Int) else 0) = 1) = True := by by_cases h : c <;> simp [h]
end
section
/-! leaves -/
section LF
variable {d : Nat} {V H : Hp} {Q : AV → Hp → Prop}
theorem q_isSeat {p s : Int} (hp : shc p = 5) : CC d PL_isSeat [va p, vi s] H Q = Q (vi (if 0 ≤ s ∧ s < H p 0 then 1 else 0)) H := by
  simp only [en_PL_isSeat, e_PL_isSeat_0, k_PL_isSeat_0, e_PL_isSeat_1, k_PL_isSeat_1, e_PL_isSeat_2, k_PL_isSeat_2, rr, sh, Nat.reduceLT, Nat.reduceMul, Int.reduceToNat, Int.reduceGT, Int.reduceGE, Int.reduceNe, true_and, and_true, true_or, or_true, false_or, or_false, and_self, or_self, if_true, if_false, reduceIte, not_true_eq_false, not_false_eq_true, Int.reduceEq, Int.reduceNe, Int.reduceLT, Int.reduceLE, Int.reduceAdd, Int.reduceSub, Int.reduceMul, Int.reduceNeg, Nat.reduceAdd, Nat.reduceLeDiff, Nat.reduceEqDiff, ne_eq, List.length_cons, List.length_nil, Nat.reduceSub, hp]
  split <;> (try split) <;> (try split) <;> first | rfl | omega
theorem q_isRower {p s : Int} (hp : shc p = 5) : CC d PL_isRower [va p, vi s] H Q = Q (vi (if 0 ≤ s ∧ s < H p 6 then 1 else 0)) H := by
  simp only [en_PL_isRower, e_PL_isRower_0, k_PL_isRower_0, e_PL_isRower_1, k_PL_isRower_1, e_PL_isRower_2, k_PL_isRower_2, rr, sh, Nat.reduceLT, Nat.reduceMul, Int.reduceToNat, Int.reduceGT, Int.reduceGE, Int.reduceNe, true_and, and_true, true_or, or_true, false_or, or_false, and_self, or_self, if_true, if_false, reduceIte, not_true_eq_false, not_false_eq_true, Int.reduceEq, Int.reduceNe, Int.reduceLT, Int.reduceLE, Int.reduceAdd, Int.reduceSub, Int.reduceMul, Int.reduceNeg, Nat.reduceAdd, Nat.reduceLeDiff, Nat.reduceEqDiff, ne_eq, List.length_cons, List.length_nil, Nat.reduceSub, hp]
  split <;> (try split) <;> (try split) <;> first | rfl | omega
theorem q_isPower {s : Int} : CC d PL_isPower [vi s] H Q = Q (vi (if 0 ≤ s ∧ s < 4 then 1 else 0)) H := by
  simp only [en_PL_isPower, e_PL_isPower_0, k_PL_isPower_0, e_PL_isPower_1, k_PL_isPower_1, e_PL_isPower_2, k_PL_isPower_2, rr, sh, Nat.reduceLT, Nat.reduceMul, Int.reduceToNat, Int.reduceGT, Int.reduceGE, Int.reduceNe, true_and, and_true, true_or, or_true, false_or, or_false, and_self, or_self, if_true, if_false, reduceIte, not_true_eq_false, not_false_eq_true, Int.reduceEq, Int.reduceNe, Int.reduceLT, Int.reduceLE, Int.reduceAdd, Int.reduceSub, Int.reduceMul, Int.reduceNeg, Nat.reduceAdd, Nat.reduceLeDiff, Nat.reduceEqDiff, ne_eq, List.length_cons, List.length_nil, Nat.reduceSub]
  split <;> (try split) <;> (try split) <;> first | rfl | omega
theorem q_maxI {x y : Int} : CC d JK_maxI [vi x, vi y] H Q = Q (vi (max x y)) H := by
  simp only [en_JK_maxI, e_JK_maxI_0, k_JK_maxI_0, e_JK_maxI_1, k_JK_maxI_1, e_JK_maxI_2, k_JK_maxI_2, rr, sh, Nat.reduceLT, Nat.reduceMul, Int.reduceToNat, Int.reduceGT, Int.reduceGE, Int.reduceNe, true_and, and_true, true_or, or_true, false_or, or_false, and_self, or_self, if_true, if_false, reduceIte, not_true_eq_false, not_false_eq_true, Int.reduceEq, Int.reduceNe, Int.reduceLT, Int.reduceLE, Int.reduceAdd, Int.reduceSub, Int.reduceMul, Int.reduceNeg, Nat.reduceAdd, Nat.reduceLeDiff, Nat.reduceEqDiff, ne_eq, List.length_cons, List.length_nil, Nat.reduceSub]
  split <;> (congr 2; omega)
theorem q_minI {x y : Int} : CC d JK_minI [vi x, vi y] H Q = Q (vi (min x y)) H := by
  simp only [en_JK_minI, e_JK_minI_0, k_JK_minI_0, e_JK_minI_1, k_JK_minI_1, e_JK_minI_2, k_JK_minI_2, rr, sh, Nat.reduceLT, Nat.reduceMul, Int.reduceToNat, Int.reduceGT, Int.reduceGE, Int.reduceNe, true_and, and_true, true_or, or_true, false_or, or_false, and_self, or_self, if_true, if_false, reduceIte, not_true_eq_false, not_false_eq_true, Int.reduceEq, Int.reduceNe, Int.reduceLT, Int.reduceLE, Int.reduceAdd, Int.reduceSub, Int.reduceMul, Int.reduceNeg, Nat.reduceAdd, Nat.reduceLeDiff, Nat.reduceEqDiff, ne_eq, List.length_cons, List.length_nil, Nat.reduceSub]
  split <;> (congr 2; omega)
theorem q_maxL {x y : Int} : CC d JK_maxL [vl x, vl y] H Q = Q (vl (max x y)) H := by
  simp only [en_JK_maxL, e_JK_maxL_0, k_JK_maxL_0, e_JK_maxL_1, k_JK_maxL_1, e_JK_maxL_2, k_JK_maxL_2, rr, sh, Nat.reduceLT, Nat.reduceMul, Int.reduceToNat, Int.reduceGT, Int.reduceGE, Int.reduceNe, true_and, and_true, true_or, or_true, false_or, or_false, and_self, or_self, if_true, if_false, reduceIte, not_true_eq_false, not_false_eq_true, Int.reduceEq, Int.reduceNe, Int.reduceLT, Int.reduceLE, Int.reduceAdd, Int.reduceSub, Int.reduceMul, Int.reduceNeg, Nat.reduceAdd, Nat.reduceLeDiff, Nat.reduceEqDiff, ne_eq, List.length_cons, List.length_nil, Nat.reduceSub, c3_lt, c3_ge, c3_gt, c3_le, c3_eq]
  split <;> (congr 2; omega)
theorem q_minL {x y : Int} : CC d JK_minL [vl x, vl y] H Q = Q (vl (min x y)) H := by
  simp only [en_JK_minL, e_JK_minL_0, k_JK_minL_0, e_JK_minL_1, k_JK_minL_1, e_JK_minL_2, k_JK_minL_2, rr, sh, Nat.reduceLT, Nat.reduceMul, Int.reduceToNat, Int.reduceGT, Int.reduceGE, Int.reduceNe, true_and, and_true, true_or, or_true, false_or, or_false, and_self, or_self, if_true, if_false, reduceIte, not_true_eq_false, not_false_eq_true, Int.reduceEq, Int.reduceNe, Int.reduceLT, Int.reduceLE, Int.reduceAdd, Int.reduceSub, Int.reduceMul, Int.reduceNeg, Nat.reduceAdd, Nat.reduceLeDiff, Nat.reduceEqDiff, ne_eq, List.length_cons, List.length_nil, Nat.reduceSub, c3_lt, c3_ge, c3_gt, c3_le, c3_eq]
  split <;> (congr 2; omega)
end LF
end
section
/-! the plan at its place p -/
set_option maxRecDepth 20000 in
set_option maxHeartbeats 4000000 in
theorem pl_f {V H : Hp} {p : Int} (hH : Vw V H) (hp : p = 5 ∨ p = 25) (q : Ptr V) : shc p = 5 ∧ H p = V p ∧ V p 1 = p + 1 ∧ sht (p + 1) = 1 ∧ shl (p + 1) = 12 ∧ H (p + 1) = V (p + 1) ∧ V p 2 = p + 2 ∧ sht (p + 2) = 1 ∧ shl (p + 2) = 12 ∧ H (p + 2) = V (p + 2) ∧ V p 3 = p + 3 ∧ sht (p + 3) = 2 ∧ shl (p + 3) = 48 ∧ H (p + 3) = V (p + 3) ∧ V p 7 = p + 4 ∧ sht (p + 4) = 1 ∧ shl (p + 4) = 72 ∧ H (p + 4) = V (p + 4) ∧ V p 8 = p + 5 ∧ sht (p + 5) = 1 ∧ shl (p + 5) = 12 ∧ H (p + 5) = V (p + 5) ∧ V p 9 = p + 6 ∧ sht (p + 6) = 1 ∧ shl (p + 6) = 12 ∧ H (p + 6) = V (p + 6) ∧ V p 11 = p + 7 ∧ sht (p + 7) = 2 ∧ shl (p + 7) = 4 ∧ H (p + 7) = V (p + 7) ∧ V p 14 = p + 8 ∧ sht (p + 8) = 1 ∧ shl (p + 8) = 96 ∧ H (p + 8) = V (p + 8) ∧ V p 15 = p + 9 ∧ sht (p + 9) = 1 ∧ shl (p + 9) = 8 ∧ H (p + 9) = V (p + 9) ∧ V p 16 = p + 10 ∧ sht (p + 10) = 1 ∧ shl (p + 10) = 8 ∧ H (p + 10) = V (p + 10) ∧ V p 18 = p + 11 ∧ sht (p + 11) = 1 ∧ shl (p + 11) = 12 ∧ H (p + 11) = V (p + 11) ∧ V p 19 = p + 12 ∧ sht (p + 12) = 1 ∧ shl (p + 12) = 12 ∧ H (p + 12) = V (p + 12) := by
  have h5 := (Vw.rf (V := V)).f q
  have hf := hH.f q
  rcases hp with rfl | rfl
  · refine ⟨?_, ?_, ?_, ?_, ?_, ?_, ?_, ?_, ?_, ?_, ?_, ?_, ?_, ?_, ?_, ?_, ?_, ?_, ?_, ?_, ?_, ?_, ?_, ?_, ?_, ?_, ?_, ?_, ?_, ?_, ?_, ?_, ?_, ?_, ?_, ?_, ?_, ?_, ?_, ?_, ?_, ?_, ?_, ?_, ?_, ?_, ?_, ?_, ?_, ?_⟩ <;> first | rfl | (simp only [h5, Int.reduceAdd]; done) | (funext b; exact hH _ _ rfl)
  · refine ⟨?_, ?_, ?_, ?_, ?_, ?_, ?_, ?_, ?_, ?_, ?_, ?_, ?_, ?_, ?_, ?_, ?_, ?_, ?_, ?_, ?_, ?_, ?_, ?_, ?_, ?_, ?_, ?_, ?_, ?_, ?_, ?_, ?_, ?_, ?_, ?_, ?_, ?_, ?_, ?_, ?_, ?_, ?_, ?_, ?_, ?_, ?_, ?_, ?_, ?_⟩ <;> first | rfl | (simp only [h5, Int.reduceAdd]; done) | (funext b; exact hH _ _ rfl)
section PL
variable {d : Nat} {V H : Hp} {Q : AV → Hp → Prop} {p : Int}
theorem PlanC.seats (h : PlanC V p) : V p 0 = nS V := h.1
theorem PlanC.rowers (h : PlanC V p) : V p 6 = nR V := h.2.1
theorem PlanC.runs (h : PlanC V p) : V p 13 = nU V := h.2.2.1
theorem PlanC.pays (h : PlanC V p) : V p 17 = nY V := h.2.2.2.1
theorem PlanC.left (h : PlanC V p) : V p 10 = eaV V := h.2.2.2.2.1
theorem PlanC.near (h : PlanC V p) : V p 12 = V 99 1 := h.2.2.2.2.2.1
theorem PlanC.place (h : PlanC V p) : ∀ k : Nat, k < nS V → V (p + 1) k = V 92 (12 + k) := h.2.2.2.2.2.2.1
theorem PlanC.arm (h : PlanC V p) : ∀ k : Nat, k < nS V → V (p + 2) k = V 93 (12 + k) := h.2.2.2.2.2.2.2.1
theorem PlanC.lever (h : PlanC V p) : ∀ q k : Nat, q < 4 → k < nS V → V (p + 3) (12 * q + k) = V 93 (12 + k) * V 92 (12 + k) ^ q := h.2.2.2.2.2.2.2.2.1
theorem PlanC.fixed (h : PlanC V p) : ∃ f g : Nat, V p 4 = f ∧ V p 5 = g ∧ f < 2 ^ nS V ∧ g < 2 ^ nS V ∧ ∀ k : Nat, k < nS V → (f.testBit k = decide (V 94 (12 + k) = 1) ∧ g.testBit k = decide (V 94 (12 + k) = 2)) := h.2.2.2.2.2.2.2.2.2.1
theorem PlanC.str (h : PlanC V p) : ∀ k : Nat, k < nR V → V (p + 5) k = V 96 (12 + k) := h.2.2.2.2.2.2.2.2.2.2.1
theorem PlanC.tire (h : PlanC V p) : ∀ k : Nat, k < nR V → V (p + 6) k = V 97 (12 + k) := h.2.2.2.2.2.2.2.2.2.2.2.1
theorem PlanC.want (h : PlanC V p) : ∀ q : Nat, q < 4 → V (p + 7) q = if V 100 (4 + q) = 1 then V 101 (4 + q) else -1000000000000000 := h.2.2.2.2.2.2.2.2.2.2.2.2.1
theorem PlanC.side (h : PlanC V p) : ∀ r k : Nat, r < nU V → k < 12 → V (p + 8) (12 * r + k) = if V 102 (96 + 12 * r + k) = 2 then 1 else if V 102 (96 + 12 * r + k) = 1 then -1 else 0 := h.2.2.2.2.2.2.2.2.2.2.2.2.2.1
theorem PlanC.rpow (h : PlanC V p) : ∀ r : Nat, r < nU V → V (p + 9) r = V 103 (8 + r) := h.2.2.2.2.2.2.2.2.2.2.2.2.2.2.1
theorem PlanC.rsw (h : PlanC V p) : ∀ r : Nat, r < nU V → V (p + 10) r = V 104 (8 + r) := h.2.2.2.2.2.2.2.2.2.2.2.2.2.2.2.1
theorem PlanC.paid (h : PlanC V p) : ∀ k : Nat, k < nY V → V (p + 11) k = V 105 (12 + k) := h.2.2.2.2.2.2.2.2.2.2.2.2.2.2.2.2.1
theorem PlanC.paidOn (h : PlanC V p) : ∀ k : Nat, k < nY V → V (p + 12) k = V 106 (12 + k) := h.2.2.2.2.2.2.2.2.2.2.2.2.2.2.2.2.2
theorem BoatM.s (h : BoatM V) : V 91 4 = nS V ∧ nS V ≤ 12 := h.1
theorem BoatM.r (h : BoatM V) : V 91 5 = nR V ∧ nR V ≤ 12 := h.2.1
theorem BoatM.u (h : BoatM V) : V 91 6 = nU V ∧ nU V ≤ 8 := h.2.2.1
theorem BoatM.y (h : BoatM V) : V 91 7 = nY V ∧ nY V ≤ 12 := h.2.2.2.1
theorem BoatM.place (h : BoatM V) : ∀ k : Nat, k < nS V → 1 ≤ V 92 (12 + k) ∧ V 92 (12 + k) ≤ 99 := h.2.2.2.2.1
theorem BoatM.arm (h : BoatM V) : ∀ k : Nat, k < nS V → 1 ≤ V 93 (12 + k) ∧ V 93 (12 + k) ≤ 99 := h.2.2.2.2.2.1
theorem BoatM.fix (h : BoatM V) : ∀ k : Nat, k < nS V → 0 ≤ V 94 (12 + k) ∧ V 94 (12 + k) ≤ 2 := h.2.2.2.2.2.2.1
theorem BoatM.str (h : BoatM V) : ∀ k : Nat, k < nR V → 1 ≤ V 96 (12 + k) ∧ V 96 (12 + k) ≤ 99 := h.2.2.2.2.2.2.2.1
theorem BoatM.tire (h : BoatM V) : ∀ k : Nat, k < nR V → 0 ≤ V 97 (12 + k) ∧ V 97 (12 + k) ≤ 9 := h.2.2.2.2.2.2.2.2.1
theorem BoatM.told (h : BoatM V) : V 71 46 = 0 ∨ V 71 46 = 1 := h.2.2.2.2.2.2.2.2.2.1
theorem BoatM.each (h : BoatM V) : -1 ≤ eaV V ∧ eaV V ≤ 12 := h.2.2.2.2.2.2.2.2.2.2.1
theorem BoatM.near (h : BoatM V) : 0 ≤ V 99 1 ∧ V 99 1 ≤ 9999 := h.2.2.2.2.2.2.2.2.2.2.2.1
theorem BoatM.isw (h : BoatM V) : ∀ q : Nat, q < 4 → V 100 (4 + q) = 0 ∨ V 100 (4 + q) = 1 := h.2.2.2.2.2.2.2.2.2.2.2.2.1
theorem BoatM.want (h : BoatM V) : ∀ q : Nat, q < 4 → -9999 ≤ V 101 (4 + q) ∧ V 101 (4 + q) ≤ 9999 := h.2.2.2.2.2.2.2.2.2.2.2.2.2.1
theorem BoatM.rpow (h : BoatM V) : ∀ r : Nat, r < nU V → 0 ≤ V 103 (8 + r) ∧ V 103 (8 + r) ≤ 3 := h.2.2.2.2.2.2.2.2.2.2.2.2.2.2.1
theorem BoatM.rsw (h : BoatM V) : ∀ r : Nat, r < nU V → -99999 ≤ V 104 (8 + r) ∧ V 104 (8 + r) ≤ 99999 := h.2.2.2.2.2.2.2.2.2.2.2.2.2.2.2.1
theorem BoatM.paid (h : BoatM V) : ∀ k : Nat, k < nY V → 1 ≤ V 105 (12 + k) ∧ V 105 (12 + k) ≤ 999 := h.2.2.2.2.2.2.2.2.2.2.2.2.2.2.2.2.1
theorem BoatM.paidOn (h : BoatM V) : ∀ k : Nat, k < nY V → 0 ≤ V 106 (12 + k) ∧ V 106 (12 + k) ≤ 999 := h.2.2.2.2.2.2.2.2.2.2.2.2.2.2.2.2.2
theorem CrewM.stroke (h : CrewM V) : 0 ≤ V 71 47 ∧ V 71 47 ≤ 9999 := h.1
theorem CrewM.sides (h : CrewM V) : V 71 49 = sdV V ∧ sdV V < 2 ^ nS V := h.2.1
theorem CrewM.sits (h : CrewM V) : ∀ k : Nat, k < 12 → -1 ≤ V 107 k ∧ V 107 k < nR V := h.2.2.1
theorem CrewM.off (h : CrewM V) : ∀ k : Nat, nS V ≤ k → k < 12 → V 107 k = -1 := h.2.2.2.1
theorem CrewM.seed (h : CrewM V) : 0 ≤ V 71 57 ∧ V 71 57 < 2147483648 := h.2.2.2.2.1
theorem Inq.ptr (h : Inq V) : Ptr V := h.1
theorem Inq.boat (h : Inq V) : BoatM V := h.2.1
theorem Inq.crew (h : Inq V) : CrewM V := h.2.2.1
theorem Inq.plan (h : Inq V) : PlanC V (V 4 0) := h.2.2.2.1
theorem Inq.cc (h : Inq V) : CrewC V := h.2.2.2.2
theorem Inq.pp (h : Inq V) : V 4 0 = 5 ∨ V 4 0 = 25 := h.2.2.2.2.1
theorem CrewC.stroke (h : CrewC V) : V 4 3 = V 71 47 := h.2.2.1
theorem CrewC.heading (h : CrewC V) : V 4 4 = V 71 48 := h.2.2.2.1
theorem CrewC.drawn (h : CrewC V) : V 4 5 = V 71 57 := h.2.2.2.2.1
theorem CrewC.sits (h : CrewC V) : ∀ k : Nat, k < 12 → V 18 k = V 107 k := h.2.2.2.2.2.1
theorem CrewC.right (h : CrewC V) : ∀ k : Nat, k < nS V → V 19 k = if (sdV V).testBit k then 1 else 0 := h.2.2.2.2.2.2
end PL
end
section
/-! the crew's reads -/
section CR
variable {d : Nat} {V H : Hp} {Q : AV → Hp → Prop}
theorem tdiv_nn {t : Int} (h0 : 0 ≤ t) : t.tdiv 10 = t / 10 := Int.tdiv_eq_ediv_of_nonneg h0
set_option maxRecDepth 20000 in
set_option maxHeartbeats 4000000 in
theorem q_strengthAt (hI : Inq V) (hH : Vw V H) {r t : Int} (ht : 0 ≤ t) (ht2 : t ≤ 100000) : CC (d + 1) CW_strengthAt [va 4, vi r, vi t] H Q = Q (vi (if 0 ≤ r ∧ r < nR V then stg V r t else 0)) H := by
  refine CC_det ?_
  have h1 := hI.plan.rowers
  by_cases hr : 0 ≤ r ∧ r < nR V
  · obtain ⟨k, rfl⟩ := Int.eq_ofNat_of_zero_le hr.1
    have hk : k < nR V := by omega
    have hn := hI.boat.r
    have e1 := hI.plan.str k hk
    have e2 := hI.plan.tire k hk
    have b1 := hI.boat.str k hk
    have b2 := hI.boat.tire k hk
    have hm : 0 ≤ V 97 (12 + k) * (t / 10) ∧ V 97 (12 + k) * (t / 10) ≤ 9 * 10000 := ⟨Int.mul_nonneg b2.1 (by omega), Int.mul_le_mul b2.2 (by omega) (by omega) (by omega)⟩
    have w1 : w32 (t.tdiv 10) = t / 10 := by rw [tdiv_nn ht]; exact w32_id (by omega) (by omega)
    have w2 : w32 (V 97 (12 + k) * (t / 10)) = V 97 (12 + k) * (t / 10) := w32_id (by omega) (by omega)
    have w3 : w32 (V 96 (12 + k) - V 97 (12 + k) * (t / 10)) = V 96 (12 + k) - V 97 (12 + k) * (t / 10) := w32_id (by omega) (by omega)
    have f := hH.f hI.ptr
    have g := pl_f hH hI.pp hI.ptr
    simp only [en_CW_strengthAt, e_CW_strengthAt_0, k_CW_strengthAt_0, e_CW_strengthAt_1, k_CW_strengthAt_1, rr, sh, Nat.reduceLT, Nat.reduceMul, Int.reduceToNat, Int.reduceGT, Int.reduceGE, Int.reduceNe, true_and, and_true, true_or, or_true, false_or, or_false, and_self, or_self, if_true, if_false, reduceIte, not_true_eq_false, not_false_eq_true, Int.reduceEq, Int.reduceNe, Int.reduceLT, Int.reduceLE, Int.reduceAdd, Int.reduceSub, Int.reduceMul, Int.reduceNeg, Nat.reduceAdd, Nat.reduceLeDiff, Nat.reduceEqDiff, ne_eq, List.length_cons, List.length_nil, Nat.reduceSub, f, g, q_isRower, q_maxI, h1, hr, ite10_0, e1, e2, w1, w2, w3]
    clear f g
    repeat (refine And.intro (by omega) ?_)
    rfl
  · have f := hH.f hI.ptr
    have g := pl_f hH hI.pp hI.ptr
    simp only [en_CW_strengthAt, e_CW_strengthAt_0, k_CW_strengthAt_0, e_CW_strengthAt_1, k_CW_strengthAt_1, rr, sh, Nat.reduceLT, Nat.reduceMul, Int.reduceToNat, Int.reduceGT, Int.reduceGE, Int.reduceNe, true_and, and_true, true_or, or_true, false_or, or_false, and_self, or_self, if_true, if_false, reduceIte, not_true_eq_false, not_false_eq_true, Int.reduceEq, Int.reduceNe, Int.reduceLT, Int.reduceLE, Int.reduceAdd, Int.reduceSub, Int.reduceMul, Int.reduceNeg, Nat.reduceAdd, Nat.reduceLeDiff, Nat.reduceEqDiff, ne_eq, List.length_cons, List.length_nil, Nat.reduceSub, f, g, q_isRower, q_maxI, h1, hr, ite10_0]
set_option maxRecDepth 20000 in
set_option maxHeartbeats 4000000 in
theorem q_forceIn (hI : Inq V) (hH : Vw V H) {k : Nat} {t : Int} (hk : k < nS V) (ht : 0 ≤ t) (ht2 : t ≤ 100000) : CC (d + 2) CW_forceIn [va 4, vi k, vi t] H Q = Q (vi (frc V k t)) H := by
  refine CC_det ?_
  have h1 := hI.plan.seats
  have hn := hI.boat.s
  have hs := hI.crew.sits k (by omega)
  have e1 := hI.cc.sits k (by omega)
  have c1 : 0 ≤ (k : Int) ∧ (k : Int) < nS V := ⟨by omega, by omega⟩
  have f := hH.f hI.ptr
  have g := pl_f hH hI.pp hI.ptr
  simp only [en_CW_forceIn, e_CW_forceIn_0, k_CW_forceIn_0, e_CW_forceIn_1, k_CW_forceIn_1, e_CW_forceIn_2, k_CW_forceIn_2, rr, sh, Nat.reduceLT, Nat.reduceMul, Int.reduceToNat, Int.reduceGT, Int.reduceGE, Int.reduceNe, true_and, and_true, true_or, or_true, false_or, or_false, and_self, or_self, if_true, if_false, reduceIte, not_true_eq_false, not_false_eq_true, Int.reduceEq, Int.reduceNe, Int.reduceLT, Int.reduceLE, Int.reduceAdd, Int.reduceSub, Int.reduceMul, Int.reduceNeg, Nat.reduceAdd, Nat.reduceLeDiff, Nat.reduceEqDiff, ne_eq, List.length_cons, List.length_nil, Nat.reduceSub, f, g, q_isSeat, h1, c1, ite10_0, e1, q_strengthAt hI hH ht ht2]
  clear f g
  repeat (refine And.intro (by omega) ?_)
  unfold frc
  by_cases h : V 107 k = -1
  · rw [if_pos h, if_neg (by omega)]
  · rw [if_neg h, if_pos (by omega)]
set_option maxRecDepth 20000 in
set_option maxHeartbeats 4000000 in
theorem q_leverOf (hI : Inq V) (hH : Vw V H) {q k : Nat} (hq : q < 4) (hk : k < nS V) : CC (d + 1) PL_leverOf [va (V 4 0), vi q, vi k] H Q = Q (vl (lvr V q k)) H := by
  refine CC_det ?_
  have h1 := hI.plan.seats
  have hn := hI.boat.s
  have c1 : 0 ≤ (k : Int) ∧ (k : Int) < nS V := ⟨by omega, by omega⟩
  have c2 : 0 ≤ (q : Int) ∧ (q : Int) < 4 := ⟨by omega, by omega⟩
  have e1 := hI.plan.lever q k hq hk
  have w1 : w32 (w32 ((q : Int) * 12) + k) = 12 * q + k := by rw [w32_id (x := (q : Int) * 12) (by omega) (by omega), w32_id (by omega) (by omega)]; omega
  have f := hH.f hI.ptr
  have g := pl_f hH hI.pp hI.ptr
  simp only [en_PL_leverOf, e_PL_leverOf_0, k_PL_leverOf_0, e_PL_leverOf_1, k_PL_leverOf_1, e_PL_leverOf_2, k_PL_leverOf_2, rr, sh, Nat.reduceLT, Nat.reduceMul, Int.reduceToNat, Int.reduceGT, Int.reduceGE, Int.reduceNe, true_and, and_true, true_or, or_true, false_or, or_false, and_self, or_self, if_true, if_false, reduceIte, not_true_eq_false, not_false_eq_true, Int.reduceEq, Int.reduceNe, Int.reduceLT, Int.reduceLE, Int.reduceAdd, Int.reduceSub, Int.reduceMul, Int.reduceNeg, Nat.reduceAdd, Nat.reduceLeDiff, Nat.reduceEqDiff, ne_eq, List.length_cons, List.length_nil, Nat.reduceSub, f, g, q_isSeat, q_isPower, h1, c1, c2, ite10_0, w1, e1]
  clear f g
  repeat (refine And.intro (by omega) ?_)
  rfl
set_option maxRecDepth 20000 in
set_option maxHeartbeats 4000000 in
theorem q_leverToSide (hI : Inq V) (hH : Vw V H) {q k : Nat} (hq : q < 4) (hk : k < nS V) : CC (d + 2) CW_leverToSide [va 4, vi q, vi k] H Q = Q (vl (if (sdV V).testBit k then lvr V q k else w64 (-lvr V q k))) H := by
  refine CC_det ?_
  have h1 := hI.plan.seats
  have hn := hI.boat.s
  have c1 : 0 ≤ (k : Int) ∧ (k : Int) < nS V := ⟨by omega, by omega⟩
  have e1 := hI.cc.right k hk
  have f := hH.f hI.ptr
  have g := pl_f hH hI.pp hI.ptr
  simp only [en_CW_leverToSide, e_CW_leverToSide_0, k_CW_leverToSide_0, e_CW_leverToSide_1, k_CW_leverToSide_1, e_CW_leverToSide_2, k_CW_leverToSide_2, e_CW_leverToSide_3, k_CW_leverToSide_3, rr, sh, Nat.reduceLT, Nat.reduceMul, Int.reduceToNat, Int.reduceGT, Int.reduceGE, Int.reduceNe, true_and, and_true, true_or, or_true, false_or, or_false, and_self, or_self, if_true, if_false, reduceIte, not_true_eq_false, not_false_eq_true, Int.reduceEq, Int.reduceNe, Int.reduceLT, Int.reduceLE, Int.reduceAdd, Int.reduceSub, Int.reduceMul, Int.reduceNeg, Nat.reduceAdd, Nat.reduceLeDiff, Nat.reduceEqDiff, ne_eq, List.length_cons, List.length_nil, Nat.reduceSub, f, g, q_isSeat, h1, c1, ite10_0, ite10_1, q_leverOf hI hH hq hk, e1]
  clear f g
  repeat (refine And.intro (by omega) ?_)
  by_cases hb : (sdV V).testBit k = true <;> simp [hb]
set_option maxRecDepth 20000 in
set_option maxHeartbeats 4000000 in
theorem q_swingAt (hI : Inq V) (hH : Vw V H) {q : Nat} {t : Int} (hq : q < 4) (ht : 0 ≤ t) (ht2 : t ≤ 100000) : CC (d + 3) CW_swingAt [va 4, vi q, vi t] H Q = Q (vl (w64 (sww V q (sdV V) t))) H := by
  have h1 := hI.plan.seats
  have hn := hI.boat.s
  refine CC_det ?_
  simp only [en_CW_swingAt, e_CW_swingAt_0, k_CW_swingAt_0, rr, sh, Nat.reduceLT, Nat.reduceMul, Int.reduceToNat, Int.reduceGT, Int.reduceGE, Int.reduceNe, true_and, and_true, true_or, or_true, false_or, or_false, and_self, or_self, if_true, if_false, reduceIte, not_true_eq_false, not_false_eq_true, Int.reduceEq, Int.reduceNe, Int.reduceLT, Int.reduceLE, Int.reduceAdd, Int.reduceSub, Int.reduceMul, Int.reduceNeg, Nat.reduceAdd, Nat.reduceLeDiff, Nat.reduceEqDiff, ne_eq, List.length_cons, List.length_nil, Nat.reduceSub]
  refine up_nat (P := fun k => R (d + 3) CW_swingAt (blk CW_swingAt 1) [va 4, vi q, vi t, vl (w64 (sumI (fun k => sgn ((sdV V).testBit k) (frc V k t * lvr V q k)) k)), vu, vi k] [] H (fun r1 H1 => r1 = vl (w64 (sww V q (sdV V) t)) ∧ H1 = H)) ?_ ?_ 0 (Nat.zero_le (nS V))
  · rw [e_CW_swingAt_1]
    have f := hH.f hI.ptr
    have g := pl_f hH hI.pp hI.ptr
    simp only [k_CW_swingAt_1, en_CW_swingAt, e_CW_swingAt_0, k_CW_swingAt_0, e_CW_swingAt_2, k_CW_swingAt_2, rr, sh, Nat.reduceLT, Nat.reduceMul, Int.reduceToNat, Int.reduceGT, Int.reduceGE, Int.reduceNe, true_and, and_true, true_or, or_true, false_or, or_false, and_self, or_self, if_true, if_false, reduceIte, not_true_eq_false, not_false_eq_true, Int.reduceEq, Int.reduceNe, Int.reduceLT, Int.reduceLE, Int.reduceAdd, Int.reduceSub, Int.reduceMul, Int.reduceNeg, Nat.reduceAdd, Nat.reduceLeDiff, Nat.reduceEqDiff, ne_eq, List.length_cons, List.length_nil, Nat.reduceSub, f, g, h1, Int.le_refl]
    clear f g
    rfl
  · intro k hk ih
    have c1 : ¬ (nS V : Int) ≤ k := by omega
    rw [e_CW_swingAt_1]
    have f := hH.f hI.ptr
    have g := pl_f hH hI.pp hI.ptr
    simp only [k_CW_swingAt_1, en_CW_swingAt, e_CW_swingAt_0, k_CW_swingAt_0, e_CW_swingAt_2, k_CW_swingAt_2, rr, sh, Nat.reduceLT, Nat.reduceMul, Int.reduceToNat, Int.reduceGT, Int.reduceGE, Int.reduceNe, true_and, and_true, true_or, or_true, false_or, or_false, and_self, or_self, if_true, if_false, reduceIte, not_true_eq_false, not_false_eq_true, Int.reduceEq, Int.reduceNe, Int.reduceLT, Int.reduceLE, Int.reduceAdd, Int.reduceSub, Int.reduceMul, Int.reduceNeg, Nat.reduceAdd, Nat.reduceLeDiff, Nat.reduceEqDiff, ne_eq, List.length_cons, List.length_nil, Nat.reduceSub, f, g, h1, c1, q_forceIn hI hH hk ht ht2, q_leverToSide hI hH hq hk, w32_s (show k < 2147483647 by omega)]
    clear f g
    refine R_cg ih ?_ rfl
    show [va 4, vi q, vi t, vl _, vu, _] = [va 4, vi q, vi t, vl _, vu, _]
    congr 5
    show _ = w64 (_ + sgn _ _)
    unfold sgn
    by_cases hb : (sdV V).testBit k = true
    · simp only [hb, if_true, w64_al, w64_ar]
    · simp only [hb, if_false, w64_al, w64_ar, w64_mr, Int.mul_neg, Bool.false_eq_true]
end CR
end
section
/-! how many bits -/
def pop (n : Nat) : Int := sumI (fun i => if n.testBit i = true then 1 else 0) 12
theorem pop_step : (List.range 4096).all (fun s => decide (s = 0) || decide (pop (s &&& (s - 1)) = pop s - 1 ∧ s &&& (s - 1) < s)) = true := by decide +kernel
theorem pop_lt {n : Nat} : 0 ≤ pop n ∧ pop n ≤ 12 := by
  have h : ∀ w : Nat, 0 ≤ sumI (fun i => if n.testBit i = true then 1 else 0) w ∧ sumI (fun i => if n.testBit i = true then 1 else 0) w ≤ w := by
    intro w
    induction w with
    | zero => exact ⟨Int.le_refl _, Int.le_refl _⟩
    | succ w ih =>
      show 0 ≤ _ + (if n.testBit w = true then (1 : Int) else 0) ∧ _ + (if n.testBit w = true then (1 : Int) else 0) ≤ _
      split <;> omega
  exact h 12
def bcE (x : Int) : Int :=
  let a := w32 (x - b_and (b_ushr x 1) 1431655765)
  let b := w32 (b_and a 858993459 + b_and (b_ushr a 2) 858993459)
  let c := b_and (w32 (b + b_ushr b 4)) 252645135
  let e := w32 (c + b_ushr c 8)
  let g := w32 (e + b_ushr e 16)
  b_and g 63
theorem bcE_1 : (List.range 1024).all (fun n => decide (bcE (n : Nat) = pop n)) = true := by decide +kernel
theorem bcE_2 : (List.range 1024).all (fun n => decide (bcE ((n + 1024 : Nat) : Int) = pop (n + 1024))) = true := by decide +kernel
theorem bcE_3 : (List.range 1024).all (fun n => decide (bcE ((n + 2048 : Nat) : Int) = pop (n + 2048))) = true := by decide +kernel
theorem bcE_4 : (List.range 1024).all (fun n => decide (bcE ((n + 3072 : Nat) : Int) = pop (n + 3072))) = true := by decide +kernel
theorem bcE_ok {n : Nat} (h : n < 4096) : bcE n = pop n := by
  by_cases h1 : n < 1024
  · exact of_decide_eq_true (List.all_eq_true.mp bcE_1 n (List.mem_range.mpr h1))
  · by_cases h2 : n < 2048
    · have := of_decide_eq_true (List.all_eq_true.mp bcE_2 (n - 1024) (List.mem_range.mpr (by omega)))
      rw [show n - 1024 + 1024 = n by omega] at this; exact this
    · by_cases h3 : n < 3072
      · have := of_decide_eq_true (List.all_eq_true.mp bcE_3 (n - 2048) (List.mem_range.mpr (by omega)))
        rw [show n - 2048 + 2048 = n by omega] at this; exact this
      · have := of_decide_eq_true (List.all_eq_true.mp bcE_4 (n - 3072) (List.mem_range.mpr (by omega)))
        rw [show n - 3072 + 3072 = n by omega] at this; exact this
end
section
/-! swings, wants, lawful sides: what both sides answer, told in the reference's cells -/
theorem CC_dt {d m : Nat} {args : List AV} {H H' : Hp} {r : AV} (h : ∀ Q : AV → Hp → Prop, Q r H' → CC d m args H Q) {Q : AV → Hp → Prop} : CC d m args H Q = Q r H' := CC_det (h _ ⟨rfl, rfl⟩)
def Inm (V : Hp) : Prop := Ptr V ∧ BoatM V ∧ CrewM V
theorem Inm.ptr {V : Hp} (h : Inm V) : Ptr V := h.1
theorem Inm.boat {V : Hp} (h : Inm V) : BoatM V := h.2.1
theorem Inm.crew {V : Hp} (h : Inm V) : CrewM V := h.2.2
theorem Inq.m {V : Hp} (h : Inq V) : Inm V := ⟨h.1, h.2.1, h.2.2.1⟩
def abL (x : Int) : Int := if x < 0 then w64 (-x) else x
def wnt (V : Hp) (q : Nat) : Bool := decide (V 100 (4 + q) = 1)
def gapA (V : Hp) (q b : Nat) (t : Int) : Int := abL (w64 (w64 (sww V q b t) - V 101 (4 + q)))
def offV (V : Hp) (b : Nat) (t : Int) : Int := w64 (sumI (fun q => if wnt V q = true then gapA V q b t else 0) 4)
def goodB (V : Hp) (b : Nat) (t : Int) : Bool := decide (∀ q : Nat, q < 4 → wnt V q = true → gapA V q b t ≤ V 99 1)
def lawB (V : Hp) (b : Nat) : Bool := decide ((eaV V = -1 ∨ (nS V : Int) - pop b = eaV V) ∧ ∀ k : Nat, k < nS V → V 94 (12 + k) ≠ 0 → (b.testBit k = decide (V 94 (12 + k) = 2)))
section SW
variable {d : Nat} {V H : Hp} {Q : AV → Hp → Prop}
theorem q_bitCount {n : Nat} (h : n < 4096) : CC d JK_bitCount [vi n] H Q = Q (vi (pop n)) H := by
  refine CC_dt fun Q hQ => ?_
  simp only [en_JK_bitCount, e_JK_bitCount_0, k_JK_bitCount_0, rr, sh, Nat.reduceLT, Nat.reduceMul, Int.reduceToNat, Int.reduceGT, Int.reduceGE, Int.reduceNe, true_and, and_true, true_or, or_true, false_or, or_false, and_self, or_self, if_true, if_false, reduceIte, not_true_eq_false, not_false_eq_true, Int.reduceEq, Int.reduceNe, Int.reduceLT, Int.reduceLE, Int.reduceAdd, Int.reduceSub, Int.reduceMul, Int.reduceNeg, Nat.reduceAdd, Nat.reduceLeDiff, Nat.reduceEqDiff, ne_eq, List.length_cons, List.length_nil, Nat.reduceSub, ite10_0, ite10_1, ite10_01]
  repeat (refine And.intro (by omega) ?_)
  rw [← bcE_ok h] at hQ
  exact hQ
theorem q_absL {x : Int} : CC d JK_absL [vl x] H Q = Q (vl (abL x)) H := by
  unfold abL
  simp only [en_JK_absL, e_JK_absL_0, k_JK_absL_0, e_JK_absL_1, k_JK_absL_1, e_JK_absL_2, k_JK_absL_2, rr, sh, Nat.reduceLT, Nat.reduceMul, Int.reduceToNat, Int.reduceGT, Int.reduceGE, Int.reduceNe, true_and, and_true, true_or, or_true, false_or, or_false, and_self, or_self, if_true, if_false, reduceIte, not_true_eq_false, not_false_eq_true, Int.reduceEq, Int.reduceNe, Int.reduceLT, Int.reduceLE, Int.reduceAdd, Int.reduceSub, Int.reduceMul, Int.reduceNeg, Nat.reduceAdd, Nat.reduceLeDiff, Nat.reduceEqDiff, ne_eq, List.length_cons, List.length_nil, Nat.reduceSub, ite10_0, ite10_1, ite10_01, c3_ge]
  split <;> split <;> first | rfl | omega
theorem q_size {x : Int} : CC d MO_size [vl x] H Q = Q (vl (abL x)) H := by
  unfold abL
  simp only [en_MO_size, e_MO_size_0, k_MO_size_0, e_MO_size_1, k_MO_size_1, e_MO_size_2, k_MO_size_2, rr, sh, Nat.reduceLT, Nat.reduceMul, Int.reduceToNat, Int.reduceGT, Int.reduceGE, Int.reduceNe, true_and, and_true, true_or, or_true, false_or, or_false, and_self, or_self, if_true, if_false, reduceIte, not_true_eq_false, not_false_eq_true, Int.reduceEq, Int.reduceNe, Int.reduceLT, Int.reduceLE, Int.reduceAdd, Int.reduceSub, Int.reduceMul, Int.reduceNeg, Nat.reduceAdd, Nat.reduceLeDiff, Nat.reduceEqDiff, ne_eq, List.length_cons, List.length_nil, Nat.reduceSub, ite10_0, ite10_1, ite10_01, c3_ge]
  split <;> split <;> first | rfl | omega
theorem q_isIn {x y z : Int} : CC d MO_isIn [vl x, vl y, vl z] H Q = Q (vi (if y ≤ x ∧ x ≤ z then 1 else 0)) H := by
  simp only [en_MO_isIn, e_MO_isIn_0, k_MO_isIn_0, e_MO_isIn_1, k_MO_isIn_1, e_MO_isIn_2, k_MO_isIn_2, rr, sh, Nat.reduceLT, Nat.reduceMul, Int.reduceToNat, Int.reduceGT, Int.reduceGE, Int.reduceNe, true_and, and_true, true_or, or_true, false_or, or_false, and_self, or_self, if_true, if_false, reduceIte, not_true_eq_false, not_false_eq_true, Int.reduceEq, Int.reduceNe, Int.reduceLT, Int.reduceLE, Int.reduceAdd, Int.reduceSub, Int.reduceMul, Int.reduceNeg, Nat.reduceAdd, Nat.reduceLeDiff, Nat.reduceEqDiff, ne_eq, List.length_cons, List.length_nil, Nat.reduceSub, ite10_0, ite10_1, ite10_01, c3_lt, c3_gt]
  split <;> (try split) <;> (try split) <;> first | rfl | omega
set_option maxRecDepth 20000 in
set_option maxHeartbeats 4000000 in
theorem q_strengthAtM (hM : Inm V) (hH : Vw V H) {r t : Int} (hr : 0 ≤ r ∧ r < nR V) (ht : 0 ≤ t) (ht2 : t ≤ 100000) : CC d MO_strengthAt [va 71, vi r, vi t] H Q = Q (vi (stg V r t)) H := by
  refine CC_dt fun Q hQ => ?_
  obtain ⟨k, rfl⟩ := Int.eq_ofNat_of_zero_le hr.1
  have hk : k < nR V := by omega
  have hn := hM.boat.r
  have b1 := hM.boat.str k hk
  have b2 := hM.boat.tire k hk
  have hm : 0 ≤ V 97 (12 + k) * (t / 10) ∧ V 97 (12 + k) * (t / 10) ≤ 9 * 10000 := ⟨Int.mul_nonneg b2.1 (by omega), Int.mul_le_mul b2.2 (by omega) (by omega) (by omega)⟩
  have w0 : w32 (12 + (k : Int)) = 12 + k := w32_id (by omega) (by omega)
  have w1 : w32 (t.tdiv 10) = t / 10 := by rw [tdiv_nn ht]; exact w32_id (by omega) (by omega)
  have w2 : w32 (V 97 (12 + k) * (t / 10)) = V 97 (12 + k) * (t / 10) := w32_id (by omega) (by omega)
  have w3 : w32 (V 96 (12 + k) - V 97 (12 + k) * (t / 10)) = V 96 (12 + k) - V 97 (12 + k) * (t / 10) := w32_id (by omega) (by omega)
  have e : stg V k t = if 0 ≤ V 96 (12 + k) - V 97 (12 + k) * (t / 10) then V 96 (12 + k) - V 97 (12 + k) * (t / 10) else 0 := by unfold stg; omega
  rw [e] at hQ
  have f := hH.f hM.ptr; simp only [en_MO_strengthAt, e_MO_strengthAt_0, k_MO_strengthAt_0, e_MO_strengthAt_1, k_MO_strengthAt_1, e_MO_strengthAt_2, k_MO_strengthAt_2, rr, sh, Nat.reduceLT, Nat.reduceMul, Int.reduceToNat, Int.reduceGT, Int.reduceGE, Int.reduceNe, true_and, and_true, true_or, or_true, false_or, or_false, and_self, or_self, if_true, if_false, reduceIte, not_true_eq_false, not_false_eq_true, Int.reduceEq, Int.reduceNe, Int.reduceLT, Int.reduceLE, Int.reduceAdd, Int.reduceSub, Int.reduceMul, Int.reduceNeg, Nat.reduceAdd, Nat.reduceLeDiff, Nat.reduceEqDiff, ne_eq, List.length_cons, List.length_nil, Nat.reduceSub, ite10_0, ite10_1, ite10_01, f, w0, w1, w2, w3] <;> clear f
  repeat (refine And.intro (by omega) ?_)
  split at hQ
  · rw [if_pos (by assumption)]; exact hQ
  · rw [if_neg (by assumption)]; exact hQ
theorem stg_rng (hM : Inm V) {r t : Int} (hr : 0 ≤ r ∧ r < nR V) (ht : 0 ≤ t) : 0 ≤ stg V r t ∧ stg V r t ≤ 99 := by
  obtain ⟨k, rfl⟩ := Int.eq_ofNat_of_zero_le hr.1
  have b1 := hM.boat.str k (by omega)
  have b2 := hM.boat.tire k (by omega)
  have hm : 0 ≤ V 97 (12 + k) * (t / 10) := Int.mul_nonneg b2.1 (by omega)
  unfold stg
  omega
theorem frc_rng (hM : Inm V) {k : Nat} {t : Int} (hk : k < 12) (ht : 0 ≤ t) : 0 ≤ frc V k t ∧ frc V k t ≤ 99 := by
  have hs := hM.crew.sits k hk
  unfold frc
  split
  · omega
  · exact stg_rng hM ⟨by omega, hs.2⟩ ht
set_option maxRecDepth 20000 in
set_option maxHeartbeats 4000000 in
theorem q_pullOf (hM : Inm V) (hH : Vw V H) {k : Nat} {t : Int} (hk : k < nS V) (ht : 0 ≤ t) (ht2 : t ≤ 100000) : CC (d + 1) MO_pullOf [va 71, vi k, vi t] H Q = Q (vi (frc V k t * V 93 (12 + k))) H := by
  refine CC_dt fun Q hQ => ?_
  have hn := hM.boat.s
  have hs := hM.crew.sits k (by omega)
  have b1 := hM.boat.arm k hk
  have w0 : w32 (12 + (k : Int)) = 12 + k := w32_id (by omega) (by omega)
  by_cases h : V 107 k = -1
  · have e : frc V k t = 0 := if_pos h
    rw [e, Int.zero_mul] at hQ
    have f := hH.f hM.ptr; simp only [en_MO_pullOf, e_MO_pullOf_0, k_MO_pullOf_0, e_MO_pullOf_1, k_MO_pullOf_1, e_MO_pullOf_2, k_MO_pullOf_2, rr, sh, Nat.reduceLT, Nat.reduceMul, Int.reduceToNat, Int.reduceGT, Int.reduceGE, Int.reduceNe, true_and, and_true, true_or, or_true, false_or, or_false, and_self, or_self, if_true, if_false, reduceIte, not_true_eq_false, not_false_eq_true, Int.reduceEq, Int.reduceNe, Int.reduceLT, Int.reduceLE, Int.reduceAdd, Int.reduceSub, Int.reduceMul, Int.reduceNeg, Nat.reduceAdd, Nat.reduceLeDiff, Nat.reduceEqDiff, ne_eq, List.length_cons, List.length_nil, Nat.reduceSub, ite10_0, ite10_1, ite10_01, f, h] <;> clear f
    repeat (refine And.intro (by omega) ?_)
    exact hQ
  · have e : frc V k t = stg V (V 107 k) t := if_neg h
    have b2 := frc_rng hM (show k < 12 by omega) ht
    have hm : 0 ≤ frc V k t * V 93 (12 + k) ∧ frc V k t * V 93 (12 + k) ≤ 99 * 99 := ⟨Int.mul_nonneg b2.1 (by omega), Int.mul_le_mul b2.2 b1.2 (by omega) (by omega)⟩
    have w2 : w32 (frc V k t * V 93 (12 + k)) = frc V k t * V 93 (12 + k) := w32_id (by omega) (by omega)
    rw [e] at w2 hQ
    have f := hH.f hM.ptr; simp only [en_MO_pullOf, e_MO_pullOf_0, k_MO_pullOf_0, e_MO_pullOf_1, k_MO_pullOf_1, e_MO_pullOf_2, k_MO_pullOf_2, rr, sh, Nat.reduceLT, Nat.reduceMul, Int.reduceToNat, Int.reduceGT, Int.reduceGE, Int.reduceNe, true_and, and_true, true_or, or_true, false_or, or_false, and_self, or_self, if_true, if_false, reduceIte, not_true_eq_false, not_false_eq_true, Int.reduceEq, Int.reduceNe, Int.reduceLT, Int.reduceLE, Int.reduceAdd, Int.reduceSub, Int.reduceMul, Int.reduceNeg, Nat.reduceAdd, Nat.reduceLeDiff, Nat.reduceEqDiff, ne_eq, List.length_cons, List.length_nil, Nat.reduceSub, ite10_0, ite10_1, ite10_01, f, h, q_strengthAtM hM hH (show 0 ≤ V 107 k ∧ V 107 k < nR V from ⟨by omega, hs.2⟩) ht ht2, w0, w2] <;> clear f
    repeat (refine And.intro (by omega) ?_)
    exact hQ
theorem q_raised {x : Int} {n : Nat} (hn : n < 100) : CC d MO_raised [vi x, vi n] H Q = Q (vl (w64 (x ^ n))) H := by
  refine CC_dt fun Q hQ => ?_
  simp only [en_MO_raised, e_MO_raised_0, k_MO_raised_0, rr, sh, Nat.reduceLT, Nat.reduceMul, Int.reduceToNat, Int.reduceGT, Int.reduceGE, Int.reduceNe, true_and, and_true, true_or, or_true, false_or, or_false, and_self, or_self, if_true, if_false, reduceIte, not_true_eq_false, not_false_eq_true, Int.reduceEq, Int.reduceNe, Int.reduceLT, Int.reduceLE, Int.reduceAdd, Int.reduceSub, Int.reduceMul, Int.reduceNeg, Nat.reduceAdd, Nat.reduceLeDiff, Nat.reduceEqDiff, ne_eq, List.length_cons, List.length_nil, Nat.reduceSub, ite10_0, ite10_1, ite10_01]
  repeat (refine And.intro (by omega) ?_)
  refine R_cg (up_nat (P := fun k => R d MO_raised (blk MO_raised 1) [vi x, vi n, vl (w64 (x ^ k)), vu, vi k] [] H Q) ?_ ?_ 0 (Nat.zero_le n)) (by rw [Int.pow_zero]; rfl) rfl
  · rw [e_MO_raised_1]
    simp only [k_MO_raised_1, en_MO_raised, e_MO_raised_0, k_MO_raised_0, e_MO_raised_2, k_MO_raised_2, rr, sh, Nat.reduceLT, Nat.reduceMul, Int.reduceToNat, Int.reduceGT, Int.reduceGE, Int.reduceNe, true_and, and_true, true_or, or_true, false_or, or_false, and_self, or_self, if_true, if_false, reduceIte, not_true_eq_false, not_false_eq_true, Int.reduceEq, Int.reduceNe, Int.reduceLT, Int.reduceLE, Int.reduceAdd, Int.reduceSub, Int.reduceMul, Int.reduceNeg, Nat.reduceAdd, Nat.reduceLeDiff, Nat.reduceEqDiff, ne_eq, List.length_cons, List.length_nil, Nat.reduceSub, ite10_0, ite10_1, ite10_01, Int.le_refl]
    exact hQ
  · intro k hk ih
    have c1 : ¬ (n : Int) ≤ k := by omega
    rw [e_MO_raised_1]
    simp only [k_MO_raised_1, en_MO_raised, e_MO_raised_0, k_MO_raised_0, e_MO_raised_2, k_MO_raised_2, rr, sh, Nat.reduceLT, Nat.reduceMul, Int.reduceToNat, Int.reduceGT, Int.reduceGE, Int.reduceNe, true_and, and_true, true_or, or_true, false_or, or_false, and_self, or_self, if_true, if_false, reduceIte, not_true_eq_false, not_false_eq_true, Int.reduceEq, Int.reduceNe, Int.reduceLT, Int.reduceLE, Int.reduceAdd, Int.reduceSub, Int.reduceMul, Int.reduceNeg, Nat.reduceAdd, Nat.reduceLeDiff, Nat.reduceEqDiff, ne_eq, List.length_cons, List.length_nil, Nat.reduceSub, ite10_0, ite10_1, ite10_01, c1, w32_s (show k < 2147483647 by omega), w64_ml]
    rw [Int.pow_succ] at ih
    exact ih
set_option maxRecDepth 20000 in
set_option maxHeartbeats 4000000 in
theorem q_swingBy (hM : Inm V) (hH : Vw V H) {q b : Nat} {t : Int} (hq : q < 4) (hb : b < 4096) (ht : 0 ≤ t) (ht2 : t ≤ 100000) : CC (d + 2) MO_swingBy [va 71, vi q, vi b, vi t] H Q = Q (vl (w64 (sww V q b t))) H := by
  refine CC_dt fun Q hQ => ?_
  have hn := hM.boat.s
  have f := hH.f hM.ptr; simp only [en_MO_swingBy, e_MO_swingBy_0, k_MO_swingBy_0, rr, sh, Nat.reduceLT, Nat.reduceMul, Int.reduceToNat, Int.reduceGT, Int.reduceGE, Int.reduceNe, true_and, and_true, true_or, or_true, false_or, or_false, and_self, or_self, if_true, if_false, reduceIte, not_true_eq_false, not_false_eq_true, Int.reduceEq, Int.reduceNe, Int.reduceLT, Int.reduceLE, Int.reduceAdd, Int.reduceSub, Int.reduceMul, Int.reduceNeg, Nat.reduceAdd, Nat.reduceLeDiff, Nat.reduceEqDiff, ne_eq, List.length_cons, List.length_nil, Nat.reduceSub, ite10_0, ite10_1, ite10_01, f] <;> clear f
  repeat (refine And.intro (by omega) ?_)
  refine up_nat (P := fun k => ∀ z, R (d + 2) MO_swingBy (blk MO_swingBy 1) [va 71, vi q, vi b, vi t, vl (w64 (sumI (fun k => sgn (b.testBit k) (frc V k t * lvr V q k)) k)), vu, vi k, z, vu] [] H Q) ?_ ?_ 0 (Nat.zero_le (nS V)) vu
  · intro z
    rw [e_MO_swingBy_1]
    have f := hH.f hM.ptr; simp only [k_MO_swingBy_1, en_MO_swingBy, e_MO_swingBy_0, k_MO_swingBy_0, e_MO_swingBy_2, k_MO_swingBy_2, e_MO_swingBy_3, k_MO_swingBy_3, e_MO_swingBy_4, k_MO_swingBy_4, en_MO_seats, e_MO_seats_0, k_MO_seats_0, rr, sh, Nat.reduceLT, Nat.reduceMul, Int.reduceToNat, Int.reduceGT, Int.reduceGE, Int.reduceNe, true_and, and_true, true_or, or_true, false_or, or_false, and_self, or_self, if_true, if_false, reduceIte, not_true_eq_false, not_false_eq_true, Int.reduceEq, Int.reduceNe, Int.reduceLT, Int.reduceLE, Int.reduceAdd, Int.reduceSub, Int.reduceMul, Int.reduceNeg, Nat.reduceAdd, Nat.reduceLeDiff, Nat.reduceEqDiff, ne_eq, List.length_cons, List.length_nil, Nat.reduceSub, ite10_0, ite10_1, ite10_01, f, hn.1, Int.le_refl] <;> clear f
    exact hQ
  · intro k hk ih z
    have c1 : ¬ (nS V : Int) ≤ k := by omega
    have w0 : w32 (12 + (k : Int)) = 12 + k := w32_id (by omega) (by omega)
    have e0 : frc V k t * lvr V q k = frc V k t * V 93 (12 + k) * V 92 (12 + k) ^ q := by unfold lvr; rw [Int.mul_assoc]
    rw [e_MO_swingBy_1]
    have f := hH.f hM.ptr; simp only [k_MO_swingBy_1, en_MO_swingBy, e_MO_swingBy_0, k_MO_swingBy_0, e_MO_swingBy_2, k_MO_swingBy_2, e_MO_swingBy_3, k_MO_swingBy_3, e_MO_swingBy_4, k_MO_swingBy_4, en_MO_seats, e_MO_seats_0, k_MO_seats_0, rr, sh, Nat.reduceLT, Nat.reduceMul, Int.reduceToNat, Int.reduceGT, Int.reduceGE, Int.reduceNe, true_and, and_true, true_or, or_true, false_or, or_false, and_self, or_self, if_true, if_false, reduceIte, not_true_eq_false, not_false_eq_true, Int.reduceEq, Int.reduceNe, Int.reduceLT, Int.reduceLE, Int.reduceAdd, Int.reduceSub, Int.reduceMul, Int.reduceNeg, Nat.reduceAdd, Nat.reduceLeDiff, Nat.reduceEqDiff, ne_eq, List.length_cons, List.length_nil, Nat.reduceSub, ite10_0, ite10_1, ite10_01, f, hn.1, c1, q_pullOf hM hH hk ht ht2, q_raised (show q < 100 by omega), b_bit (show b < 2147483648 by omega) (show k < 32 by omega), w0, w32_s (show k < 2147483647 by omega)] <;> clear f
    repeat (refine And.intro (by omega) ?_)
    have e1 : w64 (frc V k t * V 93 (12 + k) * w64 (V 92 (12 + k) ^ q)) = w64 (frc V k t * lvr V q k) := by rw [w64_mr, e0]
    have e2 : w64 (w64 (sumI (fun k => sgn (b.testBit k) (frc V k t * lvr V q k)) k) + (if b.testBit k = true then w64 (frc V k t * lvr V q k) else w64 (-w64 (frc V k t * lvr V q k)))) = w64 (sumI (fun k => sgn (b.testBit k) (frc V k t * lvr V q k)) (k + 1)) := by
      show _ = w64 (_ + sgn _ _)
      unfold sgn
      by_cases hb : b.testBit k = true
      · simp only [hb, if_true, w64_al, w64_ar]
      · simp only [hb, if_false, w64_al, w64_ar, w64_neg, Bool.false_eq_true]
    rw [e1]
    by_cases hb : b.testBit k = true
    · rw [if_pos hb] at e2
      rw [if_neg (fun h => h hb), e2]
      exact ih _
    · rw [if_neg hb] at e2
      rw [if_pos hb, e2]
      exact ih _
set_option maxRecDepth 20000 in
set_option maxHeartbeats 4000000 in
theorem q_offBy (hM : Inm V) (hH : Vw V H) {b : Nat} (hb : b < 4096) : CC (d + 3) MO_offBy [va 71, vi b] H Q = Q (vl (offV V b (V 71 47))) H := by
  refine CC_dt fun Q hQ => ?_
  have ht := hM.crew.stroke
  have f := hH.f hM.ptr; simp only [en_MO_offBy, e_MO_offBy_0, k_MO_offBy_0, rr, sh, Nat.reduceLT, Nat.reduceMul, Int.reduceToNat, Int.reduceGT, Int.reduceGE, Int.reduceNe, true_and, and_true, true_or, or_true, false_or, or_false, and_self, or_self, if_true, if_false, reduceIte, not_true_eq_false, not_false_eq_true, Int.reduceEq, Int.reduceNe, Int.reduceLT, Int.reduceLE, Int.reduceAdd, Int.reduceSub, Int.reduceMul, Int.reduceNeg, Nat.reduceAdd, Nat.reduceLeDiff, Nat.reduceEqDiff, ne_eq, List.length_cons, List.length_nil, Nat.reduceSub, ite10_0, ite10_1, ite10_01, f] <;> clear f
  repeat (refine And.intro (by omega) ?_)
  refine up_nat (P := fun k => R (d + 3) MO_offBy (blk MO_offBy 1) [va 71, vi b, vl (w64 (sumI (fun q => if wnt V q = true then gapA V q b (V 71 47) else 0) k)), vu, vi k] [] H Q) ?_ ?_ 0 (Nat.zero_le 4)
  · rw [e_MO_offBy_1]
    have f := hH.f hM.ptr; simp only [k_MO_offBy_1, en_MO_offBy, e_MO_offBy_0, k_MO_offBy_0, e_MO_offBy_2, k_MO_offBy_2, e_MO_offBy_3, k_MO_offBy_3, rr, sh, Nat.reduceLT, Nat.reduceMul, Int.reduceToNat, Int.reduceGT, Int.reduceGE, Int.reduceNe, true_and, and_true, true_or, or_true, false_or, or_false, and_self, or_self, if_true, if_false, reduceIte, not_true_eq_false, not_false_eq_true, Int.reduceEq, Int.reduceNe, Int.reduceLT, Int.reduceLE, Int.reduceAdd, Int.reduceSub, Int.reduceMul, Int.reduceNeg, Nat.reduceAdd, Nat.reduceLeDiff, Nat.reduceEqDiff, ne_eq, List.length_cons, List.length_nil, Nat.reduceSub, ite10_0, ite10_1, ite10_01, f, Int.le_refl] <;> clear f
    exact hQ
  · intro k hk ih
    have c1 : ¬ (4 : Int) ≤ k := by omega
    have w0 : w32 (4 + (k : Int)) = 4 + k := w32_id (by omega) (by omega)
    have hw := hM.boat.isw k hk
    rw [e_MO_offBy_1]
    have f := hH.f hM.ptr; simp only [k_MO_offBy_1, en_MO_offBy, e_MO_offBy_0, k_MO_offBy_0, e_MO_offBy_2, k_MO_offBy_2, e_MO_offBy_3, k_MO_offBy_3, en_MO_isWantedOf, e_MO_isWantedOf_0, k_MO_isWantedOf_0, e_MO_isWantedOf_1, k_MO_isWantedOf_1, e_MO_isWantedOf_2, k_MO_isWantedOf_2, rr, sh, Nat.reduceLT, Nat.reduceMul, Int.reduceToNat, Int.reduceGT, Int.reduceGE, Int.reduceNe, true_and, and_true, true_or, or_true, false_or, or_false, and_self, or_self, if_true, if_false, reduceIte, not_true_eq_false, not_false_eq_true, Int.reduceEq, Int.reduceNe, Int.reduceLT, Int.reduceLE, Int.reduceAdd, Int.reduceSub, Int.reduceMul, Int.reduceNeg, Nat.reduceAdd, Nat.reduceLeDiff, Nat.reduceEqDiff, ne_eq, List.length_cons, List.length_nil, Nat.reduceSub, ite10_0, ite10_1, ite10_01, f, c1, w0, q_swingBy hM hH hk hb ht.1 (Int.le_trans ht.2 (by decide)), q_size, w32_s (show k < 2147483647 by omega)] <;> clear f
    by_cases h : V 100 (4 + k) = 1
    · have e1 : wnt V k = true := decide_eq_true h
      rw [if_neg (fun q => q h)]
      repeat (refine And.intro (by omega) ?_)
      refine R_cg ih (congrArg (fun z => [va 71, vi (b : Int), vl z, vu, vi ((k + 1 : Nat) : Int)]) ?_) rfl
      show w64 (_ + gapA V k b (V 71 47)) = w64 (_ + (if wnt V k = true then gapA V k b (V 71 47) else 0))
      rw [if_pos e1, w64_al]
    · have e1 : ¬ wnt V k = true := fun q => h (of_decide_eq_true q)
      rw [if_pos h]
      repeat (refine And.intro (by omega) ?_)
      refine R_cg ih (congrArg (fun z => [va 71, vi (b : Int), vl z, vu, vi ((k + 1 : Nat) : Int)]) ?_) rfl
      show _ = w64 (_ + (if wnt V k = true then gapA V k b (V 71 47) else 0))
      rw [if_neg e1, Int.add_zero]
set_option maxRecDepth 20000 in
set_option maxHeartbeats 4000000 in
theorem q_isGoodM (hM : Inm V) (hH : Vw V H) {b : Nat} (hb : b < 4096) : CC (d + 3) MO_isGood [va 71, vi b] H Q = Q (vi (if goodB V b (V 71 47) = true then 1 else 0)) H := by
  refine CC_dt fun Q hQ => ?_
  have ht := hM.crew.stroke
  have f := hH.f hM.ptr; simp only [en_MO_isGood, e_MO_isGood_0, k_MO_isGood_0, rr, sh, Nat.reduceLT, Nat.reduceMul, Int.reduceToNat, Int.reduceGT, Int.reduceGE, Int.reduceNe, true_and, and_true, true_or, or_true, false_or, or_false, and_self, or_self, if_true, if_false, reduceIte, not_true_eq_false, not_false_eq_true, Int.reduceEq, Int.reduceNe, Int.reduceLT, Int.reduceLE, Int.reduceAdd, Int.reduceSub, Int.reduceMul, Int.reduceNeg, Nat.reduceAdd, Nat.reduceLeDiff, Nat.reduceEqDiff, ne_eq, List.length_cons, List.length_nil, Nat.reduceSub, ite10_0, ite10_1, ite10_01, f] <;> clear f
  repeat (refine And.intro (by omega) ?_)
  refine up_nat (P := fun k => (∀ q : Nat, q < k → wnt V q = true → gapA V q b (V 71 47) ≤ V 99 1) → R (d + 3) MO_isGood (blk MO_isGood 1) [va 71, vi b, vi k] [] H Q) ?_ ?_ 0 (Nat.zero_le 4) (fun q hq => absurd hq (Nat.not_lt_zero q))
  · intro hg
    rw [if_pos (show goodB V b (V 71 47) = true from decide_eq_true hg)] at hQ
    rw [e_MO_isGood_1]
    have f := hH.f hM.ptr; simp only [k_MO_isGood_1, en_MO_isGood, e_MO_isGood_0, k_MO_isGood_0, e_MO_isGood_2, k_MO_isGood_2, e_MO_isGood_3, k_MO_isGood_3, rr, sh, Nat.reduceLT, Nat.reduceMul, Int.reduceToNat, Int.reduceGT, Int.reduceGE, Int.reduceNe, true_and, and_true, true_or, or_true, false_or, or_false, and_self, or_self, if_true, if_false, reduceIte, not_true_eq_false, not_false_eq_true, Int.reduceEq, Int.reduceNe, Int.reduceLT, Int.reduceLE, Int.reduceAdd, Int.reduceSub, Int.reduceMul, Int.reduceNeg, Nat.reduceAdd, Nat.reduceLeDiff, Nat.reduceEqDiff, ne_eq, List.length_cons, List.length_nil, Nat.reduceSub, ite10_0, ite10_1, ite10_01, f, Int.le_refl] <;> clear f
    exact hQ
  · intro k hk ih hg
    have c1 : ¬ (4 : Int) ≤ k := by omega
    have w0 : w32 (4 + (k : Int)) = 4 + k := w32_id (by omega) (by omega)
    rw [e_MO_isGood_1]
    have f := hH.f hM.ptr; simp only [k_MO_isGood_1, en_MO_isGood, e_MO_isGood_0, k_MO_isGood_0, e_MO_isGood_2, k_MO_isGood_2, e_MO_isGood_3, k_MO_isGood_3, en_MO_isWantedOf, e_MO_isWantedOf_0, k_MO_isWantedOf_0, e_MO_isWantedOf_1, k_MO_isWantedOf_1, e_MO_isWantedOf_2, k_MO_isWantedOf_2, en_MO_near, e_MO_near_0, k_MO_near_0, rr, sh, Nat.reduceLT, Nat.reduceMul, Int.reduceToNat, Int.reduceGT, Int.reduceGE, Int.reduceNe, true_and, and_true, true_or, or_true, false_or, or_false, and_self, or_self, if_true, if_false, reduceIte, not_true_eq_false, not_false_eq_true, Int.reduceEq, Int.reduceNe, Int.reduceLT, Int.reduceLE, Int.reduceAdd, Int.reduceSub, Int.reduceMul, Int.reduceNeg, Nat.reduceAdd, Nat.reduceLeDiff, Nat.reduceEqDiff, ne_eq, List.length_cons, List.length_nil, Nat.reduceSub, ite10_0, ite10_1, ite10_01, f, c1, w0, q_swingBy hM hH hk hb ht.1 (Int.le_trans ht.2 (by decide)), q_size, c3_le, w32_s (show k < 2147483647 by omega)] <;> clear f
    by_cases h : V 100 (4 + k) = 1
    · have e1 : wnt V k = true := decide_eq_true h
      rw [if_neg (fun q => q h)]
      repeat (refine And.intro (by omega) ?_)
      show if gapA V k b (V 71 47) ≤ V 99 1 then _ else _
      by_cases hc : gapA V k b (V 71 47) ≤ V 99 1
      · rw [if_pos hc]
        exact ih (fun q hq => by rcases Nat.lt_or_ge q k with h1 | h1; exact hg q h1; rw [show q = k by omega]; exact fun _ => hc)
      · rw [if_neg hc]
        rw [if_neg (show ¬ goodB V b (V 71 47) = true from fun q => hc (of_decide_eq_true q k hk e1))] at hQ
        exact hQ
    · have e1 : ¬ wnt V k = true := fun q => h (of_decide_eq_true q)
      rw [if_pos h]
      repeat (refine And.intro (by omega) ?_)
      exact ih (fun q hq => by rcases Nat.lt_or_ge q k with h1 | h1; exact hg q h1; rw [show q = k by omega]; exact fun h => absurd h e1)
theorem bits_lt {n m : Nat} (h : n ≤ 12) (hm : m < 2 ^ n) : m < 4096 := Nat.lt_of_lt_of_le hm (Nat.pow_le_pow_right (by decide) h : 2 ^ n ≤ 2 ^ 12)
theorem q_bits {n : Nat} (hn : n < 4096) : CC d MO_bits [vi n] H Q = Q (vi (pop n)) H := by
  refine CC_dt fun Q hQ => ?_
  simp only [en_MO_bits, e_MO_bits_0, k_MO_bits_0, rr, sh, Nat.reduceLT, Nat.reduceMul, Int.reduceToNat, Int.reduceGT, Int.reduceGE, Int.reduceNe, true_and, and_true, true_or, or_true, false_or, or_false, and_self, or_self, if_true, if_false, reduceIte, not_true_eq_false, not_false_eq_true, Int.reduceEq, Int.reduceNe, Int.reduceLT, Int.reduceLE, Int.reduceAdd, Int.reduceSub, Int.reduceMul, Int.reduceNeg, Nat.reduceAdd, Nat.reduceLeDiff, Nat.reduceEqDiff, ne_eq, List.length_cons, List.length_nil, Nat.reduceSub, ite10_0, ite10_1, ite10_01]
  repeat (refine And.intro (by omega) ?_)
  have key : ∀ m : Nat, ∀ s : Nat, s ≤ m → s < 4096 → R d MO_bits (blk MO_bits 1) [vi n, vi (pop n - pop s), vi s] [] H Q := by
    intro m
    induction m with
    | zero =>
      intro s hs _
      have : s = 0 := by omega
      subst this
      rw [e_MO_bits_1]
      simp only [k_MO_bits_1, en_MO_bits, e_MO_bits_0, k_MO_bits_0, e_MO_bits_2, k_MO_bits_2, rr, sh, Nat.reduceLT, Nat.reduceMul, Int.reduceToNat, Int.reduceGT, Int.reduceGE, Int.reduceNe, true_and, and_true, true_or, or_true, false_or, or_false, and_self, or_self, if_true, if_false, reduceIte, not_true_eq_false, not_false_eq_true, Int.reduceEq, Int.reduceNe, Int.reduceLT, Int.reduceLE, Int.reduceAdd, Int.reduceSub, Int.reduceMul, Int.reduceNeg, Nat.reduceAdd, Nat.reduceLeDiff, Nat.reduceEqDiff, ne_eq, List.length_cons, List.length_nil, Nat.reduceSub, ite10_0, ite10_1, ite10_01]
      rw [show pop n - pop 0 = pop n from by rw [show pop 0 = 0 from rfl, Int.sub_zero]]
      exact hQ
    | succ m ih =>
      intro s hs h4
      by_cases h0 : s = 0
      · exact ih s (by omega) h4
      · have hst := List.all_eq_true.mp pop_step s (List.mem_range.mpr h4)
        simp only [h0, Bool.or_eq_true, decide_eq_true_eq, false_or] at hst
        have c1 : ¬ (s : Int) = 0 := by omega
        have hp := pop_lt (n := n)
        have hp2 := pop_lt (n := s)
        have hp3 := pop_lt (n := s &&& (s - 1))
        have w1 : w32 (pop n - pop s + 1) = pop n - pop (s &&& (s - 1)) := by rw [w32_id (by omega) (by omega)]; omega
        have w2 : w32 ((s : Int) - 1) = ((s - 1 : Nat) : Int) := by rw [w32_id (by omega) (by omega)]; omega
        have ih := ih (s &&& (s - 1)) (by omega) (by omega)
        rw [e_MO_bits_1]
        simp only [k_MO_bits_1, en_MO_bits, e_MO_bits_0, k_MO_bits_0, e_MO_bits_2, k_MO_bits_2, rr, sh, Nat.reduceLT, Nat.reduceMul, Int.reduceToNat, Int.reduceGT, Int.reduceGE, Int.reduceNe, true_and, and_true, true_or, or_true, false_or, or_false, and_self, or_self, if_true, if_false, reduceIte, not_true_eq_false, not_false_eq_true, Int.reduceEq, Int.reduceNe, Int.reduceLT, Int.reduceLE, Int.reduceAdd, Int.reduceSub, Int.reduceMul, Int.reduceNeg, Nat.reduceAdd, Nat.reduceLeDiff, Nat.reduceEqDiff, ne_eq, List.length_cons, List.length_nil, Nat.reduceSub, ite10_0, ite10_1, ite10_01, c1, w1, w2, b_and_nat (show s < 2147483648 by omega) (show s - 1 < 2147483648 by omega)]
        repeat (refine And.intro (by omega) ?_)
        exact ih
  have := key n n (Nat.le_refl n) hn
  rw [Int.sub_self] at this
  exact this
set_option maxRecDepth 20000 in
set_option maxHeartbeats 4000000 in
theorem q_isLawful (hM : Inm V) (hH : Vw V H) {b : Nat} (hb : b < 4096) : CC (d + 2) MO_isLawful [va 71, vi b] H Q = Q (vi (if lawB V b = true then 1 else 0)) H := by
  refine CC_dt fun Q hQ => ?_
  have hn := hM.boat.s
  have hp := pop_lt (n := b)
  have w1 : w32 ((nS V : Int) - pop b) = nS V - pop b := w32_id (by omega) (by omega)
  have loop : (eaV V = -1 ∨ (nS V : Int) - pop b = eaV V) → R (d + 2) MO_isLawful (blk MO_isLawful 2) [va 71, vi b, vi 0] [] H Q := by
    intro hea
    refine up_nat (P := fun k => (∀ j : Nat, j < k → V 94 (12 + j) ≠ 0 → (b.testBit j = decide (V 94 (12 + j) = 2))) → R (d + 2) MO_isLawful (blk MO_isLawful 2) [va 71, vi b, vi k] [] H Q) ?_ ?_ 0 (Nat.zero_le (nS V)) (fun q hq => absurd hq (Nat.not_lt_zero q))
    · intro hg
      rw [if_pos (show lawB V b = true from decide_eq_true ⟨hea, hg⟩)] at hQ
      rw [e_MO_isLawful_2]
      have f := hH.f hM.ptr; simp only [k_MO_isLawful_2, en_MO_isLawful, e_MO_isLawful_0, k_MO_isLawful_0, e_MO_isLawful_1, k_MO_isLawful_1, e_MO_isLawful_3, k_MO_isLawful_3, e_MO_isLawful_4, k_MO_isLawful_4, en_MO_seats, e_MO_seats_0, k_MO_seats_0, rr, sh, Nat.reduceLT, Nat.reduceMul, Int.reduceToNat, Int.reduceGT, Int.reduceGE, Int.reduceNe, true_and, and_true, true_or, or_true, false_or, or_false, and_self, or_self, if_true, if_false, reduceIte, not_true_eq_false, not_false_eq_true, Int.reduceEq, Int.reduceNe, Int.reduceLT, Int.reduceLE, Int.reduceAdd, Int.reduceSub, Int.reduceMul, Int.reduceNeg, Nat.reduceAdd, Nat.reduceLeDiff, Nat.reduceEqDiff, ne_eq, List.length_cons, List.length_nil, Nat.reduceSub, ite10_0, ite10_1, ite10_01, f, hn.1, Int.le_refl] <;> clear f
      exact hQ
    · intro k hk ih hg
      have c1 : ¬ (nS V : Int) ≤ k := by omega
      have w0 : w32 (12 + (k : Int)) = 12 + k := w32_id (by omega) (by omega)
      have hf := hM.boat.fix k hk
      have w2 : w32 (V 94 (12 + k) - 1) = V 94 (12 + k) - 1 := w32_id (by omega) (by omega)
      rw [e_MO_isLawful_2]
      have f := hH.f hM.ptr; simp only [k_MO_isLawful_2, en_MO_isLawful, e_MO_isLawful_0, k_MO_isLawful_0, e_MO_isLawful_1, k_MO_isLawful_1, e_MO_isLawful_3, k_MO_isLawful_3, e_MO_isLawful_4, k_MO_isLawful_4, en_MO_seats, e_MO_seats_0, k_MO_seats_0, en_MO_isFixed, e_MO_isFixed_0, k_MO_isFixed_0, e_MO_isFixed_1, k_MO_isFixed_1, e_MO_isFixed_2, k_MO_isFixed_2, rr, sh, Nat.reduceLT, Nat.reduceMul, Int.reduceToNat, Int.reduceGT, Int.reduceGE, Int.reduceNe, true_and, and_true, true_or, or_true, false_or, or_false, and_self, or_self, if_true, if_false, reduceIte, not_true_eq_false, not_false_eq_true, Int.reduceEq, Int.reduceNe, Int.reduceLT, Int.reduceLE, Int.reduceAdd, Int.reduceSub, Int.reduceMul, Int.reduceNeg, Nat.reduceAdd, Nat.reduceLeDiff, Nat.reduceEqDiff, ne_eq, List.length_cons, List.length_nil, Nat.reduceSub, ite10_0, ite10_1, ite10_01, f, hn.1, c1, w0, w2, b_bit (show b < 2147483648 by omega) (show k < 32 by omega), w32_s (show k < 2147483647 by omega)] <;> clear f
      repeat (refine And.intro (by omega) ?_)
      by_cases h0 : V 94 (12 + k) = 0
      · rw [if_pos h0]
        repeat (refine And.intro (by omega) ?_)
        exact ih (fun q hq => by rcases Nat.lt_or_ge q k with h1 | h1; exact hg q h1; rw [show q = k by omega]; exact fun h => absurd h0 h)
      · rw [if_neg h0]
        by_cases hb1 : b.testBit k = decide (V 94 (12 + k) = 2)
        · have c2 : (if b.testBit k = true then (1 : Int) else 0) = V 94 (12 + k) - 1 := by
            rw [hb1]
            by_cases h2 : V 94 (12 + k) = 2
            · simp [h2]
            · simp [h2]; omega
          rw [c2]
          repeat (refine And.intro (by omega) ?_)
          rw [if_pos rfl]
          repeat (refine And.intro (by omega) ?_)
          exact ih (fun q hq => by rcases Nat.lt_or_ge q k with h1 | h1; exact hg q h1; rw [show q = k by omega]; exact fun _ => hb1)
        · have c2 : ¬ (if b.testBit k = true then (1 : Int) else 0) = V 94 (12 + k) - 1 := by
            intro h
            apply hb1
            by_cases h2 : V 94 (12 + k) = 2
            · simp [h2] at h ⊢; exact h
            · have : V 94 (12 + k) = 1 := by omega
              simp [this] at h ⊢; exact h
          repeat (refine And.intro (by omega) ?_)
          rw [if_neg c2]
          rw [if_neg (show ¬ lawB V b = true from fun q => hb1 ((of_decide_eq_true q).2 k hk h0))] at hQ
          exact hQ
  have hea : eaV V = if V 71 46 = 0 then -1 else V 98 1 := rfl
  have f := hH.f hM.ptr; simp only [en_MO_isLawful, e_MO_isLawful_0, k_MO_isLawful_0, e_MO_isLawful_1, k_MO_isLawful_1, e_MO_isLawful_3, k_MO_isLawful_3, e_MO_isLawful_4, k_MO_isLawful_4, en_MO_each, e_MO_each_0, k_MO_each_0, e_MO_each_1, k_MO_each_1, e_MO_each_2, k_MO_each_2, en_MO_seats, e_MO_seats_0, k_MO_seats_0, rr, sh, Nat.reduceLT, Nat.reduceMul, Int.reduceToNat, Int.reduceGT, Int.reduceGE, Int.reduceNe, true_and, and_true, true_or, or_true, false_or, or_false, and_self, or_self, if_true, if_false, reduceIte, not_true_eq_false, not_false_eq_true, Int.reduceEq, Int.reduceNe, Int.reduceLT, Int.reduceLE, Int.reduceAdd, Int.reduceSub, Int.reduceMul, Int.reduceNeg, Nat.reduceAdd, Nat.reduceLeDiff, Nat.reduceEqDiff, ne_eq, List.length_cons, List.length_nil, Nat.reduceSub, ite10_0, ite10_1, ite10_01, f, hn.1, q_bits hb, w1] <;> clear f
  by_cases h0 : V 71 46 = 0
  · rw [if_pos h0] at hea
    simp only [h0, if_true]
    repeat (refine And.intro (by omega) ?_)
    exact loop (Or.inl hea)
  · rw [if_neg h0] at hea
    simp only [h0, if_false]
    repeat (refine And.intro (by omega) ?_)
    rw [← hea]
    by_cases h1 : eaV V = -1
    · rw [if_pos h1]
      repeat (refine And.intro (by omega) ?_)
      exact loop (Or.inl h1)
    · rw [if_neg h1]
      repeat (refine And.intro (by omega) ?_)
      by_cases h2 : (nS V : Int) - pop b = eaV V
      · rw [if_pos h2]
        repeat (refine And.intro (by omega) ?_)
        exact loop (Or.inr h2)
      · rw [if_neg h2]
        rw [if_neg (show ¬ lawB V b = true from fun q => by rcases (of_decide_eq_true q).1 with h | h; exact h1 h; exact h2 h)] at hQ
        exact hQ
end SW
end
