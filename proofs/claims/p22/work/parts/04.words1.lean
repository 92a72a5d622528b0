theorem wm_0 : Cond.selects "IceTunes$Pond" ⟨"IceTunes$Pond", "clear", "()V"⟩ ⟨"IceTunes$Pond", "clear", "()V"⟩ ∈ wt := wt_of 0 (by decide +kernel) (by decide +kernel)
theorem wm_1 : Cond.selects "IceTunes$History" ⟨"IceTunes$History", "now", "()LIceTunes$Evening;"⟩ ⟨"IceTunes$History", "now", "()LIceTunes$Evening;"⟩ ∈ wt := wt_of 1 (by decide +kernel) (by decide +kernel)
theorem wm_2 : Cond.selects "IceTunes$Evening" ⟨"IceTunes$Evening", "begin", "(LIceTunes$Pond;)V"⟩ ⟨"IceTunes$Evening", "begin", "(LIceTunes$Pond;)V"⟩ ∈ wt := wt_of 2 (by decide +kernel) (by decide +kernel)
theorem wm_3 : Cond.selects "IceTunes$Pond" ⟨"IceTunes$Pond", "iceAtFirst", "(I)I"⟩ ⟨"IceTunes$Pond", "iceAtFirst", "(I)I"⟩ ∈ wt := wt_of 3 (by decide +kernel) (by decide +kernel)
theorem wm_4 : Cond.selects "IceTunes" ⟨"IceTunes", "tapeNumber", "(I)V"⟩ ⟨"IceTunes", "tapeNumber", "(I)V"⟩ ∈ wt := wt_of 4 (by decide +kernel) (by decide +kernel)
theorem wm_5 : Cond.selects "IceTunes$Reader" ⟨"IceTunes$Reader", "read", "([BILIceTunes$Pond;)Z"⟩ ⟨"IceTunes$Reader", "read", "([BILIceTunes$Pond;)Z"⟩ ∈ wt := wt_of 5 (by decide +kernel) (by decide +kernel)
theorem wm_6 : Cond.selects "IceTunes$Tokens" ⟨"IceTunes$Tokens", "begin", "([BI)V"⟩ ⟨"IceTunes$Tokens", "begin", "([BI)V"⟩ ∈ wt := wt_of 6 (by decide +kernel) (by decide +kernel)
theorem wm_7 : Cond.selects "IceTunes$Tokens" ⟨"IceTunes$Tokens", "next", "()V"⟩ ⟨"IceTunes$Tokens", "next", "()V"⟩ ∈ wt := wt_of 7 (by decide +kernel) (by decide +kernel)
theorem wm_8 : Cond.selects "IceTunes$Tokens" ⟨"IceTunes$Tokens", "isLetter", "(I)Z"⟩ ⟨"IceTunes$Tokens", "isLetter", "(I)Z"⟩ ∈ wt := wt_of 8 (by decide +kernel) (by decide +kernel)
theorem wm_9 : Cond.selects "IceTunes$Tokens" ⟨"IceTunes$Tokens", "takeWord", "()V"⟩ ⟨"IceTunes$Tokens", "takeWord", "()V"⟩ ∈ wt := wt_of 9 (by decide +kernel) (by decide +kernel)
theorem wm_10 : Cond.selects "IceTunes$Tokens" ⟨"IceTunes$Tokens", "kindOfWord", "()I"⟩ ⟨"IceTunes$Tokens", "kindOfWord", "()I"⟩ ∈ wt := wt_of 10 (by decide +kernel) (by decide +kernel)
theorem wm_11 : Cond.selects "IceTunes$Tokens" ⟨"IceTunes$Tokens", "isDigit", "(I)Z"⟩ ⟨"IceTunes$Tokens", "isDigit", "(I)Z"⟩ ∈ wt := wt_of 11 (by decide +kernel) (by decide +kernel)
theorem wm_12 : Cond.selects "IceTunes$Tokens" ⟨"IceTunes$Tokens", "takeNumber", "()V"⟩ ⟨"IceTunes$Tokens", "takeNumber", "()V"⟩ ∈ wt := wt_of 12 (by decide +kernel) (by decide +kernel)
theorem wm_13 : Cond.selects "IceTunes$Reader" ⟨"IceTunes$Reader", "mayStand", "(I)Z"⟩ ⟨"IceTunes$Reader", "mayStand", "(I)Z"⟩ ∈ wt := wt_of 13 (by decide +kernel) (by decide +kernel)
theorem wm_14 : Cond.selects "IceTunes$Reader" ⟨"IceTunes$Reader", "fail", "(I)Z"⟩ ⟨"IceTunes$Reader", "fail", "(I)Z"⟩ ∈ wt := wt_of 14 (by decide +kernel) (by decide +kernel)
theorem wm_15 : Cond.selects "IceTunes$Reader" ⟨"IceTunes$Reader", "readSize", "()Z"⟩ ⟨"IceTunes$Reader", "readSize", "()Z"⟩ ∈ wt := wt_of 15 (by decide +kernel) (by decide +kernel)
theorem wm_16 : Cond.selects "IceTunes$Reader" ⟨"IceTunes$Reader", "takeNumber", "(II)Z"⟩ ⟨"IceTunes$Reader", "takeNumber", "(II)Z"⟩ ∈ wt := wt_of 16 (by decide +kernel) (by decide +kernel)
theorem wm_17 : Cond.selects "IceTunes$Reader" ⟨"IceTunes$Reader", "take", "(I)Z"⟩ ⟨"IceTunes$Reader", "take", "(I)Z"⟩ ∈ wt := wt_of 17 (by decide +kernel) (by decide +kernel)
theorem wm_18 : Cond.selects "IceTunes$Reader" ⟨"IceTunes$Reader", "readAllIce", "()Z"⟩ ⟨"IceTunes$Reader", "readAllIce", "()Z"⟩ ∈ wt := wt_of 18 (by decide +kernel) (by decide +kernel)
theorem wm_19 : Cond.selects "IceTunes$Reader" ⟨"IceTunes$Reader", "readCell", "()Z"⟩ ⟨"IceTunes$Reader", "readCell", "()Z"⟩ ∈ wt := wt_of 19 (by decide +kernel) (by decide +kernel)
theorem wm_20 : Cond.selects "IceTunes$Reader" ⟨"IceTunes$Reader", "takePlace", "(I)Z"⟩ ⟨"IceTunes$Reader", "takePlace", "(I)Z"⟩ ∈ wt := wt_of 20 (by decide +kernel) (by decide +kernel)
theorem wm_21 : Cond.selects "IceTunes$Pond" ⟨"IceTunes$Pond", "hasCell", "(II)Z"⟩ ⟨"IceTunes$Pond", "hasCell", "(II)Z"⟩ ∈ wt := wt_of 21 (by decide +kernel) (by decide +kernel)
theorem wm_22 : Cond.selects "IceTunes$Reader" ⟨"IceTunes$Reader", "isToldAlready", "(II)Z"⟩ ⟨"IceTunes$Reader", "isToldAlready", "(II)Z"⟩ ∈ wt := wt_of 22 (by decide +kernel) (by decide +kernel)
theorem wm_23 : Cond.selects "IceTunes$Reader" ⟨"IceTunes$Reader", "readPlank", "()Z"⟩ ⟨"IceTunes$Reader", "readPlank", "()Z"⟩ ∈ wt := wt_of 23 (by decide +kernel) (by decide +kernel)
theorem wm_24 : Cond.selects "IceTunes$Reader" ⟨"IceTunes$Reader", "readTune", "()Z"⟩ ⟨"IceTunes$Reader", "readTune", "()Z"⟩ ∈ wt := wt_of 24 (by decide +kernel) (by decide +kernel)
theorem wm_25 : Cond.selects "IceTunes$Reader" ⟨"IceTunes$Reader", "takeName", "(II)Z"⟩ ⟨"IceTunes$Reader", "takeName", "(II)Z"⟩ ∈ wt := wt_of 25 (by decide +kernel) (by decide +kernel)
theorem wm_26 : Cond.selects "IceTunes$Tokens" ⟨"IceTunes$Tokens", "isSameWord", "(II)Z"⟩ ⟨"IceTunes$Tokens", "isSameWord", "(II)Z"⟩ ∈ wt := wt_of 26 (by decide +kernel) (by decide +kernel)
theorem wm_27 : Cond.selects "IceTunes$Reader" ⟨"IceTunes$Reader", "readFormula", "(I)Z"⟩ ⟨"IceTunes$Reader", "readFormula", "(I)Z"⟩ ∈ wt := wt_of 27 (by decide +kernel) (by decide +kernel)
theorem wm_28 : Cond.selects "IceTunes$Reader" ⟨"IceTunes$Reader", "readBoth", "(I)Z"⟩ ⟨"IceTunes$Reader", "readBoth", "(I)Z"⟩ ∈ wt := wt_of 28 (by decide +kernel) (by decide +kernel)
theorem wm_29 : Cond.selects "IceTunes$Reader" ⟨"IceTunes$Reader", "readOne", "(I)Z"⟩ ⟨"IceTunes$Reader", "readOne", "(I)Z"⟩ ∈ wt := wt_of 29 (by decide +kernel) (by decide +kernel)
theorem wm_30 : Cond.selects "IceTunes$Reader" ⟨"IceTunes$Reader", "putCode", "(I)V"⟩ ⟨"IceTunes$Reader", "putCode", "(I)V"⟩ ∈ wt := wt_of 30 (by decide +kernel) (by decide +kernel)
theorem wm_31 : Cond.selects "IceTunes$Reader" ⟨"IceTunes$Reader", "readSum", "(I)Z"⟩ ⟨"IceTunes$Reader", "readSum", "(I)Z"⟩ ∈ wt := wt_of 31 (by decide +kernel) (by decide +kernel)
theorem wm_32 : Cond.selects "IceTunes$Reader" ⟨"IceTunes$Reader", "readTerm", "(I)Z"⟩ ⟨"IceTunes$Reader", "readTerm", "(I)Z"⟩ ∈ wt := wt_of 32 (by decide +kernel) (by decide +kernel)
theorem wm_33 : Cond.selects "IceTunes$Reader" ⟨"IceTunes$Reader", "readUnit", "(I)Z"⟩ ⟨"IceTunes$Reader", "readUnit", "(I)Z"⟩ ∈ wt := wt_of 33 (by decide +kernel) (by decide +kernel)
theorem wm_34 : Cond.selects "IceTunes$Reader" ⟨"IceTunes$Reader", "readSilence", "()Z"⟩ ⟨"IceTunes$Reader", "readSilence", "()Z"⟩ ∈ wt := wt_of 34 (by decide +kernel) (by decide +kernel)
theorem wm_35 : Cond.selects "IceTunes$Reader" ⟨"IceTunes$Reader", "readSkater", "()Z"⟩ ⟨"IceTunes$Reader", "readSkater", "()Z"⟩ ∈ wt := wt_of 35 (by decide +kernel) (by decide +kernel)
theorem wm_36 : Cond.selects "IceTunes$History" ⟨"IceTunes$History", "forget", "()V"⟩ ⟨"IceTunes$History", "forget", "()V"⟩ ∈ wt := wt_of 36 (by decide +kernel) (by decide +kernel)
theorem wm_37 : Cond.selects "IceTunes$Sights" ⟨"IceTunes$Sights", "clear", "()V"⟩ ⟨"IceTunes$Sights", "clear", "()V"⟩ ∈ wt := wt_of 37 (by decide +kernel) (by decide +kernel)
theorem wm_38 : Cond.selects "IceTunes$Evening" ⟨"IceTunes$Evening", "loadOf", "(ILIceTunes$Pond;)I"⟩ ⟨"IceTunes$Evening", "loadOf", "(ILIceTunes$Pond;)I"⟩ ∈ wt := wt_of 38 (by decide +kernel) (by decide +kernel)
theorem wm_39 : Cond.selects "IceTunes$Evening" ⟨"IceTunes$Evening", "isUp", "(I)Z"⟩ ⟨"IceTunes$Evening", "isUp", "(I)Z"⟩ ∈ wt := wt_of 39 (by decide +kernel) (by decide +kernel)
theorem wm_40 : Cond.selects "IceTunes$Pond" ⟨"IceTunes$Pond", "hasSkater", "(I)Z"⟩ ⟨"IceTunes$Pond", "hasSkater", "(I)Z"⟩ ∈ wt := wt_of 40 (by decide +kernel) (by decide +kernel)
theorem wm_41 : Cond.selects "IceTunes$Pond" ⟨"IceTunes$Pond", "hasTune", "(I)Z"⟩ ⟨"IceTunes$Pond", "hasTune", "(I)Z"⟩ ∈ wt := wt_of 41 (by decide +kernel) (by decide +kernel)
theorem wm_42 : Cond.selects "IceTunes$History" ⟨"IceTunes$History", "goOn", "()LIceTunes$Evening;"⟩ ⟨"IceTunes$History", "goOn", "()LIceTunes$Evening;"⟩ ∈ wt := wt_of 42 (by decide +kernel) (by decide +kernel)
theorem wm_43 : Cond.selects "IceTunes$Evening" ⟨"IceTunes$Evening", "copy", "(LIceTunes$Evening;)V"⟩ ⟨"IceTunes$Evening", "copy", "(LIceTunes$Evening;)V"⟩ ∈ wt := wt_of 43 (by decide +kernel) (by decide +kernel)
theorem wm_44 : Cond.selects "IceTunes$Band" ⟨"IceTunes$Band", "playTune", "(LIceTunes$Evening;I)V"⟩ ⟨"IceTunes$Band", "playTune", "(LIceTunes$Evening;I)V"⟩ ∈ wt := wt_of 44 (by decide +kernel) (by decide +kernel)
theorem wm_45 : Cond.selects "IceTunes$Band" ⟨"IceTunes$Band", "playBar", "(LIceTunes$Evening;II)Z"⟩ ⟨"IceTunes$Band", "playBar", "(LIceTunes$Evening;II)Z"⟩ ∈ wt := wt_of 45 (by decide +kernel) (by decide +kernel)
theorem wm_46 : Cond.selects "IceTunes$Band" ⟨"IceTunes$Band", "stepAll", "(LIceTunes$Evening;)V"⟩ ⟨"IceTunes$Band", "stepAll", "(LIceTunes$Evening;)V"⟩ ∈ wt := wt_of 46 (by decide +kernel) (by decide +kernel)
theorem wm_47 : Cond.selects "IceTunes$Pond" ⟨"IceTunes$Pond", "stepOf", "(II)I"⟩ ⟨"IceTunes$Pond", "stepOf", "(II)I"⟩ ∈ wt := wt_of 47 (by decide +kernel) (by decide +kernel)
theorem wm_48 : Cond.selects "IceTunes$Pond" ⟨"IceTunes$Pond", "beside", "(II)I"⟩ ⟨"IceTunes$Pond", "beside", "(II)I"⟩ ∈ wt := wt_of 48 (by decide +kernel) (by decide +kernel)
theorem wm_49 : Cond.selects "IceTunes$Band" ⟨"IceTunes$Band", "freeze", "(LIceTunes$Evening;II)V"⟩ ⟨"IceTunes$Band", "freeze", "(LIceTunes$Evening;II)V"⟩ ∈ wt := wt_of 49 (by decide +kernel) (by decide +kernel)
theorem wm_50 : Cond.selects "IceTunes$Band" ⟨"IceTunes$Band", "iceAround", "(LIceTunes$Evening;II)I"⟩ ⟨"IceTunes$Band", "iceAround", "(LIceTunes$Evening;II)I"⟩ ∈ wt := wt_of 50 (by decide +kernel) (by decide +kernel)
theorem wm_51 : Cond.selects "IceTunes$Band" ⟨"IceTunes$Band", "workOut", "(II)I"⟩ ⟨"IceTunes$Band", "workOut", "(II)I"⟩ ∈ wt := wt_of 51 (by decide +kernel) (by decide +kernel)
theorem wm_52 : Cond.selects "IceTunes$Band" ⟨"IceTunes$Band", "look", "(I)I"⟩ ⟨"IceTunes$Band", "look", "(I)I"⟩ ∈ wt := wt_of 52 (by decide +kernel) (by decide +kernel)
theorem wm_53 : Cond.selects "IceTunes$Band" ⟨"IceTunes$Band", "breakCells", "(LIceTunes$Evening;II)Z"⟩ ⟨"IceTunes$Band", "breakCells", "(LIceTunes$Evening;II)Z"⟩ ∈ wt := wt_of 53 (by decide +kernel) (by decide +kernel)
theorem wm_54 : Cond.selects "IceTunes$Band" ⟨"IceTunes$Band", "isTooHeavy", "(LIceTunes$Evening;I)Z"⟩ ⟨"IceTunes$Band", "isTooHeavy", "(LIceTunes$Evening;I)Z"⟩ ∈ wt := wt_of 54 (by decide +kernel) (by decide +kernel)
theorem wm_55 : Cond.selects "IceTunes$Band" ⟨"IceTunes$Band", "sink", "(LIceTunes$Evening;III)V"⟩ ⟨"IceTunes$Band", "sink", "(LIceTunes$Evening;III)V"⟩ ∈ wt := wt_of 55 (by decide +kernel) (by decide +kernel)
theorem wm_56 : Cond.selects "IceTunes$Evening" ⟨"IceTunes$Evening", "countUp", "(LIceTunes$Pond;)I"⟩ ⟨"IceTunes$Evening", "countUp", "(LIceTunes$Pond;)I"⟩ ∈ wt := wt_of 56 (by decide +kernel) (by decide +kernel)
theorem wm_57 : Cond.selects "IceTunes$Band" ⟨"IceTunes$Band", "keepSilence", "(LIceTunes$Evening;I)V"⟩ ⟨"IceTunes$Band", "keepSilence", "(LIceTunes$Evening;I)V"⟩ ∈ wt := wt_of 57 (by decide +kernel) (by decide +kernel)
theorem wm_58 : Cond.selects "IceTunes$History" ⟨"IceTunes$History", "takeBack", "()Z"⟩ ⟨"IceTunes$History", "takeBack", "()Z"⟩ ∈ wt := wt_of 58 (by decide +kernel) (by decide +kernel)
theorem wm_59 : Cond.selects "IceTunes$History" ⟨"IceTunes$History", "doAgain", "()Z"⟩ ⟨"IceTunes$History", "doAgain", "()Z"⟩ ∈ wt := wt_of 59 (by decide +kernel) (by decide +kernel)
theorem wm_60 : Cond.selects "IceTunes$Pond" ⟨"IceTunes$Pond", "hasTunes", "(I)Z"⟩ ⟨"IceTunes$Pond", "hasTunes", "(I)Z"⟩ ∈ wt := wt_of 60 (by decide +kernel) (by decide +kernel)
theorem wm_61 : Cond.selects "IceTunes$Forecast" ⟨"IceTunes$Forecast", "fewestIn", "(LIceTunes$Evening;I)I"⟩ ⟨"IceTunes$Forecast", "fewestIn", "(LIceTunes$Evening;I)I"⟩ ∈ wt := wt_of 61 (by decide +kernel) (by decide +kernel)
theorem wm_62 : Cond.selects "IceTunes$Forecast" ⟨"IceTunes$Forecast", "arrange", "(II)V"⟩ ⟨"IceTunes$Forecast", "arrange", "(II)V"⟩ ∈ wt := wt_of 62 (by decide +kernel) (by decide +kernel)
theorem wm_63 : Cond.selects "IceTunes" ⟨"IceTunes", "layDown", "([II)V"⟩ ⟨"IceTunes", "layDown", "([II)V"⟩ ∈ wt := wt_of 63 (by decide +kernel) (by decide +kernel)
theorem wm_64 : Cond.selects "IceTunes$Duel" ⟨"IceTunes$Duel", "mostUp", "(LIceTunes$Evening;II)I"⟩ ⟨"IceTunes$Duel", "mostUp", "(LIceTunes$Evening;II)I"⟩ ∈ wt := wt_of 64 (by decide +kernel) (by decide +kernel)
theorem wm_65 : Cond.selects "IceTunes$Duel" ⟨"IceTunes$Duel", "chooseMost", "(III)I"⟩ ⟨"IceTunes$Duel", "chooseMost", "(III)I"⟩ ∈ wt := wt_of 65 (by decide +kernel) (by decide +kernel)
theorem wm_66 : Cond.selects "IceTunes$Duel" ⟨"IceTunes$Duel", "tryTune", "(IIII)I"⟩ ⟨"IceTunes$Duel", "tryTune", "(IIII)I"⟩ ∈ wt := wt_of 66 (by decide +kernel) (by decide +kernel)
theorem wm_67 : Cond.selects "IceTunes$Duel" ⟨"IceTunes$Duel", "chooseLeast", "(III)I"⟩ ⟨"IceTunes$Duel", "chooseLeast", "(III)I"⟩ ∈ wt := wt_of 67 (by decide +kernel) (by decide +kernel)
theorem wm_68 : Cond.selects "IceTunes$Forecast" ⟨"IceTunes$Forecast", "fewestPlanks", "(LIceTunes$Evening;I)I"⟩ ⟨"IceTunes$Forecast", "fewestPlanks", "(LIceTunes$Evening;I)I"⟩ ∈ wt := wt_of 68 (by decide +kernel) (by decide +kernel)
theorem wm_69 : Cond.selects "IceTunes$Forecast" ⟨"IceTunes$Forecast", "listCells", "(I)V"⟩ ⟨"IceTunes$Forecast", "listCells", "(I)V"⟩ ∈ wt := wt_of 69 (by decide +kernel) (by decide +kernel)
theorem wm_70 : Cond.selects "IceTunes$Forecast" ⟨"IceTunes$Forecast", "bestSilence", "(LIceTunes$Evening;I)I"⟩ ⟨"IceTunes$Forecast", "bestSilence", "(LIceTunes$Evening;I)I"⟩ ∈ wt := wt_of 70 (by decide +kernel) (by decide +kernel)
theorem wm_71 : Cond.selects "IceTunes$Forecast" ⟨"IceTunes$Forecast", "firstBreak", "(LIceTunes$Evening;II)I"⟩ ⟨"IceTunes$Forecast", "firstBreak", "(LIceTunes$Evening;II)I"⟩ ∈ wt := wt_of 71 (by decide +kernel) (by decide +kernel)
theorem wm_72 : Cond.selects "IceTunes$Evening" ⟨"IceTunes$Evening", "thicken", "(I)V"⟩ ⟨"IceTunes$Evening", "thicken", "(I)V"⟩ ∈ wt := wt_of 72 (by decide +kernel) (by decide +kernel)
theorem wm_73 : Cond.selects "IceTunes$Sights" ⟨"IceTunes$Sights", "tellIce", "(IIIII)I"⟩ ⟨"IceTunes$Sights", "tellIce", "(IIIII)I"⟩ ∈ wt := wt_of 73 (by decide +kernel) (by decide +kernel)
theorem wm_74 : Cond.selects "IceTunes$Sights" ⟨"IceTunes$Sights", "tell", "(IIII)I"⟩ ⟨"IceTunes$Sights", "tell", "(IIII)I"⟩ ∈ wt := wt_of 74 (by decide +kernel) (by decide +kernel)
theorem wm_75 : Cond.selects "IceTunes$Sights" ⟨"IceTunes$Sights", "tellSkater", "(IIZI)I"⟩ ⟨"IceTunes$Sights", "tellSkater", "(IIZI)I"⟩ ∈ wt := wt_of 75 (by decide +kernel) (by decide +kernel)
theorem wm_76 : Cond.selects "IceTunes$Sights" ⟨"IceTunes$Sights", "takeAway", "(II)Z"⟩ ⟨"IceTunes$Sights", "takeAway", "(II)Z"⟩ ∈ wt := wt_of 76 (by decide +kernel) (by decide +kernel)
theorem wm_77 : Cond.selects "IceTunes$Rows" ⟨"IceTunes$Rows", "count", "(II)I"⟩ ⟨"IceTunes$Rows", "count", "(II)I"⟩ ∈ wt := wt_of 77 (by decide +kernel) (by decide +kernel)
theorem wm_78 : Cond.selects "IceTunes$Sights" ⟨"IceTunes$Sights", "lastBar", "(I)I"⟩ ⟨"IceTunes$Sights", "lastBar", "(I)I"⟩ ∈ wt := wt_of 78 (by decide +kernel) (by decide +kernel)
theorem wm_79 : Cond.selects "IceTunes$Sights" ⟨"IceTunes$Sights", "isKnown", "(II)Z"⟩ ⟨"IceTunes$Sights", "isKnown", "(II)Z"⟩ ∈ wt := wt_of 79 (by decide +kernel) (by decide +kernel)
theorem wm_80 : Cond.selects "IceTunes$Rows" ⟨"IceTunes$Rows", "extend", "(I)V"⟩ ⟨"IceTunes$Rows", "extend", "(I)V"⟩ ∈ wt := wt_of 80 (by decide +kernel) (by decide +kernel)
theorem wm_81 : Cond.selects "IceTunes$Rows" ⟨"IceTunes$Rows", "takeRow", "()V"⟩ ⟨"IceTunes$Rows", "takeRow", "()V"⟩ ∈ wt := wt_of 81 (by decide +kernel) (by decide +kernel)
theorem wm_82 : Cond.selects "IceTunes$Rows" ⟨"IceTunes$Rows", "playsAsSeen", "(LIceTunes$Evening;I)Z"⟩ ⟨"IceTunes$Rows", "playsAsSeen", "(LIceTunes$Evening;I)Z"⟩ ∈ wt := wt_of 82 (by decide +kernel) (by decide +kernel)
theorem wm_83 : Cond.selects "IceTunes$Sights" ⟨"IceTunes$Sights", "areSo", "(LIceTunes$Evening;I)Z"⟩ ⟨"IceTunes$Sights", "areSo", "(LIceTunes$Evening;I)Z"⟩ ∈ wt := wt_of 83 (by decide +kernel) (by decide +kernel)
theorem wm_84 : Cond.selects "IceTunes$Sights" ⟨"IceTunes$Sights", "isSo", "(ILIceTunes$Evening;)Z"⟩ ⟨"IceTunes$Sights", "isSo", "(ILIceTunes$Evening;)Z"⟩ ∈ wt := wt_of 84 (by decide +kernel) (by decide +kernel)
theorem wm_85 : Cond.selects "IceTunesModel" ⟨"IceTunesModel", "clearBank", "()V"⟩ ⟨"IceTunesModel", "clearBank", "()V"⟩ ∈ wt := wt_of 85 (by decide +kernel) (by decide +kernel)
theorem wm_86 : Cond.selects "IceTunesModel" ⟨"IceTunesModel", "begin", "()V"⟩ ⟨"IceTunesModel", "begin", "()V"⟩ ∈ wt := wt_of 86 (by decide +kernel) (by decide +kernel)
theorem wm_87 : Cond.selects "IceTunesModel" ⟨"IceTunesModel", "layFirst", "()V"⟩ ⟨"IceTunesModel", "layFirst", "()V"⟩ ∈ wt := wt_of 87 (by decide +kernel) (by decide +kernel)
theorem wm_88 : Cond.selects "IceTunesModel" ⟨"IceTunesModel", "put", "(III)V"⟩ ⟨"IceTunesModel", "put", "(III)V"⟩ ∈ wt := wt_of 88 (by decide +kernel) (by decide +kernel)
theorem wm_89 : Cond.selects "IceTunesModel" ⟨"IceTunesModel", "goOn", "()V"⟩ ⟨"IceTunesModel", "goOn", "()V"⟩ ∈ wt := wt_of 89 (by decide +kernel) (by decide +kernel)
theorem wm_90 : Cond.selects "IceTunesModel" ⟨"IceTunesModel", "sign", "(I)I"⟩ ⟨"IceTunesModel", "sign", "(I)I"⟩ ∈ wt := wt_of 90 (by decide +kernel) (by decide +kernel)
theorem wm_91 : Cond.selects "IceTunesModel" ⟨"IceTunesModel", "isGood", "()Z"⟩ ⟨"IceTunesModel", "isGood", "()Z"⟩ ∈ wt := wt_of 91 (by decide +kernel) (by decide +kernel)
theorem wm_92 : Cond.selects "IceTunesModel" ⟨"IceTunesModel", "readLine", "()V"⟩ ⟨"IceTunesModel", "readLine", "()V"⟩ ∈ wt := wt_of 92 (by decide +kernel) (by decide +kernel)
theorem wm_93 : Cond.selects "IceTunesModel" ⟨"IceTunesModel", "isFull", "()Z"⟩ ⟨"IceTunesModel", "isFull", "()Z"⟩ ∈ wt := wt_of 93 (by decide +kernel) (by decide +kernel)
theorem wm_94 : Cond.selects "IceTunesModel" ⟨"IceTunesModel", "isWord", "(J)Z"⟩ ⟨"IceTunesModel", "isWord", "(J)Z"⟩ ∈ wt := wt_of 94 (by decide +kernel) (by decide +kernel)
theorem wm_95 : Cond.selects "IceTunesModel" ⟨"IceTunesModel", "misplaced", "()V"⟩ ⟨"IceTunesModel", "misplaced", "()V"⟩ ∈ wt := wt_of 95 (by decide +kernel) (by decide +kernel)
theorem wm_96 : Cond.selects "IceTunesModel" ⟨"IceTunesModel", "fails", "(II)V"⟩ ⟨"IceTunesModel", "fails", "(II)V"⟩ ∈ wt := wt_of 96 (by decide +kernel) (by decide +kernel)
theorem wm_97 : Cond.selects "IceTunesModel" ⟨"IceTunesModel", "numeral", "(II)I"⟩ ⟨"IceTunesModel", "numeral", "(II)I"⟩ ∈ wt := wt_of 97 (by decide +kernel) (by decide +kernel)
theorem wm_98 : Cond.selects "IceTunesModel" ⟨"IceTunesModel", "after", "(JII)I"⟩ ⟨"IceTunesModel", "after", "(JII)I"⟩ ∈ wt := wt_of 98 (by decide +kernel) (by decide +kernel)
theorem wm_99 : Cond.selects "IceTunesModel" ⟨"IceTunesModel", "must", "(Z)V"⟩ ⟨"IceTunesModel", "must", "(Z)V"⟩ ∈ wt := wt_of 99 (by decide +kernel) (by decide +kernel)
theorem wm_100 : Cond.selects "IceTunesModel" ⟨"IceTunesModel", "readCell", "()V"⟩ ⟨"IceTunesModel", "readCell", "()V"⟩ ∈ wt := wt_of 100 (by decide +kernel) (by decide +kernel)
theorem wm_101 : Cond.selects "IceTunesModel" ⟨"IceTunesModel", "readPlank", "()V"⟩ ⟨"IceTunesModel", "readPlank", "()V"⟩ ∈ wt := wt_of 101 (by decide +kernel) (by decide +kernel)
theorem wm_102 : Cond.selects "IceTunesModel" ⟨"IceTunesModel", "readTune", "()V"⟩ ⟨"IceTunesModel", "readTune", "()V"⟩ ∈ wt := wt_of 102 (by decide +kernel) (by decide +kernel)
theorem wm_103 : Cond.selects "IceTunesModel" ⟨"IceTunesModel", "here", "([JII)I"⟩ ⟨"IceTunesModel", "here", "([JII)I"⟩ ∈ wt := wt_of 103 (by decide +kernel) (by decide +kernel)
theorem wm_104 : Cond.selects "IceTunesModel" ⟨"IceTunesModel", "fresh", "(Z)J"⟩ ⟨"IceTunesModel", "fresh", "(Z)J"⟩ ∈ wt := wt_of 104 (by decide +kernel) (by decide +kernel)
theorem wm_105 : Cond.selects "IceTunesModel" ⟨"IceTunesModel", "readRule", "(I)V"⟩ ⟨"IceTunesModel", "readRule", "(I)V"⟩ ∈ wt := wt_of 105 (by decide +kernel) (by decide +kernel)
theorem wm_106 : Cond.selects "IceTunesModel" ⟨"IceTunesModel", "e", "()V"⟩ ⟨"IceTunesModel", "e", "()V"⟩ ∈ wt := wt_of 106 (by decide +kernel) (by decide +kernel)
theorem wm_107 : Cond.selects "IceTunesModel" ⟨"IceTunesModel", "pushE", "(II)V"⟩ ⟨"IceTunesModel", "pushE", "(II)V"⟩ ∈ wt := wt_of 107 (by decide +kernel) (by decide +kernel)
theorem wm_108 : Cond.selects "IceTunesModel" ⟨"IceTunesModel", "unit", "()Z"⟩ ⟨"IceTunesModel", "unit", "()Z"⟩ ∈ wt := wt_of 108 (by decide +kernel) (by decide +kernel)
theorem wm_109 : Cond.selects "IceTunesModel" ⟨"IceTunesModel", "isSignHere", "(I)Z"⟩ ⟨"IceTunesModel", "isSignHere", "(I)Z"⟩ ∈ wt := wt_of 109 (by decide +kernel) (by decide +kernel)
theorem wm_110 : Cond.selects "IceTunesModel" ⟨"IceTunesModel", "wordHere", "()I"⟩ ⟨"IceTunesModel", "wordHere", "()I"⟩ ∈ wt := wt_of 110 (by decide +kernel) (by decide +kernel)
theorem wm_111 : Cond.selects "IceTunesModel" ⟨"IceTunesModel", "emit", "(II)V"⟩ ⟨"IceTunesModel", "emit", "(II)V"⟩ ∈ wt := wt_of 111 (by decide +kernel) (by decide +kernel)
theorem wm_112 : Cond.selects "IceTunesModel" ⟨"IceTunesModel", "behindUnit", "()Z"⟩ ⟨"IceTunesModel", "behindUnit", "()Z"⟩ ∈ wt := wt_of 112 (by decide +kernel) (by decide +kernel)
theorem wm_113 : Cond.selects "IceTunesModel" ⟨"IceTunesModel", "rankHere", "()I"⟩ ⟨"IceTunesModel", "rankHere", "()I"⟩ ∈ wt := wt_of 113 (by decide +kernel) (by decide +kernel)
theorem wm_114 : Cond.selects "IceTunesModel" ⟨"IceTunesModel", "isCompared", "()Z"⟩ ⟨"IceTunesModel", "isCompared", "()Z"⟩ ∈ wt := wt_of 114 (by decide +kernel) (by decide +kernel)
theorem wm_115 : Cond.selects "IceTunesModel" ⟨"IceTunesModel", "readSkater", "()V"⟩ ⟨"IceTunesModel", "readSkater", "()V"⟩ ∈ wt := wt_of 115 (by decide +kernel) (by decide +kernel)
theorem wm_116 : Cond.selects "IceTunesModel" ⟨"IceTunesModel", "stepHere", "()I"⟩ ⟨"IceTunesModel", "stepHere", "()I"⟩ ∈ wt := wt_of 116 (by decide +kernel) (by decide +kernel)
theorem wm_117 : Cond.selects "IceTunesModel" ⟨"IceTunesModel", "isCell", "(II)Z"⟩ ⟨"IceTunesModel", "isCell", "(II)Z"⟩ ∈ wt := wt_of 117 (by decide +kernel) (by decide +kernel)
theorem wm_118 : Cond.selects "IceTunesModel" ⟨"IceTunesModel", "layLoads", "()V"⟩ ⟨"IceTunesModel", "layLoads", "()V"⟩ ∈ wt := wt_of 118 (by decide +kernel) (by decide +kernel)
theorem wm_119 : Cond.selects "IceTunesModel" ⟨"IceTunesModel", "of", "(II)I"⟩ ⟨"IceTunesModel", "of", "(II)I"⟩ ∈ wt := wt_of 119 (by decide +kernel) (by decide +kernel)
theorem wm_120 : Cond.selects "IceTunesModel" ⟨"IceTunesModel", "isSkater", "(I)Z"⟩ ⟨"IceTunesModel", "isSkater", "(I)Z"⟩ ∈ wt := wt_of 120 (by decide +kernel) (by decide +kernel)
theorem wm_121 : Cond.selects "IceTunesModel" ⟨"IceTunesModel", "isTune", "(I)Z"⟩ ⟨"IceTunesModel", "isTune", "(I)Z"⟩ ∈ wt := wt_of 121 (by decide +kernel) (by decide +kernel)
theorem wm_122 : Cond.selects "IceTunesModel" ⟨"IceTunesModel", "keepAct", "()V"⟩ ⟨"IceTunesModel", "keepAct", "()V"⟩ ∈ wt := wt_of 122 (by decide +kernel) (by decide +kernel)
theorem wm_123 : Cond.selects "IceTunesModel" ⟨"IceTunesModel", "tune", "(I)V"⟩ ⟨"IceTunesModel", "tune", "(I)V"⟩ ∈ wt := wt_of 123 (by decide +kernel) (by decide +kernel)
theorem wm_124 : Cond.selects "IceTunesModel" ⟨"IceTunesModel", "bar", "(II)V"⟩ ⟨"IceTunesModel", "bar", "(II)V"⟩ ∈ wt := wt_of 124 (by decide +kernel) (by decide +kernel)
theorem wm_125 : Cond.selects "IceTunesModel" ⟨"IceTunesModel", "goes", "(I)V"⟩ ⟨"IceTunesModel", "goes", "(I)V"⟩ ∈ wt := wt_of 125 (by decide +kernel) (by decide +kernel)
theorem wm_126 : Cond.selects "IceTunesModel" ⟨"IceTunesModel", "iceAt", "(II)I"⟩ ⟨"IceTunesModel", "iceAt", "(II)I"⟩ ∈ wt := wt_of 126 (by decide +kernel) (by decide +kernel)
theorem wm_127 : Cond.selects "IceTunesModel" ⟨"IceTunesModel", "comes", "(IIIII)I"⟩ ⟨"IceTunesModel", "comes", "(IIIII)I"⟩ ∈ wt := wt_of 127 (by decide +kernel) (by decide +kernel)
theorem wm_128 : Cond.selects "IceTunesModel" ⟨"IceTunesModel", "breaksAt", "(III)V"⟩ ⟨"IceTunesModel", "breaksAt", "(III)V"⟩ ∈ wt := wt_of 128 (by decide +kernel) (by decide +kernel)
theorem wm_129 : Cond.selects "IceTunesModel" ⟨"IceTunesModel", "upMany", "()I"⟩ ⟨"IceTunesModel", "upMany", "()I"⟩ ∈ wt := wt_of 129 (by decide +kernel) (by decide +kernel)
theorem wm_130 : Cond.selects "IceTunesModel" ⟨"IceTunesModel", "silence", "(I)V"⟩ ⟨"IceTunesModel", "silence", "(I)V"⟩ ∈ wt := wt_of 130 (by decide +kernel) (by decide +kernel)
theorem wm_131 : Cond.selects "IceTunesModel" ⟨"IceTunesModel", "exchange", "()V"⟩ ⟨"IceTunesModel", "exchange", "()V"⟩ ∈ wt := wt_of 131 (by decide +kernel) (by decide +kernel)
theorem wm_132 : Cond.selects "IceTunesModel" ⟨"IceTunesModel", "isSet", "(I)Z"⟩ ⟨"IceTunesModel", "isSet", "(I)Z"⟩ ∈ wt := wt_of 132 (by decide +kernel) (by decide +kernel)
theorem wm_133 : Cond.selects "IceTunesModel" ⟨"IceTunesModel", "layTunes", "(I)I"⟩ ⟨"IceTunesModel", "layTunes", "(I)I"⟩ ∈ wt := wt_of 133 (by decide +kernel) (by decide +kernel)
theorem wm_134 : Cond.selects "IceTunesModel" ⟨"IceTunesModel", "keep", "(I)V"⟩ ⟨"IceTunesModel", "keep", "(I)V"⟩ ∈ wt := wt_of 134 (by decide +kernel) (by decide +kernel)
theorem wm_135 : Cond.selects "IceTunesModel" ⟨"IceTunesModel", "inMany", "()I"⟩ ⟨"IceTunesModel", "inMany", "()I"⟩ ∈ wt := wt_of 135 (by decide +kernel) (by decide +kernel)
theorem wm_136 : Cond.selects "IceTunesModel" ⟨"IceTunesModel", "bring", "(I)V"⟩ ⟨"IceTunesModel", "bring", "(I)V"⟩ ∈ wt := wt_of 136 (by decide +kernel) (by decide +kernel)
theorem wm_137 : Cond.selects "IceTunesModel" ⟨"IceTunesModel", "nextOrder", "(I)Z"⟩ ⟨"IceTunesModel", "nextOrder", "(I)Z"⟩ ∈ wt := wt_of 137 (by decide +kernel) (by decide +kernel)
theorem wm_138 : Cond.selects "IceTunesModel" ⟨"IceTunesModel", "swap", "(II)V"⟩ ⟨"IceTunesModel", "swap", "(II)V"⟩ ∈ wt := wt_of 138 (by decide +kernel) (by decide +kernel)
theorem wm_139 : Cond.selects "IceTunesModel" ⟨"IceTunesModel", "lay", "([II)V"⟩ ⟨"IceTunesModel", "lay", "([II)V"⟩ ∈ wt := wt_of 139 (by decide +kernel) (by decide +kernel)
theorem wm_140 : Cond.selects "IceTunesModel" ⟨"IceTunesModel", "duels", "(II)I"⟩ ⟨"IceTunesModel", "duels", "(II)I"⟩ ∈ wt := wt_of 140 (by decide +kernel) (by decide +kernel)
theorem wm_141 : Cond.selects "IceTunesModel" ⟨"IceTunesModel", "takes", "(II)V"⟩ ⟨"IceTunesModel", "takes", "(II)V"⟩ ∈ wt := wt_of 141 (by decide +kernel) (by decide +kernel)
theorem wm_142 : Cond.selects "IceTunesModel" ⟨"IceTunesModel", "isDry", "(I)Z"⟩ ⟨"IceTunesModel", "isDry", "(I)Z"⟩ ∈ wt := wt_of 142 (by decide +kernel) (by decide +kernel)
theorem wm_143 : Cond.selects "IceTunesModel" ⟨"IceTunesModel", "isDryBy", "(III)Z"⟩ ⟨"IceTunesModel", "isDryBy", "(III)Z"⟩ ∈ wt := wt_of 143 (by decide +kernel) (by decide +kernel)
theorem wm_144 : Cond.selects "IceTunesModel" ⟨"IceTunesModel", "addSight", "(IIII)I"⟩ ⟨"IceTunesModel", "addSight", "(IIII)I"⟩ ∈ wt := wt_of 144 (by decide +kernel) (by decide +kernel)
theorem wm_145 : Cond.selects "IceTunesModel" ⟨"IceTunesModel", "layAsked", "(II)V"⟩ ⟨"IceTunesModel", "layAsked", "(II)V"⟩ ∈ wt := wt_of 145 (by decide +kernel) (by decide +kernel)
theorem wm_146 : Cond.selects "IceTunesModel" ⟨"IceTunesModel", "areSoBy", "(II)Z"⟩ ⟨"IceTunesModel", "areSoBy", "(II)Z"⟩ ∈ wt := wt_of 146 (by decide +kernel) (by decide +kernel)
theorem wm_147 : Cond.selects "IceTunesModel" ⟨"IceTunesModel", "areSoNow", "(I)Z"⟩ ⟨"IceTunesModel", "areSoNow", "(I)Z"⟩ ∈ wt := wt_of 147 (by decide +kernel) (by decide +kernel)
theorem wm_148 : Cond.selects "IceTunesModel" ⟨"IceTunesModel", "counts", "(II)Z"⟩ ⟨"IceTunesModel", "counts", "(II)Z"⟩ ∈ wt := wt_of 148 (by decide +kernel) (by decide +kernel)
theorem wm_149 : Cond.initialized "IceTunesLaw" ∈ wt := wt_of 149 (by decide +kernel) (by decide +kernel)
theorem wm_150 : Cond.initialized "IceTunes" ∈ wt := wt_of 150 (by decide +kernel) (by decide +kernel)
theorem wm_151 : Cond.initialized "IceTunes$Pond" ∈ wt := wt_of 151 (by decide +kernel) (by decide +kernel)
theorem wm_152 : Cond.initialized "IceTunes$Reader" ∈ wt := wt_of 152 (by decide +kernel) (by decide +kernel)
theorem wm_153 : Cond.initialized "IceTunes$Tokens" ∈ wt := wt_of 153 (by decide +kernel) (by decide +kernel)
theorem wm_154 : Cond.initialized "IceTunes$Band" ∈ wt := wt_of 154 (by decide +kernel) (by decide +kernel)
theorem wm_155 : Cond.initialized "IceTunes$History" ∈ wt := wt_of 155 (by decide +kernel) (by decide +kernel)
theorem wm_156 : Cond.initialized "IceTunes$Evening" ∈ wt := wt_of 156 (by decide +kernel) (by decide +kernel)
theorem wm_157 : Cond.initialized "IceTunes$Sights" ∈ wt := wt_of 157 (by decide +kernel) (by decide +kernel)
theorem wm_158 : Cond.initialized "IceTunes$Forecast" ∈ wt := wt_of 158 (by decide +kernel) (by decide +kernel)
theorem wm_159 : Cond.initialized "IceTunes$Duel" ∈ wt := wt_of 159 (by decide +kernel) (by decide +kernel)
theorem wm_160 : Cond.initialized "IceTunes$Rows" ∈ wt := wt_of 160 (by decide +kernel) (by decide +kernel)
theorem wm_161 : Cond.initialized "IceTunesModel" ∈ wt := wt_of 161 (by decide +kernel) (by decide +kernel)
theorem wm_162 : Cond.initialized "java/lang/Math" ∈ wt := wt_of 162 (by decide +kernel) (by decide +kernel)
theorem wm_163 : Cond.initialized "java/lang/String" ∈ wt := wt_of 163 (by decide +kernel) (by decide +kernel)
theorem wm_164 : Cond.initialized "java/lang/StringLatin1" ∈ wt := wt_of 164 (by decide +kernel) (by decide +kernel)
theorem wm_165 : Cond.initialized "jdk/internal/util/Preconditions" ∈ wt := wt_of 165 (by decide +kernel) (by decide +kernel)
theorem wm_166 : Cond.initialized "java/lang/StringUTF16" ∈ wt := wt_of 166 (by decide +kernel) (by decide +kernel)
theorem wm_167 : Cond.initialized "java/lang/Character" ∈ wt := wt_of 167 (by decide +kernel) (by decide +kernel)
theorem wm_168 : Cond.initialized "java/lang/System" ∈ wt := wt_of 168 (by decide +kernel) (by decide +kernel)
theorem wm_169 : Cond.initialized "java/lang/Integer" ∈ wt := wt_of 169 (by decide +kernel) (by decide +kernel)
theorem wm_170 : Cond.classLink "IceTunesLaw" (7 : Nat) "IceTunes" ∈ wt := wt_of 170 (by decide +kernel) (by decide +kernel)
theorem wm_171 : Cond.instantiable "IceTunes" (16 : Nat) ∈ wt := wt_of 171 (by decide +kernel) (by decide +kernel)
theorem wm_172 : Cond.methodLink "IceTunesLaw" (9 : Nat) ({ cls := "IceTunes", name := "<init>", desc := "()V" } : Jvm.MethodName) ∈ wt := wt_of 172 (by decide +kernel) (by decide +kernel)
theorem wm_173 : Cond.instanceMethod ({ cls := "IceTunes", name := "<init>", desc := "()V" } : Jvm.MethodName) ∈ wt := wt_of 173 (by decide +kernel) (by decide +kernel)
theorem wm_174 : Cond.code ({ cls := "IceTunes", name := "<init>", desc := "()V" } : Jvm.MethodName) prog_1_method_1_code (3 : Nat) (Option.none : Option Jvm.ClassFile.FieldType) ∈ wt := wt_of 174 (by decide +kernel) (by decide +kernel)
theorem wm_175 : Cond.methodLink "IceTunes" (3 : Nat) ({ cls := "java/lang/Object", name := "<init>", desc := "()V" } : Jvm.MethodName) ∈ wt := wt_of 175 (by decide +kernel) (by decide +kernel)
theorem wm_176 : Cond.instanceMethod ({ cls := "java/lang/Object", name := "<init>", desc := "()V" } : Jvm.MethodName) ∈ wt := wt_of 176 (by decide +kernel) (by decide +kernel)
theorem wm_177 : Cond.code ({ cls := "java/lang/Object", name := "<init>", desc := "()V" } : Jvm.MethodName) object_method_1_code (1 : Nat) (Option.none : Option Jvm.ClassFile.FieldType) ∈ wt := wt_of 177 (by decide +kernel) (by decide +kernel)
theorem wm_178 : Cond.classLink "IceTunes" (13 : Nat) "IceTunes$Pond" ∈ wt := wt_of 178 (by decide +kernel) (by decide +kernel)
theorem wm_179 : Cond.instantiable "IceTunes$Pond" (19 : Nat) ∈ wt := wt_of 179 (by decide +kernel) (by decide +kernel)
theorem nm_180 : Cond.methodLinkNest "IceTunes" (15 : Nat) ({ cls := "IceTunes$Pond", name := "<init>", desc := "()V" } : Jvm.MethodName) "IceTunes" ∈ nw := nw_of 180 (by decide +kernel) rfl
theorem wm_181 : Cond.instanceMethod ({ cls := "IceTunes$Pond", name := "<init>", desc := "()V" } : Jvm.MethodName) ∈ wt := wt_of 181 (by decide +kernel) (by decide +kernel)
theorem wm_182 : Cond.code ({ cls := "IceTunes$Pond", name := "<init>", desc := "()V" } : Jvm.MethodName) prog_7_method_1_code (1 : Nat) (Option.none : Option Jvm.ClassFile.FieldType) ∈ wt := wt_of 182 (by decide +kernel) (by decide +kernel)
theorem wm_183 : Cond.methodLink "IceTunes$Pond" (3 : Nat) ({ cls := "java/lang/Object", name := "<init>", desc := "()V" } : Jvm.MethodName) ∈ wt := wt_of 183 (by decide +kernel) (by decide +kernel)
theorem wm_184 : Cond.methodLink "IceTunes$Pond" (44 : Nat) ({ cls := "IceTunes$Pond", name := "clear", desc := "()V" } : Jvm.MethodName) ∈ wt := wt_of 184 (by decide +kernel) (by decide +kernel)
theorem wm_186 : Cond.instanceMethod ({ cls := "IceTunes$Pond", name := "clear", desc := "()V" } : Jvm.MethodName) ∈ wt := wt_of 186 (by decide +kernel) (by decide +kernel)
theorem wm_187 : Cond.code ({ cls := "IceTunes$Pond", name := "clear", desc := "()V" } : Jvm.MethodName) prog_7_method_2_code (2 : Nat) (Option.none : Option Jvm.ClassFile.FieldType) ∈ wt := wt_of 187 (by decide +kernel) (by decide +kernel)
theorem wm_188 : Cond.fieldLink "IceTunes$Pond" (47 : Nat) "IceTunes$Pond" "across" "I" ∈ wt := wt_of 188 (by decide +kernel) (by decide +kernel)
theorem nm_189 : Cond.fieldLinkNest "IceTunes" (124 : Nat) "IceTunes$Pond" "across" "I" "IceTunes" ∈ nw := nw_of 189 (by decide +kernel) rfl
theorem nm_190 : Cond.fieldLinkNest "IceTunes$Reader" (92 : Nat) "IceTunes$Pond" "across" "I" "IceTunes" ∈ nw := nw_of 190 (by decide +kernel) rfl
theorem nm_191 : Cond.fieldLinkNest "IceTunes$Band" (82 : Nat) "IceTunes$Pond" "across" "I" "IceTunes" ∈ nw := nw_of 191 (by decide +kernel) rfl
theorem wm_192 : Cond.fieldLink "IceTunes$Pond" (51 : Nat) "IceTunes$Pond" "down" "I" ∈ wt := wt_of 192 (by decide +kernel) (by decide +kernel)
theorem nm_193 : Cond.fieldLinkNest "IceTunes" (127 : Nat) "IceTunes$Pond" "down" "I" "IceTunes" ∈ nw := nw_of 193 (by decide +kernel) rfl
theorem nm_194 : Cond.fieldLinkNest "IceTunes$Band" (79 : Nat) "IceTunes$Pond" "down" "I" "IceTunes" ∈ nw := nw_of 194 (by decide +kernel) rfl
theorem nm_195 : Cond.fieldLinkNest "IceTunes$Reader" (112 : Nat) "IceTunes$Pond" "down" "I" "IceTunes" ∈ nw := nw_of 195 (by decide +kernel) rfl
theorem wm_196 : Cond.fieldLink "IceTunes$Pond" (54 : Nat) "IceTunes$Pond" "allIce" "I" ∈ wt := wt_of 196 (by decide +kernel) (by decide +kernel)
theorem nm_197 : Cond.fieldLinkNest "IceTunes$Reader" (95 : Nat) "IceTunes$Pond" "allIce" "I" "IceTunes" ∈ nw := nw_of 197 (by decide +kernel) rfl
theorem wm_198 : Cond.fieldLink "IceTunes$Pond" (9 : Nat) "IceTunes$Pond" "cellIce" "[I" ∈ wt := wt_of 198 (by decide +kernel) (by decide +kernel)
theorem nm_199 : Cond.fieldLinkNest "IceTunes$Reader" (118 : Nat) "IceTunes$Pond" "cellIce" "[I" "IceTunes" ∈ nw := nw_of 199 (by decide +kernel) rfl
theorem wm_200 : Cond.fieldLink "IceTunes$Pond" (15 : Nat) "IceTunes$Pond" "planked" "[Z" ∈ wt := wt_of 200 (by decide +kernel) (by decide +kernel)
theorem nm_201 : Cond.fieldLinkNest "IceTunes$Reader" (124 : Nat) "IceTunes$Pond" "planked" "[Z" "IceTunes" ∈ nw := nw_of 201 (by decide +kernel) rfl
theorem nm_202 : Cond.fieldLinkNest "IceTunes$Band" (130 : Nat) "IceTunes$Pond" "planked" "[Z" "IceTunes" ∈ nw := nw_of 202 (by decide +kernel) rfl
theorem wm_203 : Cond.fieldLink "IceTunes$Pond" (57 : Nat) "IceTunes$Pond" "planks" "I" ∈ wt := wt_of 203 (by decide +kernel) (by decide +kernel)
theorem nm_204 : Cond.fieldLinkNest "IceTunes$Reader" (128 : Nat) "IceTunes$Pond" "planks" "I" "IceTunes" ∈ nw := nw_of 204 (by decide +kernel) rfl
theorem nm_205 : Cond.fieldLinkNest "IceTunes" (272 : Nat) "IceTunes$Pond" "planks" "I" "IceTunes" ∈ nw := nw_of 205 (by decide +kernel) rfl
theorem wm_206 : Cond.fieldLink "IceTunes$Pond" (60 : Nat) "IceTunes$Pond" "tunes" "I" ∈ wt := wt_of 206 (by decide +kernel) (by decide +kernel)
theorem nm_207 : Cond.fieldLinkNest "IceTunes$Rows" (73 : Nat) "IceTunes$Pond" "tunes" "I" "IceTunes" ∈ nw := nw_of 207 (by decide +kernel) rfl
theorem nm_208 : Cond.fieldLinkNest "IceTunes$Reader" (98 : Nat) "IceTunes$Pond" "tunes" "I" "IceTunes" ∈ nw := nw_of 208 (by decide +kernel) rfl
theorem nm_209 : Cond.fieldLinkNest "IceTunes" (266 : Nat) "IceTunes$Pond" "tunes" "I" "IceTunes" ∈ nw := nw_of 209 (by decide +kernel) rfl
theorem wm_210 : Cond.fieldLink "IceTunes$Pond" (19 : Nat) "IceTunes$Pond" "bars" "[I" ∈ wt := wt_of 210 (by decide +kernel) (by decide +kernel)
theorem nm_211 : Cond.fieldLinkNest "IceTunes$Band" (25 : Nat) "IceTunes$Pond" "bars" "[I" "IceTunes" ∈ nw := nw_of 211 (by decide +kernel) rfl
theorem nm_212 : Cond.fieldLinkNest "IceTunes$Rows" (84 : Nat) "IceTunes$Pond" "bars" "[I" "IceTunes" ∈ nw := nw_of 212 (by decide +kernel) rfl
theorem nm_213 : Cond.fieldLinkNest "IceTunes$Forecast" (59 : Nat) "IceTunes$Pond" "bars" "[I" "IceTunes" ∈ nw := nw_of 213 (by decide +kernel) rfl
theorem nm_214 : Cond.fieldLinkNest "IceTunes" (172 : Nat) "IceTunes$Pond" "bars" "[I" "IceTunes" ∈ nw := nw_of 214 (by decide +kernel) rfl
theorem nm_215 : Cond.fieldLinkNest "IceTunes$Reader" (146 : Nat) "IceTunes$Pond" "bars" "[I" "IceTunes" ∈ nw := nw_of 215 (by decide +kernel) rfl
theorem wm_216 : Cond.fieldLink "IceTunes$Pond" (63 : Nat) "IceTunes$Pond" "hasSilence" "Z" ∈ wt := wt_of 216 (by decide +kernel) (by decide +kernel)
theorem nm_217 : Cond.fieldLinkNest "IceTunes$Reader" (101 : Nat) "IceTunes$Pond" "hasSilence" "Z" "IceTunes" ∈ nw := nw_of 217 (by decide +kernel) rfl
theorem nm_218 : Cond.fieldLinkNest "IceTunes$Evening" (40 : Nat) "IceTunes$Pond" "skaters" "I" "IceTunes" ∈ nw := nw_of 218 (by decide +kernel) rfl
theorem wm_219 : Cond.fieldLink "IceTunes$Pond" (67 : Nat) "IceTunes$Pond" "skaters" "I" ∈ wt := wt_of 219 (by decide +kernel) (by decide +kernel)
theorem nm_220 : Cond.fieldLinkNest "IceTunes$Band" (50 : Nat) "IceTunes$Pond" "skaters" "I" "IceTunes" ∈ nw := nw_of 220 (by decide +kernel) rfl
theorem nm_221 : Cond.fieldLinkNest "IceTunes$Reader" (105 : Nat) "IceTunes$Pond" "skaters" "I" "IceTunes" ∈ nw := nw_of 221 (by decide +kernel) rfl
theorem nm_222 : Cond.fieldLinkNest "IceTunes" (269 : Nat) "IceTunes$Pond" "skaters" "I" "IceTunes" ∈ nw := nw_of 222 (by decide +kernel) rfl
theorem wm_223 : Cond.fieldLink "IceTunes$Pond" (22 : Nat) "IceTunes$Pond" "weight" "[I" ∈ wt := wt_of 223 (by decide +kernel) (by decide +kernel)
theorem nm_224 : Cond.fieldLinkNest "IceTunes$Band" (67 : Nat) "IceTunes$Pond" "weight" "[I" "IceTunes" ∈ nw := nw_of 224 (by decide +kernel) rfl
theorem nm_225 : Cond.fieldLinkNest "IceTunes$Evening" (56 : Nat) "IceTunes$Pond" "weight" "[I" "IceTunes" ∈ nw := nw_of 225 (by decide +kernel) rfl
theorem nm_226 : Cond.fieldLinkNest "IceTunes$Reader" (164 : Nat) "IceTunes$Pond" "weight" "[I" "IceTunes" ∈ nw := nw_of 226 (by decide +kernel) rfl
theorem wm_227 : Cond.fieldLink "IceTunes$Pond" (25 : Nat) "IceTunes$Pond" "home" "[I" ∈ wt := wt_of 227 (by decide +kernel) (by decide +kernel)
theorem nm_228 : Cond.fieldLinkNest "IceTunes$Evening" (43 : Nat) "IceTunes$Pond" "home" "[I" "IceTunes" ∈ nw := nw_of 228 (by decide +kernel) rfl
theorem nm_229 : Cond.fieldLinkNest "IceTunes$Reader" (167 : Nat) "IceTunes$Pond" "home" "[I" "IceTunes" ∈ nw := nw_of 229 (by decide +kernel) rfl
theorem wm_230 : Cond.fieldLink "IceTunes$Pond" (28 : Nat) "IceTunes$Pond" "steps" "[B" ∈ wt := wt_of 230 (by decide +kernel) (by decide +kernel)
theorem nm_231 : Cond.fieldLinkNest "IceTunes$Reader" (170 : Nat) "IceTunes$Pond" "steps" "[B" "IceTunes" ∈ nw := nw_of 231 (by decide +kernel) rfl
theorem wm_232 : Cond.fieldLink "IceTunes$Pond" (32 : Nat) "IceTunes$Pond" "stepCount" "[I" ∈ wt := wt_of 232 (by decide +kernel) (by decide +kernel)
theorem nm_233 : Cond.fieldLinkNest "IceTunes$Reader" (174 : Nat) "IceTunes$Pond" "stepCount" "[I" "IceTunes" ∈ nw := nw_of 233 (by decide +kernel) rfl
theorem wm_234 : Cond.fieldLink "IceTunes$Pond" (70 : Nat) "IceTunes$Pond" "units" "I" ∈ wt := wt_of 234 (by decide +kernel) (by decide +kernel)
theorem nm_235 : Cond.fieldLinkNest "IceTunes$Reader" (202 : Nat) "IceTunes$Pond" "units" "I" "IceTunes" ∈ nw := nw_of 235 (by decide +kernel) rfl
theorem nm_236 : Cond.fieldLinkNest "IceTunes" (283 : Nat) "IceTunes$Pond" "units" "I" "IceTunes" ∈ nw := nw_of 236 (by decide +kernel) rfl
theorem wm_237 : Cond.fieldLink "IceTunes$Pond" (35 : Nat) "IceTunes$Pond" "code" "[I" ∈ wt := wt_of 237 (by decide +kernel) (by decide +kernel)
theorem nm_238 : Cond.fieldLinkNest "IceTunes$Band" (117 : Nat) "IceTunes$Pond" "code" "[I" "IceTunes" ∈ nw := nw_of 238 (by decide +kernel) rfl
theorem nm_239 : Cond.fieldLinkNest "IceTunes$Reader" (177 : Nat) "IceTunes$Pond" "code" "[I" "IceTunes" ∈ nw := nw_of 239 (by decide +kernel) rfl
theorem wm_240 : Cond.fieldLink "IceTunes$Pond" (73 : Nat) "IceTunes$Pond" "codes" "I" ∈ wt := wt_of 240 (by decide +kernel) (by decide +kernel)
theorem nm_241 : Cond.fieldLinkNest "IceTunes$Reader" (152 : Nat) "IceTunes$Pond" "codes" "I" "IceTunes" ∈ nw := nw_of 241 (by decide +kernel) rfl
theorem wm_242 : Cond.fieldLink "IceTunes$Pond" (38 : Nat) "IceTunes$Pond" "codeFrom" "[I" ∈ wt := wt_of 242 (by decide +kernel) (by decide +kernel)
theorem nm_243 : Cond.fieldLinkNest "IceTunes$Band" (70 : Nat) "IceTunes$Pond" "codeFrom" "[I" "IceTunes" ∈ nw := nw_of 243 (by decide +kernel) rfl
theorem nm_244 : Cond.fieldLinkNest "IceTunes$Reader" (149 : Nat) "IceTunes$Pond" "codeFrom" "[I" "IceTunes" ∈ nw := nw_of 244 (by decide +kernel) rfl
theorem wm_245 : Cond.fieldLink "IceTunes$Pond" (41 : Nat) "IceTunes$Pond" "codeTo" "[I" ∈ wt := wt_of 245 (by decide +kernel) (by decide +kernel)
theorem nm_246 : Cond.fieldLinkNest "IceTunes$Band" (73 : Nat) "IceTunes$Pond" "codeTo" "[I" "IceTunes" ∈ nw := nw_of 246 (by decide +kernel) rfl
theorem nm_247 : Cond.fieldLinkNest "IceTunes$Reader" (161 : Nat) "IceTunes$Pond" "codeTo" "[I" "IceTunes" ∈ nw := nw_of 247 (by decide +kernel) rfl
theorem wm_287 : Cond.arrayClass Jvm.ClassFile.FieldType.byte ∈ wt := wt_of 287 (by decide +kernel) (by decide +kernel)
theorem wm_288 : Cond.arrayClass Jvm.ClassFile.FieldType.int ∈ wt := wt_of 288 (by decide +kernel) (by decide +kernel)
theorem wm_289 : Cond.arrayClass Jvm.ClassFile.FieldType.boolean ∈ wt := wt_of 289 (by decide +kernel) (by decide +kernel)
theorem wm_290 : Cond.classLink "IceTunes" (23 : Nat) "IceTunes$Reader" ∈ wt := wt_of 290 (by decide +kernel) (by decide +kernel)
theorem wm_291 : Cond.instantiable "IceTunes$Reader" (9 : Nat) ∈ wt := wt_of 291 (by decide +kernel) (by decide +kernel)
theorem nm_292 : Cond.methodLinkNest "IceTunes" (25 : Nat) ({ cls := "IceTunes$Reader", name := "<init>", desc := "()V" } : Jvm.MethodName) "IceTunes" ∈ nw := nw_of 292 (by decide +kernel) rfl
theorem wm_293 : Cond.instanceMethod ({ cls := "IceTunes$Reader", name := "<init>", desc := "()V" } : Jvm.MethodName) ∈ wt := wt_of 293 (by decide +kernel) (by decide +kernel)
theorem wm_294 : Cond.code ({ cls := "IceTunes$Reader", name := "<init>", desc := "()V" } : Jvm.MethodName) prog_8_method_1_code (1 : Nat) (Option.none : Option Jvm.ClassFile.FieldType) ∈ wt := wt_of 294 (by decide +kernel) (by decide +kernel)
theorem wm_295 : Cond.methodLink "IceTunes$Reader" (3 : Nat) ({ cls := "java/lang/Object", name := "<init>", desc := "()V" } : Jvm.MethodName) ∈ wt := wt_of 295 (by decide +kernel) (by decide +kernel)
theorem wm_296 : Cond.classLink "IceTunes$Reader" (9 : Nat) "IceTunes$Tokens" ∈ wt := wt_of 296 (by decide +kernel) (by decide +kernel)
theorem wm_297 : Cond.instantiable "IceTunes$Tokens" (6 : Nat) ∈ wt := wt_of 297 (by decide +kernel) (by decide +kernel)
theorem nm_298 : Cond.methodLinkNest "IceTunes$Reader" (11 : Nat) ({ cls := "IceTunes$Tokens", name := "<init>", desc := "()V" } : Jvm.MethodName) "IceTunes" ∈ nw := nw_of 298 (by decide +kernel) rfl
theorem wm_299 : Cond.instanceMethod ({ cls := "IceTunes$Tokens", name := "<init>", desc := "()V" } : Jvm.MethodName) ∈ wt := wt_of 299 (by decide +kernel) (by decide +kernel)
theorem wm_300 : Cond.code ({ cls := "IceTunes$Tokens", name := "<init>", desc := "()V" } : Jvm.MethodName) prog_11_method_1_code (1 : Nat) (Option.none : Option Jvm.ClassFile.FieldType) ∈ wt := wt_of 300 (by decide +kernel) (by decide +kernel)
theorem wm_301 : Cond.methodLink "IceTunes$Tokens" (1 : Nat) ({ cls := "java/lang/Object", name := "<init>", desc := "()V" } : Jvm.MethodName) ∈ wt := wt_of 301 (by decide +kernel) (by decide +kernel)
theorem wm_302 : Cond.fieldLink "IceTunes$Tokens" (7 : Nat) "IceTunes$Tokens" "text" "[B" ∈ wt := wt_of 302 (by decide +kernel) (by decide +kernel)
theorem wm_303 : Cond.fieldLink "IceTunes$Tokens" (19 : Nat) "IceTunes$Tokens" "length" "I" ∈ wt := wt_of 303 (by decide +kernel) (by decide +kernel)
theorem nm_304 : Cond.fieldLinkNest "IceTunes$Reader" (45 : Nat) "IceTunes$Tokens" "kind" "I" "IceTunes" ∈ nw := nw_of 304 (by decide +kernel) rfl
theorem wm_305 : Cond.fieldLink "IceTunes$Tokens" (32 : Nat) "IceTunes$Tokens" "kind" "I" ∈ wt := wt_of 305 (by decide +kernel) (by decide +kernel)
theorem nm_306 : Cond.fieldLinkNest "IceTunes$Reader" (83 : Nat) "IceTunes$Tokens" "start" "I" "IceTunes" ∈ nw := nw_of 306 (by decide +kernel) rfl
theorem wm_307 : Cond.fieldLink "IceTunes$Tokens" (29 : Nat) "IceTunes$Tokens" "start" "I" ∈ wt := wt_of 307 (by decide +kernel) (by decide +kernel)
theorem wm_308 : Cond.fieldLink "IceTunes$Tokens" (23 : Nat) "IceTunes$Tokens" "stop" "I" ∈ wt := wt_of 308 (by decide +kernel) (by decide +kernel)
theorem nm_309 : Cond.fieldLinkNest "IceTunes$Reader" (140 : Nat) "IceTunes$Tokens" "stop" "I" "IceTunes" ∈ nw := nw_of 309 (by decide +kernel) rfl
theorem nm_310 : Cond.fieldLinkNest "IceTunes$Reader" (86 : Nat) "IceTunes$Tokens" "value" "I" "IceTunes" ∈ nw := nw_of 310 (by decide +kernel) rfl
theorem wm_311 : Cond.fieldLink "IceTunes$Tokens" (68 : Nat) "IceTunes$Tokens" "value" "I" ∈ wt := wt_of 311 (by decide +kernel) (by decide +kernel)
theorem wm_325 : Cond.fieldLink "IceTunes$Reader" (12 : Nat) "IceTunes$Reader" "tokens" "LIceTunes$Tokens;" ∈ wt := wt_of 325 (by decide +kernel) (by decide +kernel)
theorem wm_326 : Cond.fieldLink "IceTunes$Reader" (32 : Nat) "IceTunes$Reader" "pond" "LIceTunes$Pond;" ∈ wt := wt_of 326 (by decide +kernel) (by decide +kernel)
theorem wm_327 : Cond.fieldLink "IceTunes$Reader" (29 : Nat) "IceTunes$Reader" "fault" "I" ∈ wt := wt_of 327 (by decide +kernel) (by decide +kernel)
theorem nm_328 : Cond.fieldLinkNest "IceTunes" (130 : Nat) "IceTunes$Reader" "fault" "I" "IceTunes" ∈ nw := nw_of 328 (by decide +kernel) rfl
theorem wm_329 : Cond.fieldLink "IceTunes$Reader" (18 : Nat) "IceTunes$Reader" "place" "I" ∈ wt := wt_of 329 (by decide +kernel) (by decide +kernel)
theorem nm_330 : Cond.fieldLinkNest "IceTunes" (133 : Nat) "IceTunes$Reader" "place" "I" "IceTunes" ∈ nw := nw_of 330 (by decide +kernel) rfl
theorem wm_331 : Cond.fieldLink "IceTunes$Reader" (89 : Nat) "IceTunes$Reader" "number" "I" ∈ wt := wt_of 331 (by decide +kernel) (by decide +kernel)
theorem wm_332 : Cond.fieldLink "IceTunes$Reader" (121 : Nat) "IceTunes$Reader" "cell" "I" ∈ wt := wt_of 332 (by decide +kernel) (by decide +kernel)
theorem wm_333 : Cond.fieldLink "IceTunes$Reader" (155 : Nat) "IceTunes$Reader" "formulaUnits" "I" ∈ wt := wt_of 333 (by decide +kernel) (by decide +kernel)
theorem wm_334 : Cond.fieldLink "IceTunes$Reader" (22 : Nat) "IceTunes$Reader" "nameFrom" "[I" ∈ wt := wt_of 334 (by decide +kernel) (by decide +kernel)
theorem wm_335 : Cond.fieldLink "IceTunes$Reader" (26 : Nat) "IceTunes$Reader" "nameLetters" "[I" ∈ wt := wt_of 335 (by decide +kernel) (by decide +kernel)
theorem wm_355 : Cond.classLink "IceTunes" (30 : Nat) "IceTunes$Band" ∈ wt := wt_of 355 (by decide +kernel) (by decide +kernel)
theorem wm_356 : Cond.instantiable "IceTunes$Band" (8 : Nat) ∈ wt := wt_of 356 (by decide +kernel) (by decide +kernel)
theorem nm_357 : Cond.methodLinkNest "IceTunes" (32 : Nat) ({ cls := "IceTunes$Band", name := "<init>", desc := "(LIceTunes$Pond;)V" } : Jvm.MethodName) "IceTunes" ∈ nw := nw_of 357 (by decide +kernel) rfl
theorem wm_358 : Cond.instanceMethod ({ cls := "IceTunes$Band", name := "<init>", desc := "(LIceTunes$Pond;)V" } : Jvm.MethodName) ∈ wt := wt_of 358 (by decide +kernel) (by decide +kernel)
theorem wm_359 : Cond.code ({ cls := "IceTunes$Band", name := "<init>", desc := "(LIceTunes$Pond;)V" } : Jvm.MethodName) prog_2_method_1_code (2 : Nat) (Option.none : Option Jvm.ClassFile.FieldType) ∈ wt := wt_of 359 (by decide +kernel) (by decide +kernel)
theorem wm_360 : Cond.methodLink "IceTunes$Band" (3 : Nat) ({ cls := "java/lang/Object", name := "<init>", desc := "()V" } : Jvm.MethodName) ∈ wt := wt_of 360 (by decide +kernel) (by decide +kernel)
theorem wm_361 : Cond.fieldLink "IceTunes$Band" (21 : Nat) "IceTunes$Band" "pond" "LIceTunes$Pond;" ∈ wt := wt_of 361 (by decide +kernel) (by decide +kernel)
theorem nm_362 : Cond.fieldLinkNest "IceTunes$Duel" (35 : Nat) "IceTunes$Band" "pond" "LIceTunes$Pond;" "IceTunes" ∈ nw := nw_of 362 (by decide +kernel) rfl
theorem nm_363 : Cond.fieldLinkNest "IceTunes$Rows" (51 : Nat) "IceTunes$Band" "pond" "LIceTunes$Pond;" "IceTunes" ∈ nw := nw_of 363 (by decide +kernel) rfl
theorem nm_364 : Cond.fieldLinkNest "IceTunes$Forecast" (55 : Nat) "IceTunes$Band" "pond" "LIceTunes$Pond;" "IceTunes" ∈ nw := nw_of 364 (by decide +kernel) rfl
theorem nm_365 : Cond.fieldLinkNest "IceTunes" (112 : Nat) "IceTunes$Band" "pond" "LIceTunes$Pond;" "IceTunes" ∈ nw := nw_of 365 (by decide +kernel) rfl
theorem wm_366 : Cond.fieldLink "IceTunes$Band" (9 : Nat) "IceTunes$Band" "loads" "[I" ∈ wt := wt_of 366 (by decide +kernel) (by decide +kernel)
theorem wm_367 : Cond.fieldLink "IceTunes$Band" (15 : Nat) "IceTunes$Band" "nextIce" "[I" ∈ wt := wt_of 367 (by decide +kernel) (by decide +kernel)
theorem wm_368 : Cond.fieldLink "IceTunes$Band" (18 : Nat) "IceTunes$Band" "stack" "[I" ∈ wt := wt_of 368 (by decide +kernel) (by decide +kernel)
theorem wm_369 : Cond.fieldLink "IceTunes$Band" (88 : Nat) "IceTunes$Band" "ice" "I" ∈ wt := wt_of 369 (by decide +kernel) (by decide +kernel)
theorem wm_370 : Cond.fieldLink "IceTunes$Band" (76 : Nat) "IceTunes$Band" "beat" "I" ∈ wt := wt_of 370 (by decide +kernel) (by decide +kernel)
theorem wm_371 : Cond.fieldLink "IceTunes$Band" (90 : Nat) "IceTunes$Band" "load" "I" ∈ wt := wt_of 371 (by decide +kernel) (by decide +kernel)
theorem wm_372 : Cond.fieldLink "IceTunes$Band" (97 : Nat) "IceTunes$Band" "around" "I" ∈ wt := wt_of 372 (by decide +kernel) (by decide +kernel)
theorem wm_390 : Cond.classLink "IceTunes" (39 : Nat) "IceTunes$History" ∈ wt := wt_of 390 (by decide +kernel) (by decide +kernel)
theorem wm_391 : Cond.instantiable "IceTunes$History" (4 : Nat) ∈ wt := wt_of 391 (by decide +kernel) (by decide +kernel)
theorem nm_392 : Cond.methodLinkNest "IceTunes" (41 : Nat) ({ cls := "IceTunes$History", name := "<init>", desc := "()V" } : Jvm.MethodName) "IceTunes" ∈ nw := nw_of 392 (by decide +kernel) rfl
theorem wm_393 : Cond.instanceMethod ({ cls := "IceTunes$History", name := "<init>", desc := "()V" } : Jvm.MethodName) ∈ wt := wt_of 393 (by decide +kernel) (by decide +kernel)
theorem wm_394 : Cond.code ({ cls := "IceTunes$History", name := "<init>", desc := "()V" } : Jvm.MethodName) prog_6_method_1_code (2 : Nat) (Option.none : Option Jvm.ClassFile.FieldType) ∈ wt := wt_of 394 (by decide +kernel) (by decide +kernel)
theorem wm_395 : Cond.methodLink "IceTunes$History" (3 : Nat) ({ cls := "java/lang/Object", name := "<init>", desc := "()V" } : Jvm.MethodName) ∈ wt := wt_of 395 (by decide +kernel) (by decide +kernel)
theorem wm_396 : Cond.classLink "IceTunes$History" (9 : Nat) "IceTunes$Evening" ∈ wt := wt_of 396 (by decide +kernel) (by decide +kernel)
theorem wm_398 : Cond.instantiable "IceTunes$Evening" (7 : Nat) ∈ wt := wt_of 398 (by decide +kernel) (by decide +kernel)
theorem nm_399 : Cond.methodLinkNest "IceTunes$History" (15 : Nat) ({ cls := "IceTunes$Evening", name := "<init>", desc := "()V" } : Jvm.MethodName) "IceTunes" ∈ nw := nw_of 399 (by decide +kernel) rfl
theorem wm_400 : Cond.instanceMethod ({ cls := "IceTunes$Evening", name := "<init>", desc := "()V" } : Jvm.MethodName) ∈ wt := wt_of 400 (by decide +kernel) (by decide +kernel)
theorem wm_401 : Cond.code ({ cls := "IceTunes$Evening", name := "<init>", desc := "()V" } : Jvm.MethodName) prog_4_method_1_code (1 : Nat) (Option.none : Option Jvm.ClassFile.FieldType) ∈ wt := wt_of 401 (by decide +kernel) (by decide +kernel)
theorem wm_402 : Cond.methodLink "IceTunes$Evening" (3 : Nat) ({ cls := "java/lang/Object", name := "<init>", desc := "()V" } : Jvm.MethodName) ∈ wt := wt_of 402 (by decide +kernel) (by decide +kernel)
theorem wm_403 : Cond.fieldLink "IceTunes$Evening" (27 : Nat) "IceTunes$Evening" "bars" "I" ∈ wt := wt_of 403 (by decide +kernel) (by decide +kernel)
theorem nm_404 : Cond.fieldLinkNest "IceTunes$Rows" (67 : Nat) "IceTunes$Evening" "bars" "I" "IceTunes" ∈ nw := nw_of 404 (by decide +kernel) rfl
theorem nm_405 : Cond.fieldLinkNest "IceTunes$Band" (45 : Nat) "IceTunes$Evening" "bars" "I" "IceTunes" ∈ nw := nw_of 405 (by decide +kernel) rfl
theorem nm_406 : Cond.fieldLinkNest "IceTunes$Forecast" (71 : Nat) "IceTunes$Evening" "bars" "I" "IceTunes" ∈ nw := nw_of 406 (by decide +kernel) rfl
theorem nm_407 : Cond.fieldLinkNest "IceTunes$Sights" (51 : Nat) "IceTunes$Evening" "bars" "I" "IceTunes" ∈ nw := nw_of 407 (by decide +kernel) rfl
theorem nm_408 : Cond.fieldLinkNest "IceTunes" (169 : Nat) "IceTunes$Evening" "bars" "I" "IceTunes" ∈ nw := nw_of 408 (by decide +kernel) rfl
theorem wm_409 : Cond.fieldLink "IceTunes$Evening" (31 : Nat) "IceTunes$Evening" "in" "I" ∈ wt := wt_of 409 (by decide +kernel) (by decide +kernel)
theorem nm_410 : Cond.fieldLinkNest "IceTunes$Forecast" (40 : Nat) "IceTunes$Evening" "in" "I" "IceTunes" ∈ nw := nw_of 410 (by decide +kernel) rfl
theorem nm_411 : Cond.fieldLinkNest "IceTunes$Band" (151 : Nat) "IceTunes$Evening" "in" "I" "IceTunes" ∈ nw := nw_of 411 (by decide +kernel) rfl
theorem wm_412 : Cond.fieldLink "IceTunes$Evening" (9 : Nat) "IceTunes$Evening" "ice" "[I" ∈ wt := wt_of 412 (by decide +kernel) (by decide +kernel)
theorem nm_413 : Cond.fieldLinkNest "IceTunes$Band" (85 : Nat) "IceTunes$Evening" "ice" "[I" "IceTunes" ∈ nw := nw_of 413 (by decide +kernel) rfl
theorem nm_414 : Cond.fieldLinkNest "IceTunes" (140 : Nat) "IceTunes$Evening" "ice" "[I" "IceTunes" ∈ nw := nw_of 414 (by decide +kernel) rfl
theorem nm_415 : Cond.fieldLinkNest "IceTunes$Sights" (64 : Nat) "IceTunes$Evening" "ice" "[I" "IceTunes" ∈ nw := nw_of 415 (by decide +kernel) rfl
theorem wm_416 : Cond.fieldLink "IceTunes$Evening" (15 : Nat) "IceTunes$Evening" "spot" "[I" ∈ wt := wt_of 416 (by decide +kernel) (by decide +kernel)
theorem nm_417 : Cond.fieldLinkNest "IceTunes$Band" (57 : Nat) "IceTunes$Evening" "spot" "[I" "IceTunes" ∈ nw := nw_of 417 (by decide +kernel) rfl
theorem nm_418 : Cond.fieldLinkNest "IceTunes" (151 : Nat) "IceTunes$Evening" "spot" "[I" "IceTunes" ∈ nw := nw_of 418 (by decide +kernel) rfl
theorem wm_419 : Cond.fieldLink "IceTunes$Evening" (18 : Nat) "IceTunes$Evening" "inBar" "[I" ∈ wt := wt_of 419 (by decide +kernel) (by decide +kernel)
theorem nm_420 : Cond.fieldLinkNest "IceTunes" (157 : Nat) "IceTunes$Evening" "inBar" "[I" "IceTunes" ∈ nw := nw_of 420 (by decide +kernel) rfl
theorem nm_421 : Cond.fieldLinkNest "IceTunes$Band" (142 : Nat) "IceTunes$Evening" "inBar" "[I" "IceTunes" ∈ nw := nw_of 421 (by decide +kernel) rfl
theorem wm_422 : Cond.fieldLink "IceTunes$Evening" (21 : Nat) "IceTunes$Evening" "inTune" "[I" ∈ wt := wt_of 422 (by decide +kernel) (by decide +kernel)
theorem nm_423 : Cond.fieldLinkNest "IceTunes" (160 : Nat) "IceTunes$Evening" "inTune" "[I" "IceTunes" ∈ nw := nw_of 423 (by decide +kernel) rfl
theorem nm_424 : Cond.fieldLinkNest "IceTunes$Band" (145 : Nat) "IceTunes$Evening" "inTune" "[I" "IceTunes" ∈ nw := nw_of 424 (by decide +kernel) rfl
theorem wm_425 : Cond.fieldLink "IceTunes$Evening" (24 : Nat) "IceTunes$Evening" "inBeat" "[I" ∈ wt := wt_of 425 (by decide +kernel) (by decide +kernel)
theorem nm_426 : Cond.fieldLinkNest "IceTunes" (163 : Nat) "IceTunes$Evening" "inBeat" "[I" "IceTunes" ∈ nw := nw_of 426 (by decide +kernel) rfl
theorem nm_427 : Cond.fieldLinkNest "IceTunes$Band" (148 : Nat) "IceTunes$Evening" "inBeat" "[I" "IceTunes" ∈ nw := nw_of 427 (by decide +kernel) rfl
theorem wm_443 : Cond.fieldLink "IceTunes$History" (11 : Nat) "IceTunes$History" "slots" "[LIceTunes$Evening;" ∈ wt := wt_of 443 (by decide +kernel) (by decide +kernel)
theorem wm_444 : Cond.fieldLink "IceTunes$History" (16 : Nat) "IceTunes$History" "first" "I" ∈ wt := wt_of 444 (by decide +kernel) (by decide +kernel)
theorem wm_445 : Cond.fieldLink "IceTunes$History" (20 : Nat) "IceTunes$History" "done" "I" ∈ wt := wt_of 445 (by decide +kernel) (by decide +kernel)
theorem nm_446 : Cond.fieldLinkNest "IceTunes" (275 : Nat) "IceTunes$History" "done" "I" "IceTunes" ∈ nw := nw_of 446 (by decide +kernel) rfl
theorem wm_447 : Cond.fieldLink "IceTunes$History" (27 : Nat) "IceTunes$History" "undone" "I" ∈ wt := wt_of 447 (by decide +kernel) (by decide +kernel)
theorem nm_448 : Cond.fieldLinkNest "IceTunes" (278 : Nat) "IceTunes$History" "undone" "I" "IceTunes" ∈ nw := nw_of 448 (by decide +kernel) rfl
theorem wm_458 : Cond.classLink "IceTunes" (46 : Nat) "IceTunes$Evening" ∈ wt := wt_of 458 (by decide +kernel) (by decide +kernel)
theorem wm_459 : Cond.classLink "IceTunes" (56 : Nat) "IceTunes$Sights" ∈ wt := wt_of 459 (by decide +kernel) (by decide +kernel)
theorem wm_460 : Cond.instantiable "IceTunes$Sights" (8 : Nat) ∈ wt := wt_of 460 (by decide +kernel) (by decide +kernel)
theorem nm_461 : Cond.methodLinkNest "IceTunes" (58 : Nat) ({ cls := "IceTunes$Sights", name := "<init>", desc := "()V" } : Jvm.MethodName) "IceTunes" ∈ nw := nw_of 461 (by decide +kernel) rfl
theorem wm_462 : Cond.instanceMethod ({ cls := "IceTunes$Sights", name := "<init>", desc := "()V" } : Jvm.MethodName) ∈ wt := wt_of 462 (by decide +kernel) (by decide +kernel)
theorem wm_463 : Cond.code ({ cls := "IceTunes$Sights", name := "<init>", desc := "()V" } : Jvm.MethodName) prog_10_method_1_code (1 : Nat) (Option.none : Option Jvm.ClassFile.FieldType) ∈ wt := wt_of 463 (by decide +kernel) (by decide +kernel)
theorem wm_464 : Cond.methodLink "IceTunes$Sights" (3 : Nat) ({ cls := "java/lang/Object", name := "<init>", desc := "()V" } : Jvm.MethodName) ∈ wt := wt_of 464 (by decide +kernel) (by decide +kernel)
theorem wm_465 : Cond.fieldLink "IceTunes$Sights" (33 : Nat) "IceTunes$Sights" "count" "I" ∈ wt := wt_of 465 (by decide +kernel) (by decide +kernel)
theorem nm_466 : Cond.fieldLinkNest "IceTunes" (281 : Nat) "IceTunes$Sights" "count" "I" "IceTunes" ∈ nw := nw_of 466 (by decide +kernel) rfl
theorem wm_467 : Cond.fieldLink "IceTunes$Sights" (11 : Nat) "IceTunes$Sights" "bar" "[I" ∈ wt := wt_of 467 (by decide +kernel) (by decide +kernel)
theorem wm_468 : Cond.fieldLink "IceTunes$Sights" (15 : Nat) "IceTunes$Sights" "cell" "[I" ∈ wt := wt_of 468 (by decide +kernel) (by decide +kernel)
theorem wm_469 : Cond.fieldLink "IceTunes$Sights" (18 : Nat) "IceTunes$Sights" "skater" "[I" ∈ wt := wt_of 469 (by decide +kernel) (by decide +kernel)
theorem wm_470 : Cond.fieldLink "IceTunes$Sights" (21 : Nat) "IceTunes$Sights" "least" "[I" ∈ wt := wt_of 470 (by decide +kernel) (by decide +kernel)
theorem wm_471 : Cond.fieldLink "IceTunes$Sights" (24 : Nat) "IceTunes$Sights" "most" "[I" ∈ wt := wt_of 471 (by decide +kernel) (by decide +kernel)
theorem wm_472 : Cond.fieldLink "IceTunes$Sights" (27 : Nat) "IceTunes$Sights" "toldAt" "[I" ∈ wt := wt_of 472 (by decide +kernel) (by decide +kernel)
theorem wm_473 : Cond.fieldLink "IceTunes$Sights" (30 : Nat) "IceTunes$Sights" "untoldAt" "[I" ∈ wt := wt_of 473 (by decide +kernel) (by decide +kernel)
theorem nm_491 : Cond.methodLinkNest "IceTunes" (67 : Nat) ({ cls := "IceTunes$Evening", name := "<init>", desc := "()V" } : Jvm.MethodName) "IceTunes" ∈ nw := nw_of 491 (by decide +kernel) rfl
theorem wm_492 : Cond.classLink "IceTunes" (68 : Nat) "IceTunes$Forecast" ∈ wt := wt_of 492 (by decide +kernel) (by decide +kernel)
theorem wm_493 : Cond.instantiable "IceTunes$Forecast" (5 : Nat) ∈ wt := wt_of 493 (by decide +kernel) (by decide +kernel)
theorem nm_494 : Cond.methodLinkNest "IceTunes" (70 : Nat) ({ cls := "IceTunes$Forecast", name := "<init>", desc := "(LIceTunes$Band;[LIceTunes$Evening;)V" } : Jvm.MethodName) "IceTunes" ∈ nw := nw_of 494 (by decide +kernel) rfl
theorem wm_495 : Cond.instanceMethod ({ cls := "IceTunes$Forecast", name := "<init>", desc := "(LIceTunes$Band;[LIceTunes$Evening;)V" } : Jvm.MethodName) ∈ wt := wt_of 495 (by decide +kernel) (by decide +kernel)
theorem wm_496 : Cond.code ({ cls := "IceTunes$Forecast", name := "<init>", desc := "(LIceTunes$Band;[LIceTunes$Evening;)V" } : Jvm.MethodName) prog_5_method_1_code (3 : Nat) (Option.none : Option Jvm.ClassFile.FieldType) ∈ wt := wt_of 496 (by decide +kernel) (by decide +kernel)
theorem wm_497 : Cond.methodLink "IceTunes$Forecast" (3 : Nat) ({ cls := "java/lang/Object", name := "<init>", desc := "()V" } : Jvm.MethodName) ∈ wt := wt_of 497 (by decide +kernel) (by decide +kernel)
theorem wm_498 : Cond.fieldLink "IceTunes$Forecast" (18 : Nat) "IceTunes$Forecast" "band" "LIceTunes$Band;" ∈ wt := wt_of 498 (by decide +kernel) (by decide +kernel)
theorem wm_499 : Cond.fieldLink "IceTunes$Forecast" (22 : Nat) "IceTunes$Forecast" "desk" "[LIceTunes$Evening;" ∈ wt := wt_of 499 (by decide +kernel) (by decide +kernel)
theorem wm_500 : Cond.fieldLink "IceTunes$Forecast" (9 : Nat) "IceTunes$Forecast" "row" "[I" ∈ wt := wt_of 500 (by decide +kernel) (by decide +kernel)
theorem wm_501 : Cond.fieldLink "IceTunes$Forecast" (15 : Nat) "IceTunes$Forecast" "best" "[I" ∈ wt := wt_of 501 (by decide +kernel) (by decide +kernel)
theorem nm_502 : Cond.fieldLinkNest "IceTunes" (202 : Nat) "IceTunes$Forecast" "best" "[I" "IceTunes" ∈ nw := nw_of 502 (by decide +kernel) rfl
theorem wm_503 : Cond.fieldLink "IceTunes$Forecast" (26 : Nat) "IceTunes$Forecast" "fewest" "I" ∈ wt := wt_of 503 (by decide +kernel) (by decide +kernel)
theorem nm_504 : Cond.fieldLinkNest "IceTunes" (228 : Nat) "IceTunes$Forecast" "fewest" "I" "IceTunes" ∈ nw := nw_of 504 (by decide +kernel) rfl
theorem wm_516 : Cond.classLink "IceTunes" (77 : Nat) "IceTunes$Duel" ∈ wt := wt_of 516 (by decide +kernel) (by decide +kernel)
theorem wm_517 : Cond.instantiable "IceTunes$Duel" (5 : Nat) ∈ wt := wt_of 517 (by decide +kernel) (by decide +kernel)
theorem nm_518 : Cond.methodLinkNest "IceTunes" (79 : Nat) ({ cls := "IceTunes$Duel", name := "<init>", desc := "(LIceTunes$Band;[LIceTunes$Evening;)V" } : Jvm.MethodName) "IceTunes" ∈ nw := nw_of 518 (by decide +kernel) rfl
theorem wm_519 : Cond.instanceMethod ({ cls := "IceTunes$Duel", name := "<init>", desc := "(LIceTunes$Band;[LIceTunes$Evening;)V" } : Jvm.MethodName) ∈ wt := wt_of 519 (by decide +kernel) (by decide +kernel)
theorem wm_520 : Cond.code ({ cls := "IceTunes$Duel", name := "<init>", desc := "(LIceTunes$Band;[LIceTunes$Evening;)V" } : Jvm.MethodName) prog_3_method_1_code (3 : Nat) (Option.none : Option Jvm.ClassFile.FieldType) ∈ wt := wt_of 520 (by decide +kernel) (by decide +kernel)
theorem wm_521 : Cond.methodLink "IceTunes$Duel" (3 : Nat) ({ cls := "java/lang/Object", name := "<init>", desc := "()V" } : Jvm.MethodName) ∈ wt := wt_of 521 (by decide +kernel) (by decide +kernel)
theorem wm_522 : Cond.fieldLink "IceTunes$Duel" (9 : Nat) "IceTunes$Duel" "band" "LIceTunes$Band;" ∈ wt := wt_of 522 (by decide +kernel) (by decide +kernel)
theorem wm_523 : Cond.fieldLink "IceTunes$Duel" (15 : Nat) "IceTunes$Duel" "desk" "[LIceTunes$Evening;" ∈ wt := wt_of 523 (by decide +kernel) (by decide +kernel)
theorem wm_524 : Cond.fieldLink "IceTunes$Duel" (19 : Nat) "IceTunes$Duel" "set" "I" ∈ wt := wt_of 524 (by decide +kernel) (by decide +kernel)
theorem wm_525 : Cond.fieldLink "IceTunes$Duel" (23 : Nat) "IceTunes$Duel" "turns" "I" ∈ wt := wt_of 525 (by decide +kernel) (by decide +kernel)
theorem wm_526 : Cond.fieldLink "IceTunes$Duel" (26 : Nat) "IceTunes$Duel" "choice" "I" ∈ wt := wt_of 526 (by decide +kernel) (by decide +kernel)
theorem nm_527 : Cond.fieldLinkNest "IceTunes" (219 : Nat) "IceTunes$Duel" "choice" "I" "IceTunes" ∈ nw := nw_of 527 (by decide +kernel) rfl
theorem wm_539 : Cond.classLink "IceTunes" (84 : Nat) "IceTunes$Rows" ∈ wt := wt_of 539 (by decide +kernel) (by decide +kernel)
theorem wm_540 : Cond.instantiable "IceTunes$Rows" (10 : Nat) ∈ wt := wt_of 540 (by decide +kernel) (by decide +kernel)
theorem nm_541 : Cond.methodLinkNest "IceTunes" (86 : Nat) ({ cls := "IceTunes$Rows", name := "<init>", desc := "(LIceTunes$Band;[LIceTunes$Evening;LIceTunes$Sights;)V" } : Jvm.MethodName) "IceTunes" ∈ nw := nw_of 541 (by decide +kernel) rfl
theorem wm_542 : Cond.instanceMethod ({ cls := "IceTunes$Rows", name := "<init>", desc := "(LIceTunes$Band;[LIceTunes$Evening;LIceTunes$Sights;)V" } : Jvm.MethodName) ∈ wt := wt_of 542 (by decide +kernel) (by decide +kernel)
theorem wm_543 : Cond.code ({ cls := "IceTunes$Rows", name := "<init>", desc := "(LIceTunes$Band;[LIceTunes$Evening;LIceTunes$Sights;)V" } : Jvm.MethodName) prog_9_method_1_code (4 : Nat) (Option.none : Option Jvm.ClassFile.FieldType) ∈ wt := wt_of 543 (by decide +kernel) (by decide +kernel)
theorem wm_544 : Cond.methodLink "IceTunes$Rows" (3 : Nat) ({ cls := "java/lang/Object", name := "<init>", desc := "()V" } : Jvm.MethodName) ∈ wt := wt_of 544 (by decide +kernel) (by decide +kernel)
theorem wm_545 : Cond.fieldLink "IceTunes$Rows" (21 : Nat) "IceTunes$Rows" "band" "LIceTunes$Band;" ∈ wt := wt_of 545 (by decide +kernel) (by decide +kernel)
theorem wm_546 : Cond.fieldLink "IceTunes$Rows" (25 : Nat) "IceTunes$Rows" "desk" "[LIceTunes$Evening;" ∈ wt := wt_of 546 (by decide +kernel) (by decide +kernel)
theorem wm_547 : Cond.fieldLink "IceTunes$Rows" (29 : Nat) "IceTunes$Rows" "sights" "LIceTunes$Sights;" ∈ wt := wt_of 547 (by decide +kernel) (by decide +kernel)
theorem wm_548 : Cond.fieldLink "IceTunes$Rows" (9 : Nat) "IceTunes$Rows" "row" "[I" ∈ wt := wt_of 548 (by decide +kernel) (by decide +kernel)
theorem wm_549 : Cond.fieldLink "IceTunes$Rows" (15 : Nat) "IceTunes$Rows" "first" "[I" ∈ wt := wt_of 549 (by decide +kernel) (by decide +kernel)
theorem nm_550 : Cond.fieldLinkNest "IceTunes" (256 : Nat) "IceTunes$Rows" "first" "[I" "IceTunes" ∈ nw := nw_of 550 (by decide +kernel) rfl
theorem wm_551 : Cond.fieldLink "IceTunes$Rows" (18 : Nat) "IceTunes$Rows" "only" "[I" ∈ wt := wt_of 551 (by decide +kernel) (by decide +kernel)
theorem nm_552 : Cond.fieldLinkNest "IceTunes" (259 : Nat) "IceTunes$Rows" "only" "[I" "IceTunes" ∈ nw := nw_of 552 (by decide +kernel) rfl
theorem wm_553 : Cond.fieldLink "IceTunes$Rows" (33 : Nat) "IceTunes$Rows" "found" "I" ∈ wt := wt_of 553 (by decide +kernel) (by decide +kernel)
theorem wm_554 : Cond.fieldLink "IceTunes$Rows" (37 : Nat) "IceTunes$Rows" "tunes" "I" ∈ wt := wt_of 554 (by decide +kernel) (by decide +kernel)
theorem wm_555 : Cond.fieldLink "IceTunes$Rows" (40 : Nat) "IceTunes$Rows" "known" "I" ∈ wt := wt_of 555 (by decide +kernel) (by decide +kernel)
theorem wm_556 : Cond.fieldLink "IceTunes$Rows" (49 : Nat) "IceTunes$Rows" "lastBar" "I" ∈ wt := wt_of 556 (by decide +kernel) (by decide +kernel)
theorem nm_578 : Cond.methodLinkNest "IceTunes" (93 : Nat) ({ cls := "IceTunes$History", name := "now", desc := "()LIceTunes$Evening;" } : Jvm.MethodName) "IceTunes" ∈ nw := nw_of 578 (by decide +kernel) rfl
theorem wm_580 : Cond.instanceMethod ({ cls := "IceTunes$History", name := "now", desc := "()LIceTunes$Evening;" } : Jvm.MethodName) ∈ wt := wt_of 580 (by decide +kernel) (by decide +kernel)
theorem wm_581 : Cond.code ({ cls := "IceTunes$History", name := "now", desc := "()LIceTunes$Evening;" } : Jvm.MethodName) prog_6_method_2_code (1 : Nat) (Option.some (Jvm.ClassFile.FieldType.object "IceTunes$Evening")) ∈ wt := wt_of 581 (by decide +kernel) (by decide +kernel)
theorem nm_582 : Cond.methodLinkNest "IceTunes" (97 : Nat) ({ cls := "IceTunes$Evening", name := "begin", desc := "(LIceTunes$Pond;)V" } : Jvm.MethodName) "IceTunes" ∈ nw := nw_of 582 (by decide +kernel) rfl
theorem wm_584 : Cond.instanceMethod ({ cls := "IceTunes$Evening", name := "begin", desc := "(LIceTunes$Pond;)V" } : Jvm.MethodName) ∈ wt := wt_of 584 (by decide +kernel) (by decide +kernel)
theorem wm_585 : Cond.code ({ cls := "IceTunes$Evening", name := "begin", desc := "(LIceTunes$Pond;)V" } : Jvm.MethodName) prog_4_method_2_code (3 : Nat) (Option.none : Option Jvm.ClassFile.FieldType) ∈ wt := wt_of 585 (by decide +kernel) (by decide +kernel)
