/-! the words of the tables that are used, by their places -/
def px_sub : Nat → List Jvm.Cond
  | 0 => k2_sels lw_privs
  | 1 => tables_1_1
  | 2 => tables_1_2
  | 3 => tables_1_3
  | 4 => tables_1_4
  | 5 => tables_1_5
  | 6 => tables_1_6
  | 7 => tables_1_7
  | _ => []
theorem px_ins (k : Nat) {w : Jvm.Cond} (h : w ∈ px_sub k) : w ∈ lw_tbl := by
  unfold lw_tbl tables_1
  match k, h with
  | 0, h => exact List.mem_append_left _ h
  | 1, h => exact List.mem_append_right _ (List.mem_append_left _ h)
  | 2, h => exact List.mem_append_right _ (List.mem_append_right _ (List.mem_append_left _ h))
  | 3, h => exact List.mem_append_right _ (List.mem_append_right _ (List.mem_append_right _ (List.mem_append_left _ h)))
  | 4, h => exact List.mem_append_right _ (List.mem_append_right _ (List.mem_append_right _ (List.mem_append_right _ (List.mem_append_left _ h))))
  | 5, h => exact List.mem_append_right _ (List.mem_append_right _ (List.mem_append_right _ (List.mem_append_right _ (List.mem_append_right _ (List.mem_append_left _ h)))))
  | 6, h => exact List.mem_append_right _ (List.mem_append_right _ (List.mem_append_right _ (List.mem_append_right _ (List.mem_append_right _ (List.mem_append_right _ (List.mem_append_left _ h))))))
  | 7, h => exact List.mem_append_right _ (List.mem_append_right _ (List.mem_append_right _ (List.mem_append_right _ (List.mem_append_right _ (List.mem_append_right _ (List.mem_append_right _ (h)))))))
  | n + 8, h => exact absurd h List.not_mem_nil
theorem px_q0 : Jvm.Cond.selects "DotScreens$Reader" ⟨"DotScreens$Reader", "pass", "()V"⟩ ⟨"DotScreens$Reader", "pass", "()V"⟩ ∈ px_T := px_inT (px_ins 0 (List.mem_of_getElem? (i := 0) rfl)) rfl
theorem px_q1 : Jvm.Cond.selects "DotScreens$Reader" ⟨"DotScreens$Reader", "move", "()V"⟩ ⟨"DotScreens$Reader", "move", "()V"⟩ ∈ px_T := px_inT (px_ins 0 (List.mem_of_getElem? (i := 1) rfl)) rfl
theorem px_q2 : Jvm.Cond.selects "DotScreens$Reader" ⟨"DotScreens$Reader", "readClause", "()Z"⟩ ⟨"DotScreens$Reader", "readClause", "()Z"⟩ ∈ px_T := px_inT (px_ins 0 (List.mem_of_getElem? (i := 2) rfl)) rfl
theorem px_q3 : Jvm.Cond.selects "DotScreens$Reader" ⟨"DotScreens$Reader", "failAt", "(I)Z"⟩ ⟨"DotScreens$Reader", "failAt", "(I)Z"⟩ ∈ px_T := px_inT (px_ins 0 (List.mem_of_getElem? (i := 3) rfl)) rfl
theorem px_q4 : Jvm.Cond.selects "DotScreens$Reader" ⟨"DotScreens$Reader", "readScreen", "()Z"⟩ ⟨"DotScreens$Reader", "readScreen", "()Z"⟩ ∈ px_T := px_inT (px_ins 0 (List.mem_of_getElem? (i := 4) rfl)) rfl
theorem px_q5 : Jvm.Cond.selects "DotScreens$Reader" ⟨"DotScreens$Reader", "readCouple", "(II)Z"⟩ ⟨"DotScreens$Reader", "readCouple", "(II)Z"⟩ ∈ px_T := px_inT (px_ins 0 (List.mem_of_getElem? (i := 5) rfl)) rfl
theorem px_q6 : Jvm.Cond.selects "DotScreens$Reader" ⟨"DotScreens$Reader", "readNumber", "(III)Z"⟩ ⟨"DotScreens$Reader", "readNumber", "(III)Z"⟩ ∈ px_T := px_inT (px_ins 0 (List.mem_of_getElem? (i := 6) rfl)) rfl
theorem px_q7 : Jvm.Cond.selects "DotScreens$Reader" ⟨"DotScreens$Reader", "tell", "(II)V"⟩ ⟨"DotScreens$Reader", "tell", "(II)V"⟩ ∈ px_T := px_inT (px_ins 0 (List.mem_of_getElem? (i := 7) rfl)) rfl
theorem px_q8 : Jvm.Cond.selects "DotScreens$Reader" ⟨"DotScreens$Reader", "readLetter", "()Z"⟩ ⟨"DotScreens$Reader", "readLetter", "()Z"⟩ ∈ px_T := px_inT (px_ins 0 (List.mem_of_getElem? (i := 8) rfl)) rfl
theorem px_q9 : Jvm.Cond.selects "DotScreens" ⟨"DotScreens", "takeClause", "(I)V"⟩ ⟨"DotScreens", "takeClause", "(I)V"⟩ ∈ px_T := px_inT (px_ins 0 (List.mem_of_getElem? (i := 9) rfl)) rfl
theorem px_q10 : Jvm.Cond.selects "DotScreens" ⟨"DotScreens", "isInk", "(I)Z"⟩ ⟨"DotScreens", "isInk", "(I)Z"⟩ ∈ px_T := px_inT (px_ins 0 (List.mem_of_getElem? (i := 10) rfl)) rfl
theorem px_q11 : Jvm.Cond.selects "DotScreens$Reduction" ⟨"DotScreens$Reduction", "shorten", "(LDotScreens$Grid;)V"⟩ ⟨"DotScreens$Reduction", "shorten", "(LDotScreens$Grid;)V"⟩ ∈ px_T := px_inT (px_ins 0 (List.mem_of_getElem? (i := 11) rfl)) rfl
theorem px_q12 : Jvm.Cond.selects "DotScreens$Reduction" ⟨"DotScreens$Reduction", "swapMoves", "()V"⟩ ⟨"DotScreens$Reduction", "swapMoves", "()V"⟩ ∈ px_T := px_inT (px_ins 0 (List.mem_of_getElem? (i := 12) rfl)) rfl
theorem px_q13 : Jvm.Cond.selects "DotScreens$Reduction" ⟨"DotScreens$Reduction", "findFirst", "()V"⟩ ⟨"DotScreens$Reduction", "findFirst", "()V"⟩ ∈ px_T := px_inT (px_ins 0 (List.mem_of_getElem? (i := 13) rfl)) rfl
theorem px_q14 : Jvm.Cond.selects "DotScreens$Reduction" ⟨"DotScreens$Reduction", "findSecond", "(J)V"⟩ ⟨"DotScreens$Reduction", "findSecond", "(J)V"⟩ ∈ px_T := px_inT (px_ins 0 (List.mem_of_getElem? (i := 14) rfl)) rfl
theorem px_q15 : Jvm.Cond.selects "DotScreens$Ink" ⟨"DotScreens$Ink", "spotOf", "(II)I"⟩ ⟨"DotScreens$Ink", "spotOf", "(II)I"⟩ ∈ px_T := px_inT (px_ins 0 (List.mem_of_getElem? (i := 15) rfl)) rfl
theorem px_q16 : Jvm.Cond.selects "DotScreens$Ink" ⟨"DotScreens$Ink", "spotInRow", "(III)I"⟩ ⟨"DotScreens$Ink", "spotInRow", "(III)I"⟩ ∈ px_T := px_inT (px_ins 0 (List.mem_of_getElem? (i := 16) rfl)) rfl
theorem px_q17 : Jvm.Cond.selects "DotScreens$Ink" ⟨"DotScreens$Ink", "riseTo", "(II)I"⟩ ⟨"DotScreens$Ink", "riseTo", "(II)I"⟩ ∈ px_T := px_inT (px_ins 0 (List.mem_of_getElem? (i := 17) rfl)) rfl
theorem px_q18 : Jvm.Cond.selects "DotScreens$Ink" ⟨"DotScreens$Ink", "measure", "(II)I"⟩ ⟨"DotScreens$Ink", "measure", "(II)I"⟩ ∈ px_T := px_inT (px_ins 0 (List.mem_of_getElem? (i := 18) rfl)) rfl
theorem px_q19 : Jvm.Cond.selects "DotScreens$Ink" ⟨"DotScreens$Ink", "inRows", "(II)I"⟩ ⟨"DotScreens$Ink", "inRows", "(II)I"⟩ ∈ px_T := px_inT (px_ins 0 (List.mem_of_getElem? (i := 19) rfl)) rfl
theorem px_q20 : Jvm.Cond.selects "DotScreens$Growth" ⟨"DotScreens$Growth", "comeIn", "(LDotScreens$Ink;II)V"⟩ ⟨"DotScreens$Growth", "comeIn", "(LDotScreens$Ink;II)V"⟩ ∈ px_T := px_inT (px_ins 0 (List.mem_of_getElem? (i := 20) rfl)) rfl
theorem px_q21 : Jvm.Cond.selects "DotScreens$Growth" ⟨"DotScreens$Growth", "join", "(IIIII)V"⟩ ⟨"DotScreens$Growth", "join", "(IIIII)V"⟩ ∈ px_T := px_inT (px_ins 0 (List.mem_of_getElem? (i := 21) rfl)) rfl
theorem px_q22 : Jvm.Cond.selects "DotScreens$Growth" ⟨"DotScreens$Growth", "find", "(I)I"⟩ ⟨"DotScreens$Growth", "find", "(I)I"⟩ ∈ px_T := px_inT (px_ins 0 (List.mem_of_getElem? (i := 22) rfl)) rfl
theorem px_q23 : Jvm.Cond.selects "DotScreens$Growth" ⟨"DotScreens$Growth", "comeRound", "(III)V"⟩ ⟨"DotScreens$Growth", "comeRound", "(III)V"⟩ ∈ px_T := px_inT (px_ins 0 (List.mem_of_getElem? (i := 23) rfl)) rfl
theorem px_q24 : Jvm.Cond.selects "DotScreens$Growth" ⟨"DotScreens$Growth", "hang", "(IIII)V"⟩ ⟨"DotScreens$Growth", "hang", "(IIII)V"⟩ ∈ px_T := px_inT (px_ins 0 (List.mem_of_getElem? (i := 24) rfl)) rfl
theorem px_q25 : Jvm.Cond.selects "DotScreens" ⟨"DotScreens", "isSet", "(I)Z"⟩ ⟨"DotScreens", "isSet", "(I)Z"⟩ ∈ px_T := px_inT (px_ins 0 (List.mem_of_getElem? (i := 25) rfl)) rfl
theorem px_q26 : Jvm.Cond.selects "DotScreens" ⟨"DotScreens", "meet", "(I)V"⟩ ⟨"DotScreens", "meet", "(I)V"⟩ ∈ px_T := px_inT (px_ins 0 (List.mem_of_getElem? (i := 26) rfl)) rfl
theorem px_q27 : Jvm.Cond.selects "DotScreens" ⟨"DotScreens", "startRow", "(II)V"⟩ ⟨"DotScreens", "startRow", "(II)V"⟩ ∈ px_T := px_inT (px_ins 0 (List.mem_of_getElem? (i := 27) rfl)) rfl
theorem px_q28 : Jvm.Cond.selects "DotScreens" ⟨"DotScreens", "passPixel", "()I"⟩ ⟨"DotScreens", "passPixel", "()I"⟩ ∈ px_T := px_inT (px_ins 0 (List.mem_of_getElem? (i := 28) rfl)) rfl
theorem px_q29 : Jvm.Cond.selects "DotScreens$Chooser" ⟨"DotScreens$Chooser", "listSquares", "(II)V"⟩ ⟨"DotScreens$Chooser", "listSquares", "(II)V"⟩ ∈ px_T := px_inT (px_ins 0 (List.mem_of_getElem? (i := 29) rfl)) rfl
theorem px_q30 : Jvm.Cond.selects "DotScreens$Chooser" ⟨"DotScreens$Chooser", "compareSquares", "()V"⟩ ⟨"DotScreens$Chooser", "compareSquares", "()V"⟩ ∈ px_T := px_inT (px_ins 0 (List.mem_of_getElem? (i := 30) rfl)) rfl
theorem px_q31 : Jvm.Cond.selects "DotScreens$Chooser" ⟨"DotScreens$Chooser", "propose", "(IIII)V"⟩ ⟨"DotScreens$Chooser", "propose", "(IIII)V"⟩ ∈ px_T := px_inT (px_ins 0 (List.mem_of_getElem? (i := 31) rfl)) rfl
theorem px_q32 : Jvm.Cond.selects "DotScreens$Chooser" ⟨"DotScreens$Chooser", "isBehind", "(II)Z"⟩ ⟨"DotScreens$Chooser", "isBehind", "(II)Z"⟩ ∈ px_T := px_inT (px_ins 0 (List.mem_of_getElem? (i := 32) rfl)) rfl
theorem px_q33 : Jvm.Cond.selects "DotScreens$Chooser" ⟨"DotScreens$Chooser", "proposeThirds", "(II)V"⟩ ⟨"DotScreens$Chooser", "proposeThirds", "(II)V"⟩ ∈ px_T := px_inT (px_ins 0 (List.mem_of_getElem? (i := 33) rfl)) rfl
theorem px_q34 : Jvm.Cond.selects "DotScreens" ⟨"DotScreens", "leastFarBeside", "(I)V"⟩ ⟨"DotScreens", "leastFarBeside", "(I)V"⟩ ∈ px_T := px_inT (px_ins 0 (List.mem_of_getElem? (i := 34) rfl)) rfl
theorem px_q35 : Jvm.Cond.selects "DotScreens" ⟨"DotScreens", "refuse", "(I)I"⟩ ⟨"DotScreens", "refuse", "(I)I"⟩ ∈ px_T := px_inT (px_ins 0 (List.mem_of_getElem? (i := 35) rfl)) rfl
theorem px_q36 : Jvm.Cond.selects "DotScreens" ⟨"DotScreens", "endCouple", "(Z)I"⟩ ⟨"DotScreens", "endCouple", "(Z)I"⟩ ∈ px_T := px_inT (px_ins 0 (List.mem_of_getElem? (i := 36) rfl)) rfl
theorem px_q37 : Jvm.Cond.selects "DotScreens" ⟨"DotScreens", "alikeCouples", "()I"⟩ ⟨"DotScreens", "alikeCouples", "()I"⟩ ∈ px_T := px_inT (px_ins 0 (List.mem_of_getElem? (i := 37) rfl)) rfl
theorem px_q38 : Jvm.Cond.selects "DotScreens" ⟨"DotScreens", "greatestCell", "()I"⟩ ⟨"DotScreens", "greatestCell", "()I"⟩ ∈ px_T := px_inT (px_ins 0 (List.mem_of_getElem? (i := 38) rfl)) rfl
theorem px_q39 : Jvm.Cond.selects "DotScreens" ⟨"DotScreens", "inkedPixels", "()I"⟩ ⟨"DotScreens", "inkedPixels", "()I"⟩ ∈ px_T := px_inT (px_ins 0 (List.mem_of_getElem? (i := 39) rfl)) rfl
theorem px_q40 : Jvm.Cond.selects "DotScreens" ⟨"DotScreens", "inksGrown", "(Z)I"⟩ ⟨"DotScreens", "inksGrown", "(Z)I"⟩ ∈ px_T := px_inT (px_ins 0 (List.mem_of_getElem? (i := 40) rfl)) rfl
theorem px_q42 : Jvm.Cond.selects "DotScreensModel" ⟨"DotScreensModel", "readAll", "()I"⟩ ⟨"DotScreensModel", "readAll", "()I"⟩ ∈ px_T := px_inT (px_ins 0 (List.mem_of_getElem? (i := 42) rfl)) rfl
theorem px_q43 : Jvm.Cond.selects "DotScreensModel" ⟨"DotScreensModel", "ahead", "()I"⟩ ⟨"DotScreensModel", "ahead", "()I"⟩ ∈ px_T := px_inT (px_ins 0 (List.mem_of_getElem? (i := 43) rfl)) rfl
theorem px_q44 : Jvm.Cond.selects "DotScreensModel" ⟨"DotScreensModel", "here", "()I"⟩ ⟨"DotScreensModel", "here", "()I"⟩ ∈ px_T := px_inT (px_ins 0 (List.mem_of_getElem? (i := 44) rfl)) rfl
theorem px_q45 : Jvm.Cond.selects "DotScreensModel" ⟨"DotScreensModel", "clause", "()V"⟩ ⟨"DotScreensModel", "clause", "()V"⟩ ∈ px_T := px_inT (px_ins 0 (List.mem_of_getElem? (i := 45) rfl)) rfl
theorem px_q46 : Jvm.Cond.selects "DotScreensModel" ⟨"DotScreensModel", "bad", "()V"⟩ ⟨"DotScreensModel", "bad", "()V"⟩ ∈ px_T := px_inT (px_ins 0 (List.mem_of_getElem? (i := 46) rfl)) rfl
theorem px_q47 : Jvm.Cond.selects "DotScreensModel" ⟨"DotScreensModel", "must", "(I)V"⟩ ⟨"DotScreensModel", "must", "(I)V"⟩ ∈ px_T := px_inT (px_ins 0 (List.mem_of_getElem? (i := 47) rfl)) rfl
theorem px_q48 : Jvm.Cond.selects "DotScreensModel" ⟨"DotScreensModel", "readScreen", "(I)V"⟩ ⟨"DotScreensModel", "readScreen", "(I)V"⟩ ∈ px_T := px_inT (px_ins 0 (List.mem_of_getElem? (i := 48) rfl)) rfl
theorem px_q49 : Jvm.Cond.selects "DotScreensModel" ⟨"DotScreensModel", "number", "(I)I"⟩ ⟨"DotScreensModel", "number", "(I)I"⟩ ∈ px_T := px_inT (px_ins 0 (List.mem_of_getElem? (i := 49) rfl)) rfl
theorem px_q50 : Jvm.Cond.selects "DotScreensModel" ⟨"DotScreensModel", "takes", "(I)Z"⟩ ⟨"DotScreensModel", "takes", "(I)Z"⟩ ∈ px_T := px_inT (px_ins 0 (List.mem_of_getElem? (i := 50) rfl)) rfl
theorem px_q51 : Jvm.Cond.selects "DotScreensModel" ⟨"DotScreensModel", "digits", "(IIIZ)I"⟩ ⟨"DotScreensModel", "digits", "(IIIZ)I"⟩ ∈ px_T := px_inT (px_ins 0 (List.mem_of_getElem? (i := 51) rfl)) rfl
theorem px_q52 : Jvm.Cond.selects "DotScreensModel" ⟨"DotScreensModel", "letterHere", "()I"⟩ ⟨"DotScreensModel", "letterHere", "()I"⟩ ∈ px_T := px_inT (px_ins 0 (List.mem_of_getElem? (i := 52) rfl)) rfl
theorem px_q53 : Jvm.Cond.selects "DotScreensModel" ⟨"DotScreensModel", "readLetter", "(II)V"⟩ ⟨"DotScreensModel", "readLetter", "(II)V"⟩ ∈ px_T := px_inT (px_ins 0 (List.mem_of_getElem? (i := 53) rfl)) rfl
theorem px_q54 : Jvm.Cond.selects "DotScreensModel" ⟨"DotScreensModel", "isInk", "(I)Z"⟩ ⟨"DotScreensModel", "isInk", "(I)Z"⟩ ∈ px_T := px_inT (px_ins 0 (List.mem_of_getElem? (i := 54) rfl)) rfl
theorem px_q55 : Jvm.Cond.selects "DotScreensModel" ⟨"DotScreensModel", "cellOf", "(I)I"⟩ ⟨"DotScreensModel", "cellOf", "(I)I"⟩ ∈ px_T := px_inT (px_ins 0 (List.mem_of_getElem? (i := 55) rfl)) rfl
theorem px_q56 : Jvm.Cond.selects "DotScreensModel" ⟨"DotScreensModel", "sided", "(I)I"⟩ ⟨"DotScreensModel", "sided", "(I)I"⟩ ∈ px_T := px_inT (px_ins 0 (List.mem_of_getElem? (i := 56) rfl)) rfl
theorem px_q57 : Jvm.Cond.selects "DotScreensModel" ⟨"DotScreensModel", "of", "(II)I"⟩ ⟨"DotScreensModel", "of", "(II)I"⟩ ∈ px_T := px_inT (px_ins 0 (List.mem_of_getElem? (i := 57) rfl)) rfl
theorem px_q58 : Jvm.Cond.selects "DotScreensModel" ⟨"DotScreensModel", "levelOf", "(I)I"⟩ ⟨"DotScreensModel", "levelOf", "(I)I"⟩ ∈ px_T := px_inT (px_ins 0 (List.mem_of_getElem? (i := 58) rfl)) rfl
theorem px_q59 : Jvm.Cond.selects "DotScreensModel" ⟨"DotScreensModel", "laysBrick", "(I)V"⟩ ⟨"DotScreensModel", "laysBrick", "(I)V"⟩ ∈ px_T := px_inT (px_ins 0 (List.mem_of_getElem? (i := 59) rfl)) rfl
theorem px_q60 : Jvm.Cond.selects "DotScreensModel" ⟨"DotScreensModel", "laysHome", "(II)V"⟩ ⟨"DotScreensModel", "laysHome", "(II)V"⟩ ∈ px_T := px_inT (px_ins 0 (List.mem_of_getElem? (i := 60) rfl)) rfl
theorem px_q61 : Jvm.Cond.selects "DotScreensModel" ⟨"DotScreensModel", "laysReduced", "()V"⟩ ⟨"DotScreensModel", "laysReduced", "()V"⟩ ∈ px_T := px_inT (px_ins 0 (List.mem_of_getElem? (i := 61) rfl)) rfl
theorem px_q62 : Jvm.Cond.selects "DotScreensModel" ⟨"DotScreensModel", "laysSecond", "(JJJJ)V"⟩ ⟨"DotScreensModel", "laysSecond", "(JJJJ)V"⟩ ∈ px_T := px_inT (px_ins 0 (List.mem_of_getElem? (i := 62) rfl)) rfl
theorem px_q63 : Jvm.Cond.selects "DotScreensModel" ⟨"DotScreensModel", "reducedBy", "(I)J"⟩ ⟨"DotScreensModel", "reducedBy", "(I)J"⟩ ∈ px_T := px_inT (px_ins 0 (List.mem_of_getElem? (i := 63) rfl)) rfl
theorem px_q64 : Jvm.Cond.selects "DotScreensModel" ⟨"DotScreensModel", "spotOf", "(III)I"⟩ ⟨"DotScreensModel", "spotOf", "(III)I"⟩ ∈ px_T := px_inT (px_ins 0 (List.mem_of_getElem? (i := 64) rfl)) rfl
theorem px_q65 : Jvm.Cond.selects "DotScreensModel" ⟨"DotScreensModel", "laysRanks", "(I)V"⟩ ⟨"DotScreensModel", "laysRanks", "(I)V"⟩ ∈ px_T := px_inT (px_ins 0 (List.mem_of_getElem? (i := 65) rfl)) rfl
theorem px_q66 : Jvm.Cond.selects "DotScreensModel" ⟨"DotScreensModel", "homeAt", "(II)I"⟩ ⟨"DotScreensModel", "homeAt", "(II)I"⟩ ∈ px_T := px_inT (px_ins 0 (List.mem_of_getElem? (i := 66) rfl)) rfl
theorem px_q67 : Jvm.Cond.selects "DotScreensModel" ⟨"DotScreensModel", "rankHere", "(III)I"⟩ ⟨"DotScreensModel", "rankHere", "(III)I"⟩ ∈ px_T := px_inT (px_ins 0 (List.mem_of_getElem? (i := 67) rfl)) rfl
theorem px_q68 : Jvm.Cond.selects "DotScreensModel" ⟨"DotScreensModel", "rankAt", "(II)I"⟩ ⟨"DotScreensModel", "rankAt", "(II)I"⟩ ∈ px_T := px_inT (px_ins 0 (List.mem_of_getElem? (i := 68) rfl)) rfl
theorem px_q69 : Jvm.Cond.selects "DotScreensModel" ⟨"DotScreensModel", "laysLots", "(II)V"⟩ ⟨"DotScreensModel", "laysLots", "(II)V"⟩ ∈ px_T := px_inT (px_ins 0 (List.mem_of_getElem? (i := 69) rfl)) rfl
theorem px_q70 : Jvm.Cond.selects "DotScreensModel" ⟨"DotScreensModel", "goesFrom", "(II)V"⟩ ⟨"DotScreensModel", "goesFrom", "(II)V"⟩ ∈ px_T := px_inT (px_ins 0 (List.mem_of_getElem? (i := 70) rfl)) rfl
theorem px_q71 : Jvm.Cond.selects "DotScreensModel" ⟨"DotScreensModel", "comesAgain", "(JJ)V"⟩ ⟨"DotScreensModel", "comesAgain", "(JJ)V"⟩ ∈ px_T := px_inT (px_ins 0 (List.mem_of_getElem? (i := 71) rfl)) rfl
theorem px_q72 : Jvm.Cond.selects "DotScreensModel" ⟨"DotScreensModel", "grownOf", "(IZ)I"⟩ ⟨"DotScreensModel", "grownOf", "(IZ)I"⟩ ∈ px_T := px_inT (px_ins 0 (List.mem_of_getElem? (i := 72) rfl)) rfl
theorem px_q73 : Jvm.Cond.selects "DotScreensModel" ⟨"DotScreensModel", "laysPair", "(JJ)V"⟩ ⟨"DotScreensModel", "laysPair", "(JJ)V"⟩ ∈ px_T := px_inT (px_ins 0 (List.mem_of_getElem? (i := 73) rfl)) rfl
theorem px_q74 : Jvm.Cond.selects "DotScreensModel" ⟨"DotScreensModel", "laysBeatOf", "(II)V"⟩ ⟨"DotScreensModel", "laysBeatOf", "(II)V"⟩ ∈ px_T := px_inT (px_ins 0 (List.mem_of_getElem? (i := 74) rfl)) rfl
theorem px_q75 : Jvm.Cond.selects "DotScreensModel" ⟨"DotScreensModel", "laysBeat", "(IIIIIIII)V"⟩ ⟨"DotScreensModel", "laysBeat", "(IIIIIIII)V"⟩ ∈ px_T := px_inT (px_ins 0 (List.mem_of_getElem? (i := 75) rfl)) rfl
theorem px_q76 : Jvm.Cond.selects "DotScreensModel" ⟨"DotScreensModel", "upperOf", "(II)J"⟩ ⟨"DotScreensModel", "upperOf", "(II)J"⟩ ∈ px_T := px_inT (px_ins 0 (List.mem_of_getElem? (i := 76) rfl)) rfl
theorem px_q77 : Jvm.Cond.selects "DotScreensModel" ⟨"DotScreensModel", "isSet", "(I)Z"⟩ ⟨"DotScreensModel", "isSet", "(I)Z"⟩ ∈ px_T := px_inT (px_ins 0 (List.mem_of_getElem? (i := 77) rfl)) rfl
theorem px_q78 : Jvm.Cond.selects "DotScreensModel" ⟨"DotScreensModel", "laysCommon", "(I)V"⟩ ⟨"DotScreensModel", "laysCommon", "(I)V"⟩ ∈ px_T := px_inT (px_ins 0 (List.mem_of_getElem? (i := 78) rfl)) rfl
theorem px_q79 : Jvm.Cond.selects "DotScreensModel" ⟨"DotScreensModel", "meets", "(JJJ)V"⟩ ⟨"DotScreensModel", "meets", "(JJJ)V"⟩ ∈ px_T := px_inT (px_ins 0 (List.mem_of_getElem? (i := 79) rfl)) rfl
theorem px_q80 : Jvm.Cond.selects "DotScreensModel" ⟨"DotScreensModel", "superCell", "()J"⟩ ⟨"DotScreensModel", "superCell", "()J"⟩ ∈ px_T := px_inT (px_ins 0 (List.mem_of_getElem? (i := 80) rfl)) rfl
theorem px_q81 : Jvm.Cond.selects "DotScreensModel" ⟨"DotScreensModel", "laysRow", "(III)V"⟩ ⟨"DotScreensModel", "laysRow", "(III)V"⟩ ∈ px_T := px_inT (px_ins 0 (List.mem_of_getElem? (i := 81) rfl)) rfl
theorem px_q82 : Jvm.Cond.selects "DotScreensModel" ⟨"DotScreensModel", "counts", "(IIII)V"⟩ ⟨"DotScreensModel", "counts", "(IIII)V"⟩ ∈ px_T := px_inT (px_ins 0 (List.mem_of_getElem? (i := 82) rfl)) rfl
theorem px_q83 : Jvm.Cond.selects "DotScreensModel" ⟨"DotScreensModel", "laysSquares", "(II)V"⟩ ⟨"DotScreensModel", "laysSquares", "(II)V"⟩ ∈ px_T := px_inT (px_ins 0 (List.mem_of_getElem? (i := 83) rfl)) rfl
theorem px_q84 : Jvm.Cond.selects "DotScreensModel" ⟨"DotScreensModel", "tries", "([IIIJJZ)V"⟩ ⟨"DotScreensModel", "tries", "([IIIJJZ)V"⟩ ∈ px_T := px_inT (px_ins 0 (List.mem_of_getElem? (i := 84) rfl)) rfl
theorem px_q85 : Jvm.Cond.selects "DotScreensModel" ⟨"DotScreensModel", "laysFar", "(II)V"⟩ ⟨"DotScreensModel", "laysFar", "(II)V"⟩ ∈ px_T := px_inT (px_ins 0 (List.mem_of_getElem? (i := 85) rfl)) rfl
theorem px_q86 : Jvm.Cond.selects "DotScreensModel" ⟨"DotScreensModel", "refuses", "(I)I"⟩ ⟨"DotScreensModel", "refuses", "(I)I"⟩ ∈ px_T := px_inT (px_ins 0 (List.mem_of_getElem? (i := 86) rfl)) rfl
theorem px_q87 : Jvm.Cond.selects "DotScreensModel" ⟨"DotScreensModel", "put", "(III)V"⟩ ⟨"DotScreensModel", "put", "(III)V"⟩ ∈ px_T := px_inT (px_ins 0 (List.mem_of_getElem? (i := 87) rfl)) rfl
theorem px_q88 : Jvm.Cond.selects "DotScreensModel" ⟨"DotScreensModel", "tells", "(IIII)I"⟩ ⟨"DotScreensModel", "tells", "(IIII)I"⟩ ∈ px_T := px_inT (px_ins 0 (List.mem_of_getElem? (i := 88) rfl)) rfl
theorem px_q89 : Jvm.Cond.selects "DotScreensModel" ⟨"DotScreensModel", "coupleBy", "(Z)I"⟩ ⟨"DotScreensModel", "coupleBy", "(Z)I"⟩ ∈ px_T := px_inT (px_ins 0 (List.mem_of_getElem? (i := 89) rfl)) rfl
theorem px_q90 : Jvm.Cond.selects "DotScreensModel" ⟨"DotScreensModel", "alikes", "()I"⟩ ⟨"DotScreensModel", "alikes", "()I"⟩ ∈ px_T := px_inT (px_ins 0 (List.mem_of_getElem? (i := 90) rfl)) rfl
theorem px_q91 : Jvm.Cond.selects "DotScreensModel" ⟨"DotScreensModel", "cells", "(Z)I"⟩ ⟨"DotScreensModel", "cells", "(Z)I"⟩ ∈ px_T := px_inT (px_ins 0 (List.mem_of_getElem? (i := 91) rfl)) rfl
theorem px_q92 : Jvm.Cond.selects "DotScreensModel" ⟨"DotScreensModel", "grownOnes", "(Z)I"⟩ ⟨"DotScreensModel", "grownOnes", "(Z)I"⟩ ∈ px_T := px_inT (px_ins 0 (List.mem_of_getElem? (i := 92) rfl)) rfl
theorem px_q94 : Jvm.Cond.initialized "DotScreens" ∈ px_T := px_inT (px_ins 1 (List.mem_of_getElem? (i := 1) rfl)) rfl
theorem px_q95 : Jvm.Cond.initialized "DotScreens$Tape" ∈ px_T := px_inT (px_ins 1 (List.mem_of_getElem? (i := 2) rfl)) rfl
theorem px_q96 : Jvm.Cond.initialized "DotScreens$Reader" ∈ px_T := px_inT (px_ins 1 (List.mem_of_getElem? (i := 3) rfl)) rfl
theorem px_q97 : Jvm.Cond.initialized "DotScreens$Growth" ∈ px_T := px_inT (px_ins 1 (List.mem_of_getElem? (i := 4) rfl)) rfl
theorem px_q98 : Jvm.Cond.initialized "DotScreens$Grid" ∈ px_T := px_inT (px_ins 1 (List.mem_of_getElem? (i := 5) rfl)) rfl
theorem px_q99 : Jvm.Cond.initialized "DotScreens$Reduction" ∈ px_T := px_inT (px_ins 1 (List.mem_of_getElem? (i := 6) rfl)) rfl
theorem px_q100 : Jvm.Cond.initialized "DotScreens$Beat" ∈ px_T := px_inT (px_ins 1 (List.mem_of_getElem? (i := 7) rfl)) rfl
theorem px_q101 : Jvm.Cond.initialized "DotScreens$Chooser" ∈ px_T := px_inT (px_ins 1 (List.mem_of_getElem? (i := 8) rfl)) rfl
theorem px_q102 : Jvm.Cond.initialized "DotScreens$Screen" ∈ px_T := px_inT (px_ins 1 (List.mem_of_getElem? (i := 9) rfl)) rfl
theorem px_q103 : Jvm.Cond.initialized "DotScreens$Ink" ∈ px_T := px_inT (px_ins 1 (List.mem_of_getElem? (i := 10) rfl)) rfl
theorem px_q104 : Jvm.Cond.initialized "DotScreensModel" ∈ px_T := px_inT (px_ins 1 (List.mem_of_getElem? (i := 11) rfl)) rfl
theorem px_q105 : Jvm.Cond.initialized "java/lang/Math" ∈ px_T := px_inT (px_ins 1 (List.mem_of_getElem? (i := 12) rfl)) rfl
theorem px_q110 : Jvm.Cond.initialized "java/lang/Integer" ∈ px_T := px_inT (px_ins 1 (List.mem_of_getElem? (i := 17) rfl)) rfl
theorem px_q111 : Jvm.Cond.classLink "DotScreensLaw" 8 "DotScreens" ∈ px_T := px_inT (px_ins 1 (List.mem_of_getElem? (i := 18) rfl)) rfl
theorem px_q112 : Jvm.Cond.instantiable "DotScreens" 13 ∈ px_T := px_inT (px_ins 1 (List.mem_of_getElem? (i := 19) rfl)) rfl
theorem px_q113 : Jvm.Cond.methodLink "DotScreensLaw" 15 ⟨"DotScreens", "<init>", "()V"⟩ ∈ px_T := px_inT (px_ins 1 (List.mem_of_getElem? (i := 20) rfl)) rfl
theorem px_q114 : Jvm.Cond.instanceMethod ⟨"DotScreens", "<init>", "()V"⟩ ∈ px_T := px_inT (px_ins 1 (List.mem_of_getElem? (i := 21) rfl)) rfl
theorem px_q115 : Jvm.Cond.code ⟨"DotScreens", "<init>", "()V"⟩ prog_1_method_1_code 2 none ∈ px_T := px_inT (px_ins 1 (List.mem_of_getElem? (i := 22) rfl)) rfl
theorem px_q116 : Jvm.Cond.methodLink "DotScreens" 1 ⟨"java/lang/Object", "<init>", "()V"⟩ ∈ px_T := px_inT (px_ins 1 (List.mem_of_getElem? (i := 23) rfl)) rfl
theorem px_q117 : Jvm.Cond.instanceMethod ⟨"java/lang/Object", "<init>", "()V"⟩ ∈ px_T := px_inT (px_ins 1 (List.mem_of_getElem? (i := 24) rfl)) rfl
theorem px_q118 : Jvm.Cond.code ⟨"java/lang/Object", "<init>", "()V"⟩ object_method_1_code 1 none ∈ px_T := px_inT (px_ins 1 (List.mem_of_getElem? (i := 25) rfl)) rfl
theorem px_q119 : Jvm.Cond.classLink "DotScreens" 7 "DotScreens$Tape" ∈ px_T := px_inT (px_ins 1 (List.mem_of_getElem? (i := 26) rfl)) rfl
theorem px_q120 : Jvm.Cond.instantiable "DotScreens$Tape" 2 ∈ px_T := px_inT (px_ins 1 (List.mem_of_getElem? (i := 27) rfl)) rfl
theorem px_q121 : Jvm.Cond.methodLinkNest "DotScreens" 9 ⟨"DotScreens$Tape", "<init>", "()V"⟩ "DotScreens" ∈ px_TN := px_inTN (px_ins 1 (List.mem_of_getElem? (i := 28) rfl)) rfl
theorem px_q122 : Jvm.Cond.instanceMethod ⟨"DotScreens$Tape", "<init>", "()V"⟩ ∈ px_T := px_inT (px_ins 1 (List.mem_of_getElem? (i := 29) rfl)) rfl
theorem px_q123 : Jvm.Cond.code ⟨"DotScreens$Tape", "<init>", "()V"⟩ prog_10_method_1_code 1 none ∈ px_T := px_inT (px_ins 1 (List.mem_of_getElem? (i := 30) rfl)) rfl
theorem px_q124 : Jvm.Cond.methodLink "DotScreens$Tape" 3 ⟨"java/lang/Object", "<init>", "()V"⟩ ∈ px_T := px_inT (px_ins 1 (List.mem_of_getElem? (i := 31) rfl)) rfl
theorem px_q125 : Jvm.Cond.fieldLink "DotScreens$Tape" 9 "DotScreens$Tape" "bytes" "[I" ∈ px_T := px_inT (px_ins 1 (List.mem_of_getElem? (i := 32) rfl)) rfl
theorem px_q126 : Jvm.Cond.fieldLinkNest "DotScreens$Reader" 48 "DotScreens$Tape" "bytes" "[I" "DotScreens" ∈ px_TN := px_inTN (px_ins 1 (List.mem_of_getElem? (i := 33) rfl)) rfl
theorem px_q127 : Jvm.Cond.fieldLink "DotScreens$Tape" 15 "DotScreens$Tape" "length" "I" ∈ px_T := px_inT (px_ins 1 (List.mem_of_getElem? (i := 34) rfl)) rfl
theorem px_q128 : Jvm.Cond.fieldLinkNest "DotScreens" 82 "DotScreens$Tape" "length" "I" "DotScreens" ∈ px_TN := px_inTN (px_ins 1 (List.mem_of_getElem? (i := 35) rfl)) rfl
theorem px_q129 : Jvm.Cond.fieldLinkNest "DotScreens$Reader" 43 "DotScreens$Tape" "length" "I" "DotScreens" ∈ px_TN := px_inTN (px_ins 1 (List.mem_of_getElem? (i := 36) rfl)) rfl
theorem px_q130 : Jvm.Cond.laysFinal "DotScreens$Tape" "DotScreens$Tape" "bytes" "[I" ∈ px_T := px_inT (px_ins 1 (List.mem_of_getElem? (i := 37) rfl)) rfl
theorem px_q132 : Jvm.Cond.lays "DotScreens$Tape" "DotScreens$Tape" "length" "I" ∈ px_T := px_inT (px_ins 1 (List.mem_of_getElem? (i := 39) rfl)) rfl
theorem px_q135 : Jvm.Cond.arrayClass FieldType.int ∈ px_T := px_inT (px_ins 1 (List.mem_of_getElem? (i := 42) rfl)) rfl
theorem px_q136 : Jvm.Cond.classLink "DotScreens" 16 "DotScreens$Reader" ∈ px_T := px_inT (px_ins 1 (List.mem_of_getElem? (i := 43) rfl)) rfl
theorem px_q137 : Jvm.Cond.instantiable "DotScreens$Reader" 7 ∈ px_T := px_inT (px_ins 1 (List.mem_of_getElem? (i := 44) rfl)) rfl
theorem px_q138 : Jvm.Cond.methodLink "DotScreens" 18 ⟨"DotScreens$Reader", "<init>", "(LDotScreens$Tape;)V"⟩ ∈ px_T := px_inT (px_ins 1 (List.mem_of_getElem? (i := 45) rfl)) rfl
theorem px_q139 : Jvm.Cond.instanceMethod ⟨"DotScreens$Reader", "<init>", "(LDotScreens$Tape;)V"⟩ ∈ px_T := px_inT (px_ins 1 (List.mem_of_getElem? (i := 46) rfl)) rfl
theorem px_q140 : Jvm.Cond.code ⟨"DotScreens$Reader", "<init>", "(LDotScreens$Tape;)V"⟩ prog_7_method_1_code 2 none ∈ px_T := px_inT (px_ins 1 (List.mem_of_getElem? (i := 47) rfl)) rfl
theorem px_q141 : Jvm.Cond.methodLink "DotScreens$Reader" 3 ⟨"java/lang/Object", "<init>", "()V"⟩ ∈ px_T := px_inT (px_ins 1 (List.mem_of_getElem? (i := 48) rfl)) rfl
theorem px_q142 : Jvm.Cond.fieldLink "DotScreens$Reader" 11 "DotScreens$Reader" "parts" "[I" ∈ px_T := px_inT (px_ins 1 (List.mem_of_getElem? (i := 49) rfl)) rfl
theorem px_q143 : Jvm.Cond.fieldLink "DotScreens$Reader" 15 "DotScreens$Reader" "tape" "LDotScreens$Tape;" ∈ px_T := px_inT (px_ins 1 (List.mem_of_getElem? (i := 50) rfl)) rfl
theorem px_q144 : Jvm.Cond.fieldLink "DotScreens$Reader" 27 "DotScreens$Reader" "place" "I" ∈ px_T := px_inT (px_ins 1 (List.mem_of_getElem? (i := 51) rfl)) rfl
theorem px_q145 : Jvm.Cond.fieldLink "DotScreens$Reader" 36 "DotScreens$Reader" "sign" "I" ∈ px_T := px_inT (px_ins 1 (List.mem_of_getElem? (i := 52) rfl)) rfl
theorem px_q146 : Jvm.Cond.fieldLink "DotScreens$Reader" 23 "DotScreens$Reader" "clauses" "I" ∈ px_T := px_inT (px_ins 1 (List.mem_of_getElem? (i := 53) rfl)) rfl
theorem px_q147 : Jvm.Cond.fieldLinkNest "DotScreens" 99 "DotScreens$Reader" "clauses" "I" "DotScreens" ∈ px_TN := px_inTN (px_ins 1 (List.mem_of_getElem? (i := 54) rfl)) rfl
theorem px_q148 : Jvm.Cond.fieldLinkNest "DotScreens" 93 "DotScreens$Reader" "wrong" "I" "DotScreens" ∈ px_TN := px_inTN (px_ins 1 (List.mem_of_getElem? (i := 55) rfl)) rfl
theorem px_q149 : Jvm.Cond.fieldLink "DotScreens$Reader" 30 "DotScreens$Reader" "wrong" "I" ∈ px_T := px_inT (px_ins 1 (List.mem_of_getElem? (i := 56) rfl)) rfl
theorem px_q150 : Jvm.Cond.fieldLink "DotScreens$Reader" 61 "DotScreens$Reader" "had" "I" ∈ px_T := px_inT (px_ins 1 (List.mem_of_getElem? (i := 57) rfl)) rfl
theorem px_q151 : Jvm.Cond.laysFinal "DotScreens$Reader" "DotScreens$Reader" "parts" "[I" ∈ px_T := px_inT (px_ins 1 (List.mem_of_getElem? (i := 58) rfl)) rfl
theorem px_q153 : Jvm.Cond.laysFinal "DotScreens$Reader" "DotScreens$Reader" "tape" "LDotScreens$Tape;" ∈ px_T := px_inT (px_ins 1 (List.mem_of_getElem? (i := 60) rfl)) rfl
theorem px_q155 : Jvm.Cond.lays "DotScreens$Reader" "DotScreens$Reader" "place" "I" ∈ px_T := px_inT (px_ins 1 (List.mem_of_getElem? (i := 62) rfl)) rfl
theorem px_q157 : Jvm.Cond.lays "DotScreens$Reader" "DotScreens$Reader" "sign" "I" ∈ px_T := px_inT (px_ins 1 (List.mem_of_getElem? (i := 64) rfl)) rfl
theorem px_q159 : Jvm.Cond.lays "DotScreens$Reader" "DotScreens$Reader" "clauses" "I" ∈ px_T := px_inT (px_ins 1 (List.mem_of_getElem? (i := 66) rfl)) rfl
theorem px_q161 : Jvm.Cond.lays "DotScreens$Reader" "DotScreens$Reader" "wrong" "I" ∈ px_T := px_inT (px_ins 1 (List.mem_of_getElem? (i := 68) rfl)) rfl
theorem px_q163 : Jvm.Cond.lays "DotScreens$Reader" "DotScreens$Reader" "had" "I" ∈ px_T := px_inT (px_ins 1 (List.mem_of_getElem? (i := 70) rfl)) rfl
theorem px_q166 : Jvm.Cond.classLink "DotScreens" 25 "DotScreens$Ink" ∈ px_T := px_inT (px_ins 1 (List.mem_of_getElem? (i := 73) rfl)) rfl
theorem px_q168 : Jvm.Cond.classLink "DotScreens" 35 "DotScreens$Growth" ∈ px_T := px_inT (px_ins 1 (List.mem_of_getElem? (i := 75) rfl)) rfl
theorem px_q169 : Jvm.Cond.instantiable "DotScreens$Growth" 11 ∈ px_T := px_inT (px_ins 1 (List.mem_of_getElem? (i := 76) rfl)) rfl
theorem px_q170 : Jvm.Cond.methodLinkNest "DotScreens" 37 ⟨"DotScreens$Growth", "<init>", "()V"⟩ "DotScreens" ∈ px_TN := px_inTN (px_ins 1 (List.mem_of_getElem? (i := 77) rfl)) rfl
theorem px_q171 : Jvm.Cond.instanceMethod ⟨"DotScreens$Growth", "<init>", "()V"⟩ ∈ px_T := px_inT (px_ins 1 (List.mem_of_getElem? (i := 78) rfl)) rfl
theorem px_q172 : Jvm.Cond.code ⟨"DotScreens$Growth", "<init>", "()V"⟩ prog_5_method_1_code 1 none ∈ px_T := px_inT (px_ins 1 (List.mem_of_getElem? (i := 79) rfl)) rfl
theorem px_q173 : Jvm.Cond.methodLink "DotScreens$Growth" 3 ⟨"java/lang/Object", "<init>", "()V"⟩ ∈ px_T := px_inT (px_ins 1 (List.mem_of_getElem? (i := 80) rfl)) rfl
theorem px_q174 : Jvm.Cond.fieldLink "DotScreens$Growth" 9 "DotScreens$Growth" "roots" "[I" ∈ px_T := px_inT (px_ins 1 (List.mem_of_getElem? (i := 81) rfl)) rfl
theorem px_q175 : Jvm.Cond.fieldLink "DotScreens$Growth" 15 "DotScreens$Growth" "wayX" "[I" ∈ px_T := px_inT (px_ins 1 (List.mem_of_getElem? (i := 82) rfl)) rfl
theorem px_q176 : Jvm.Cond.fieldLink "DotScreens$Growth" 18 "DotScreens$Growth" "wayY" "[I" ∈ px_T := px_inT (px_ins 1 (List.mem_of_getElem? (i := 83) rfl)) rfl
theorem px_q177 : Jvm.Cond.fieldLink "DotScreens$Growth" 21 "DotScreens$Growth" "sizes" "[I" ∈ px_T := px_inT (px_ins 1 (List.mem_of_getElem? (i := 84) rfl)) rfl
theorem px_q178 : Jvm.Cond.fieldLink "DotScreens$Growth" 83 "DotScreens$Growth" "foundX" "I" ∈ px_T := px_inT (px_ins 1 (List.mem_of_getElem? (i := 85) rfl)) rfl
theorem px_q179 : Jvm.Cond.fieldLink "DotScreens$Growth" 86 "DotScreens$Growth" "foundY" "I" ∈ px_T := px_inT (px_ins 1 (List.mem_of_getElem? (i := 86) rfl)) rfl
theorem px_q180 : Jvm.Cond.fieldLink "DotScreens$Growth" 33 "DotScreens$Growth" "lots" "I" ∈ px_T := px_inT (px_ins 1 (List.mem_of_getElem? (i := 87) rfl)) rfl
theorem px_q181 : Jvm.Cond.fieldLink "DotScreens$Growth" 37 "DotScreens$Growth" "touch" "I" ∈ px_T := px_inT (px_ins 1 (List.mem_of_getElem? (i := 88) rfl)) rfl
theorem px_q182 : Jvm.Cond.fieldLink "DotScreens$Growth" 40 "DotScreens$Growth" "solid" "I" ∈ px_T := px_inT (px_ins 1 (List.mem_of_getElem? (i := 89) rfl)) rfl
theorem px_q183 : Jvm.Cond.fieldLink "DotScreens$Growth" 97 "DotScreens$Growth" "roundX" "I" ∈ px_T := px_inT (px_ins 1 (List.mem_of_getElem? (i := 90) rfl)) rfl
theorem px_q184 : Jvm.Cond.fieldLink "DotScreens$Growth" 100 "DotScreens$Growth" "roundY" "I" ∈ px_T := px_inT (px_ins 1 (List.mem_of_getElem? (i := 91) rfl)) rfl
theorem px_q185 : Jvm.Cond.laysFinal "DotScreens$Growth" "DotScreens$Growth" "roots" "[I" ∈ px_T := px_inT (px_ins 1 (List.mem_of_getElem? (i := 92) rfl)) rfl
theorem px_q187 : Jvm.Cond.laysFinal "DotScreens$Growth" "DotScreens$Growth" "wayX" "[I" ∈ px_T := px_inT (px_ins 1 (List.mem_of_getElem? (i := 94) rfl)) rfl
theorem px_q189 : Jvm.Cond.laysFinal "DotScreens$Growth" "DotScreens$Growth" "wayY" "[I" ∈ px_T := px_inT (px_ins 1 (List.mem_of_getElem? (i := 96) rfl)) rfl
theorem px_q191 : Jvm.Cond.laysFinal "DotScreens$Growth" "DotScreens$Growth" "sizes" "[I" ∈ px_T := px_inT (px_ins 1 (List.mem_of_getElem? (i := 98) rfl)) rfl
theorem px_q193 : Jvm.Cond.lays "DotScreens$Growth" "DotScreens$Growth" "foundX" "I" ∈ px_T := px_inT (px_ins 1 (List.mem_of_getElem? (i := 100) rfl)) rfl
theorem px_q195 : Jvm.Cond.lays "DotScreens$Growth" "DotScreens$Growth" "foundY" "I" ∈ px_T := px_inT (px_ins 1 (List.mem_of_getElem? (i := 102) rfl)) rfl
theorem px_q197 : Jvm.Cond.lays "DotScreens$Growth" "DotScreens$Growth" "lots" "I" ∈ px_T := px_inT (px_ins 1 (List.mem_of_getElem? (i := 104) rfl)) rfl
theorem px_q199 : Jvm.Cond.lays "DotScreens$Growth" "DotScreens$Growth" "touch" "I" ∈ px_T := px_inT (px_ins 1 (List.mem_of_getElem? (i := 106) rfl)) rfl
theorem px_q201 : Jvm.Cond.lays "DotScreens$Growth" "DotScreens$Growth" "solid" "I" ∈ px_T := px_inT (px_ins 1 (List.mem_of_getElem? (i := 108) rfl)) rfl
theorem px_q203 : Jvm.Cond.lays "DotScreens$Growth" "DotScreens$Growth" "roundX" "I" ∈ px_T := px_inT (px_ins 1 (List.mem_of_getElem? (i := 110) rfl)) rfl
theorem px_q205 : Jvm.Cond.lays "DotScreens$Growth" "DotScreens$Growth" "roundY" "I" ∈ px_T := px_inT (px_ins 1 (List.mem_of_getElem? (i := 112) rfl)) rfl
theorem px_q208 : Jvm.Cond.classLink "DotScreens" 42 "DotScreens$Grid" ∈ px_T := px_inT (px_ins 1 (List.mem_of_getElem? (i := 115) rfl)) rfl
theorem px_q209 : Jvm.Cond.instantiable "DotScreens$Grid" 3 ∈ px_T := px_inT (px_ins 1 (List.mem_of_getElem? (i := 116) rfl)) rfl
theorem px_q210 : Jvm.Cond.methodLinkNest "DotScreens" 44 ⟨"DotScreens$Grid", "<init>", "()V"⟩ "DotScreens" ∈ px_TN := px_inTN (px_ins 1 (List.mem_of_getElem? (i := 117) rfl)) rfl
theorem px_q211 : Jvm.Cond.instanceMethod ⟨"DotScreens$Grid", "<init>", "()V"⟩ ∈ px_T := px_inT (px_ins 1 (List.mem_of_getElem? (i := 118) rfl)) rfl
theorem px_q212 : Jvm.Cond.code ⟨"DotScreens$Grid", "<init>", "()V"⟩ prog_4_method_1_code 1 none ∈ px_T := px_inT (px_ins 1 (List.mem_of_getElem? (i := 119) rfl)) rfl
theorem px_q213 : Jvm.Cond.methodLink "DotScreens$Grid" 3 ⟨"java/lang/Object", "<init>", "()V"⟩ ∈ px_T := px_inT (px_ins 1 (List.mem_of_getElem? (i := 120) rfl)) rfl
theorem px_q214 : Jvm.Cond.fieldLink "DotScreens$Grid" 9 "DotScreens$Grid" "wide" "J" ∈ px_T := px_inT (px_ins 1 (List.mem_of_getElem? (i := 121) rfl)) rfl
theorem px_q215 : Jvm.Cond.fieldLinkNest "DotScreens$Reduction" 18 "DotScreens$Grid" "wide" "J" "DotScreens" ∈ px_TN := px_inTN (px_ins 1 (List.mem_of_getElem? (i := 122) rfl)) rfl
theorem px_q216 : Jvm.Cond.fieldLinkNest "DotScreens$Ink" 93 "DotScreens$Grid" "wide" "J" "DotScreens" ∈ px_TN := px_inTN (px_ins 1 (List.mem_of_getElem? (i := 123) rfl)) rfl
theorem px_q217 : Jvm.Cond.fieldLinkNest "DotScreens" 168 "DotScreens$Grid" "wide" "J" "DotScreens" ∈ px_TN := px_inTN (px_ins 1 (List.mem_of_getElem? (i := 124) rfl)) rfl
theorem px_q218 : Jvm.Cond.fieldLink "DotScreens$Grid" 15 "DotScreens$Grid" "high" "J" ∈ px_T := px_inT (px_ins 1 (List.mem_of_getElem? (i := 125) rfl)) rfl
theorem px_q219 : Jvm.Cond.fieldLinkNest "DotScreens$Reduction" 24 "DotScreens$Grid" "high" "J" "DotScreens" ∈ px_TN := px_inTN (px_ins 1 (List.mem_of_getElem? (i := 126) rfl)) rfl
theorem px_q220 : Jvm.Cond.fieldLinkNest "DotScreens$Ink" 85 "DotScreens$Grid" "high" "J" "DotScreens" ∈ px_TN := px_inTN (px_ins 1 (List.mem_of_getElem? (i := 127) rfl)) rfl
theorem px_q221 : Jvm.Cond.fieldLinkNest "DotScreens" 172 "DotScreens$Grid" "high" "J" "DotScreens" ∈ px_TN := px_inTN (px_ins 1 (List.mem_of_getElem? (i := 128) rfl)) rfl
theorem px_q222 : Jvm.Cond.fieldLink "DotScreens$Grid" 18 "DotScreens$Grid" "slant" "J" ∈ px_T := px_inT (px_ins 1 (List.mem_of_getElem? (i := 129) rfl)) rfl
theorem px_q223 : Jvm.Cond.fieldLinkNest "DotScreens$Reduction" 49 "DotScreens$Grid" "slant" "J" "DotScreens" ∈ px_TN := px_inTN (px_ins 1 (List.mem_of_getElem? (i := 130) rfl)) rfl
theorem px_q224 : Jvm.Cond.fieldLinkNest "DotScreens$Ink" 96 "DotScreens$Grid" "slant" "J" "DotScreens" ∈ px_TN := px_inTN (px_ins 1 (List.mem_of_getElem? (i := 131) rfl)) rfl
theorem px_q225 : Jvm.Cond.fieldLinkNest "DotScreens" 175 "DotScreens$Grid" "slant" "J" "DotScreens" ∈ px_TN := px_inTN (px_ins 1 (List.mem_of_getElem? (i := 132) rfl)) rfl
theorem px_q226 : Jvm.Cond.lays "DotScreens$Grid" "DotScreens$Grid" "wide" "J" ∈ px_T := px_inT (px_ins 1 (List.mem_of_getElem? (i := 133) rfl)) rfl
theorem px_q228 : Jvm.Cond.lays "DotScreens$Grid" "DotScreens$Grid" "high" "J" ∈ px_T := px_inT (px_ins 1 (List.mem_of_getElem? (i := 135) rfl)) rfl
theorem px_q230 : Jvm.Cond.lays "DotScreens$Grid" "DotScreens$Grid" "slant" "J" ∈ px_T := px_inT (px_ins 1 (List.mem_of_getElem? (i := 137) rfl)) rfl
theorem px_q233 : Jvm.Cond.classLink "DotScreens" 49 "DotScreens$Reduction" ∈ px_T := px_inT (px_ins 1 (List.mem_of_getElem? (i := 140) rfl)) rfl
theorem px_q234 : Jvm.Cond.instantiable "DotScreens$Reduction" 8 ∈ px_T := px_inT (px_ins 1 (List.mem_of_getElem? (i := 141) rfl)) rfl
theorem px_q235 : Jvm.Cond.methodLinkNest "DotScreens" 51 ⟨"DotScreens$Reduction", "<init>", "()V"⟩ "DotScreens" ∈ px_TN := px_inTN (px_ins 1 (List.mem_of_getElem? (i := 142) rfl)) rfl
theorem px_q236 : Jvm.Cond.instanceMethod ⟨"DotScreens$Reduction", "<init>", "()V"⟩ ∈ px_T := px_inT (px_ins 1 (List.mem_of_getElem? (i := 143) rfl)) rfl
theorem px_q237 : Jvm.Cond.code ⟨"DotScreens$Reduction", "<init>", "()V"⟩ prog_8_method_1_code 1 none ∈ px_T := px_inT (px_ins 1 (List.mem_of_getElem? (i := 144) rfl)) rfl
theorem px_q238 : Jvm.Cond.methodLink "DotScreens$Reduction" 3 ⟨"java/lang/Object", "<init>", "()V"⟩ ∈ px_T := px_inT (px_ins 1 (List.mem_of_getElem? (i := 145) rfl)) rfl
theorem px_q239 : Jvm.Cond.fieldLink "DotScreens$Reduction" 43 "DotScreens$Reduction" "shortX" "J" ∈ px_T := px_inT (px_ins 1 (List.mem_of_getElem? (i := 146) rfl)) rfl
theorem px_q240 : Jvm.Cond.fieldLink "DotScreens$Reduction" 46 "DotScreens$Reduction" "shortY" "J" ∈ px_T := px_inT (px_ins 1 (List.mem_of_getElem? (i := 147) rfl)) rfl
theorem px_q241 : Jvm.Cond.fieldLink "DotScreens$Reduction" 52 "DotScreens$Reduction" "longX" "J" ∈ px_T := px_inT (px_ins 1 (List.mem_of_getElem? (i := 148) rfl)) rfl
theorem px_q242 : Jvm.Cond.fieldLink "DotScreens$Reduction" 55 "DotScreens$Reduction" "longY" "J" ∈ px_T := px_inT (px_ins 1 (List.mem_of_getElem? (i := 149) rfl)) rfl
theorem px_q243 : Jvm.Cond.fieldLink "DotScreens$Reduction" 31 "DotScreens$Reduction" "firstX" "J" ∈ px_T := px_inT (px_ins 1 (List.mem_of_getElem? (i := 150) rfl)) rfl
theorem px_q244 : Jvm.Cond.fieldLink "DotScreens$Reduction" 34 "DotScreens$Reduction" "firstY" "J" ∈ px_T := px_inT (px_ins 1 (List.mem_of_getElem? (i := 151) rfl)) rfl
theorem px_q245 : Jvm.Cond.fieldLink "DotScreens$Reduction" 37 "DotScreens$Reduction" "secondX" "J" ∈ px_T := px_inT (px_ins 1 (List.mem_of_getElem? (i := 152) rfl)) rfl
theorem px_q246 : Jvm.Cond.fieldLink "DotScreens$Reduction" 40 "DotScreens$Reduction" "secondY" "J" ∈ px_T := px_inT (px_ins 1 (List.mem_of_getElem? (i := 153) rfl)) rfl
theorem px_q247 : Jvm.Cond.lays "DotScreens$Reduction" "DotScreens$Reduction" "shortX" "J" ∈ px_T := px_inT (px_ins 1 (List.mem_of_getElem? (i := 154) rfl)) rfl
theorem px_q249 : Jvm.Cond.lays "DotScreens$Reduction" "DotScreens$Reduction" "shortY" "J" ∈ px_T := px_inT (px_ins 1 (List.mem_of_getElem? (i := 156) rfl)) rfl
theorem px_q251 : Jvm.Cond.lays "DotScreens$Reduction" "DotScreens$Reduction" "longX" "J" ∈ px_T := px_inT (px_ins 1 (List.mem_of_getElem? (i := 158) rfl)) rfl
theorem px_q253 : Jvm.Cond.lays "DotScreens$Reduction" "DotScreens$Reduction" "longY" "J" ∈ px_T := px_inT (px_ins 1 (List.mem_of_getElem? (i := 160) rfl)) rfl
theorem px_q255 : Jvm.Cond.lays "DotScreens$Reduction" "DotScreens$Reduction" "firstX" "J" ∈ px_T := px_inT (px_ins 1 (List.mem_of_getElem? (i := 162) rfl)) rfl
theorem px_q257 : Jvm.Cond.lays "DotScreens$Reduction" "DotScreens$Reduction" "firstY" "J" ∈ px_T := px_inT (px_ins 1 (List.mem_of_getElem? (i := 164) rfl)) rfl
theorem px_q259 : Jvm.Cond.lays "DotScreens$Reduction" "DotScreens$Reduction" "secondX" "J" ∈ px_T := px_inT (px_ins 1 (List.mem_of_getElem? (i := 166) rfl)) rfl
theorem px_q261 : Jvm.Cond.lays "DotScreens$Reduction" "DotScreens$Reduction" "secondY" "J" ∈ px_T := px_inT (px_ins 1 (List.mem_of_getElem? (i := 168) rfl)) rfl
theorem px_q264 : Jvm.Cond.classLink "DotScreens" 56 "DotScreens$Beat" ∈ px_T := px_inT (px_ins 1 (List.mem_of_getElem? (i := 171) rfl)) rfl
theorem px_q265 : Jvm.Cond.instantiable "DotScreens$Beat" 7 ∈ px_T := px_inT (px_ins 1 (List.mem_of_getElem? (i := 172) rfl)) rfl
theorem px_q266 : Jvm.Cond.methodLinkNest "DotScreens" 58 ⟨"DotScreens$Beat", "<init>", "()V"⟩ "DotScreens" ∈ px_TN := px_inTN (px_ins 1 (List.mem_of_getElem? (i := 173) rfl)) rfl
theorem px_q267 : Jvm.Cond.instanceMethod ⟨"DotScreens$Beat", "<init>", "()V"⟩ ∈ px_T := px_inT (px_ins 1 (List.mem_of_getElem? (i := 174) rfl)) rfl
theorem px_q268 : Jvm.Cond.code ⟨"DotScreens$Beat", "<init>", "()V"⟩ prog_2_method_1_code 1 none ∈ px_T := px_inT (px_ins 1 (List.mem_of_getElem? (i := 175) rfl)) rfl
theorem px_q269 : Jvm.Cond.methodLink "DotScreens$Beat" 1 ⟨"java/lang/Object", "<init>", "()V"⟩ ∈ px_T := px_inT (px_ins 1 (List.mem_of_getElem? (i := 176) rfl)) rfl
theorem px_q270 : Jvm.Cond.fieldLink "DotScreens$Beat" 26 "DotScreens$Beat" "x" "I" ∈ px_T := px_inT (px_ins 1 (List.mem_of_getElem? (i := 177) rfl)) rfl
theorem px_q271 : Jvm.Cond.fieldLinkNest "DotScreens" 258 "DotScreens$Beat" "x" "I" "DotScreens" ∈ px_TN := px_inTN (px_ins 1 (List.mem_of_getElem? (i := 178) rfl)) rfl
theorem px_q272 : Jvm.Cond.fieldLink "DotScreens$Beat" 30 "DotScreens$Beat" "y" "I" ∈ px_T := px_inT (px_ins 1 (List.mem_of_getElem? (i := 179) rfl)) rfl
theorem px_q273 : Jvm.Cond.fieldLinkNest "DotScreens" 261 "DotScreens$Beat" "y" "I" "DotScreens" ∈ px_TN := px_inTN (px_ins 1 (List.mem_of_getElem? (i := 180) rfl)) rfl
theorem px_q274 : Jvm.Cond.fieldLink "DotScreens$Beat" 33 "DotScreens$Beat" "wave" "I" ∈ px_T := px_inT (px_ins 1 (List.mem_of_getElem? (i := 181) rfl)) rfl
theorem px_q275 : Jvm.Cond.fieldLinkNest "DotScreens" 264 "DotScreens$Beat" "wave" "I" "DotScreens" ∈ px_TN := px_inTN (px_ins 1 (List.mem_of_getElem? (i := 182) rfl)) rfl
theorem px_q276 : Jvm.Cond.fieldLink "DotScreens$Beat" 36 "DotScreens$Beat" "otherWave" "I" ∈ px_T := px_inT (px_ins 1 (List.mem_of_getElem? (i := 183) rfl)) rfl
theorem px_q277 : Jvm.Cond.fieldLinkNest "DotScreens" 267 "DotScreens$Beat" "otherWave" "I" "DotScreens" ∈ px_TN := px_inTN (px_ins 1 (List.mem_of_getElem? (i := 184) rfl)) rfl
theorem px_q278 : Jvm.Cond.fieldLink "DotScreens$Beat" 13 "DotScreens$Beat" "isAlike" "Z" ∈ px_T := px_inT (px_ins 1 (List.mem_of_getElem? (i := 185) rfl)) rfl
theorem px_q279 : Jvm.Cond.fieldLinkNest "DotScreens" 270 "DotScreens$Beat" "isAlike" "Z" "DotScreens" ∈ px_TN := px_inTN (px_ins 1 (List.mem_of_getElem? (i := 186) rfl)) rfl
theorem px_q280 : Jvm.Cond.fieldLink "DotScreens$Beat" 48 "DotScreens$Beat" "upper" "J" ∈ px_T := px_inT (px_ins 1 (List.mem_of_getElem? (i := 187) rfl)) rfl
theorem px_q281 : Jvm.Cond.fieldLinkNest "DotScreens$Chooser" 94 "DotScreens$Beat" "upper" "J" "DotScreens" ∈ px_TN := px_inTN (px_ins 1 (List.mem_of_getElem? (i := 188) rfl)) rfl
theorem px_q282 : Jvm.Cond.fieldLinkNest "DotScreens" 276 "DotScreens$Beat" "upper" "J" "DotScreens" ∈ px_TN := px_inTN (px_ins 1 (List.mem_of_getElem? (i := 189) rfl)) rfl
theorem px_q283 : Jvm.Cond.fieldLink "DotScreens$Beat" 52 "DotScreens$Beat" "lower" "J" ∈ px_T := px_inT (px_ins 1 (List.mem_of_getElem? (i := 190) rfl)) rfl
theorem px_q284 : Jvm.Cond.fieldLinkNest "DotScreens$Chooser" 98 "DotScreens$Beat" "lower" "J" "DotScreens" ∈ px_TN := px_inTN (px_ins 1 (List.mem_of_getElem? (i := 191) rfl)) rfl
theorem px_q285 : Jvm.Cond.fieldLinkNest "DotScreens" 279 "DotScreens$Beat" "lower" "J" "DotScreens" ∈ px_TN := px_inTN (px_ins 1 (List.mem_of_getElem? (i := 192) rfl)) rfl
theorem px_q286 : Jvm.Cond.lays "DotScreens$Beat" "DotScreens$Beat" "x" "I" ∈ px_T := px_inT (px_ins 1 (List.mem_of_getElem? (i := 193) rfl)) rfl
theorem px_q288 : Jvm.Cond.lays "DotScreens$Beat" "DotScreens$Beat" "y" "I" ∈ px_T := px_inT (px_ins 1 (List.mem_of_getElem? (i := 195) rfl)) rfl
theorem px_q290 : Jvm.Cond.lays "DotScreens$Beat" "DotScreens$Beat" "wave" "I" ∈ px_T := px_inT (px_ins 1 (List.mem_of_getElem? (i := 197) rfl)) rfl
theorem px_q292 : Jvm.Cond.lays "DotScreens$Beat" "DotScreens$Beat" "otherWave" "I" ∈ px_T := px_inT (px_ins 1 (List.mem_of_getElem? (i := 199) rfl)) rfl
theorem px_q294 : Jvm.Cond.lays "DotScreens$Beat" "DotScreens$Beat" "isAlike" "Z" ∈ px_T := px_inT (px_ins 1 (List.mem_of_getElem? (i := 201) rfl)) rfl
theorem px_q296 : Jvm.Cond.lays "DotScreens$Beat" "DotScreens$Beat" "upper" "J" ∈ px_T := px_inT (px_ins 1 (List.mem_of_getElem? (i := 203) rfl)) rfl
theorem px_q298 : Jvm.Cond.lays "DotScreens$Beat" "DotScreens$Beat" "lower" "J" ∈ px_T := px_inT (px_ins 1 (List.mem_of_getElem? (i := 205) rfl)) rfl
theorem px_q301 : Jvm.Cond.classLink "DotScreens" 63 "DotScreens$Chooser" ∈ px_T := px_inT (px_ins 1 (List.mem_of_getElem? (i := 208) rfl)) rfl
theorem px_q302 : Jvm.Cond.instantiable "DotScreens$Chooser" 14 ∈ px_T := px_inT (px_ins 1 (List.mem_of_getElem? (i := 209) rfl)) rfl
theorem px_q303 : Jvm.Cond.methodLinkNest "DotScreens" 65 ⟨"DotScreens$Chooser", "<init>", "()V"⟩ "DotScreens" ∈ px_TN := px_inTN (px_ins 1 (List.mem_of_getElem? (i := 210) rfl)) rfl
theorem px_q304 : Jvm.Cond.instanceMethod ⟨"DotScreens$Chooser", "<init>", "()V"⟩ ∈ px_T := px_inT (px_ins 1 (List.mem_of_getElem? (i := 211) rfl)) rfl
theorem px_q305 : Jvm.Cond.code ⟨"DotScreens$Chooser", "<init>", "()V"⟩ prog_3_method_1_code 1 none ∈ px_T := px_inT (px_ins 1 (List.mem_of_getElem? (i := 212) rfl)) rfl
theorem px_q306 : Jvm.Cond.methodLink "DotScreens$Chooser" 3 ⟨"java/lang/Object", "<init>", "()V"⟩ ∈ px_T := px_inT (px_ins 1 (List.mem_of_getElem? (i := 213) rfl)) rfl
theorem px_q307 : Jvm.Cond.classLink "DotScreens$Chooser" 25 "DotScreens$Screen" ∈ px_T := px_inT (px_ins 1 (List.mem_of_getElem? (i := 214) rfl)) rfl
theorem px_q308 : Jvm.Cond.instantiable "DotScreens$Screen" 4 ∈ px_T := px_inT (px_ins 1 (List.mem_of_getElem? (i := 215) rfl)) rfl
theorem px_q309 : Jvm.Cond.methodLinkNest "DotScreens$Chooser" 27 ⟨"DotScreens$Screen", "<init>", "()V"⟩ "DotScreens" ∈ px_TN := px_inTN (px_ins 1 (List.mem_of_getElem? (i := 216) rfl)) rfl
theorem px_q310 : Jvm.Cond.instanceMethod ⟨"DotScreens$Screen", "<init>", "()V"⟩ ∈ px_T := px_inT (px_ins 1 (List.mem_of_getElem? (i := 217) rfl)) rfl
theorem px_q311 : Jvm.Cond.code ⟨"DotScreens$Screen", "<init>", "()V"⟩ prog_9_method_1_code 1 none ∈ px_T := px_inT (px_ins 1 (List.mem_of_getElem? (i := 218) rfl)) rfl
theorem px_q312 : Jvm.Cond.methodLink "DotScreens$Screen" 1 ⟨"java/lang/Object", "<init>", "()V"⟩ ∈ px_T := px_inT (px_ins 1 (List.mem_of_getElem? (i := 219) rfl)) rfl
theorem px_q313 : Jvm.Cond.fieldLink "DotScreens$Screen" 7 "DotScreens$Screen" "a" "I" ∈ px_T := px_inT (px_ins 1 (List.mem_of_getElem? (i := 220) rfl)) rfl
theorem px_q314 : Jvm.Cond.fieldLinkNest "DotScreens$Grid" 21 "DotScreens$Screen" "a" "I" "DotScreens" ∈ px_TN := px_inTN (px_ins 1 (List.mem_of_getElem? (i := 221) rfl)) rfl
theorem px_q315 : Jvm.Cond.fieldLinkNest "DotScreens" 142 "DotScreens$Screen" "a" "I" "DotScreens" ∈ px_TN := px_inTN (px_ins 1 (List.mem_of_getElem? (i := 222) rfl)) rfl
theorem px_q316 : Jvm.Cond.fieldLinkNest "DotScreens$Ink" 133 "DotScreens$Screen" "a" "I" "DotScreens" ∈ px_TN := px_inTN (px_ins 1 (List.mem_of_getElem? (i := 223) rfl)) rfl
theorem px_q317 : Jvm.Cond.fieldLink "DotScreens$Screen" 16 "DotScreens$Screen" "b" "I" ∈ px_T := px_inT (px_ins 1 (List.mem_of_getElem? (i := 224) rfl)) rfl
theorem px_q318 : Jvm.Cond.fieldLinkNest "DotScreens$Grid" 27 "DotScreens$Screen" "b" "I" "DotScreens" ∈ px_TN := px_inTN (px_ins 1 (List.mem_of_getElem? (i := 225) rfl)) rfl
theorem px_q319 : Jvm.Cond.fieldLinkNest "DotScreens" 145 "DotScreens$Screen" "b" "I" "DotScreens" ∈ px_TN := px_inTN (px_ins 1 (List.mem_of_getElem? (i := 226) rfl)) rfl
theorem px_q320 : Jvm.Cond.fieldLinkNest "DotScreens$Ink" 130 "DotScreens$Screen" "b" "I" "DotScreens" ∈ px_TN := px_inTN (px_ins 1 (List.mem_of_getElem? (i := 227) rfl)) rfl
theorem px_q321 : Jvm.Cond.fieldLink "DotScreens$Screen" 19 "DotScreens$Screen" "c" "I" ∈ px_T := px_inT (px_ins 1 (List.mem_of_getElem? (i := 228) rfl)) rfl
theorem px_q322 : Jvm.Cond.fieldLinkNest "DotScreens$Grid" 30 "DotScreens$Screen" "c" "I" "DotScreens" ∈ px_TN := px_inTN (px_ins 1 (List.mem_of_getElem? (i := 229) rfl)) rfl
theorem px_q323 : Jvm.Cond.fieldLinkNest "DotScreens" 148 "DotScreens$Screen" "c" "I" "DotScreens" ∈ px_TN := px_inTN (px_ins 1 (List.mem_of_getElem? (i := 230) rfl)) rfl
theorem px_q324 : Jvm.Cond.fieldLink "DotScreens$Screen" 13 "DotScreens$Screen" "d" "I" ∈ px_T := px_inT (px_ins 1 (List.mem_of_getElem? (i := 231) rfl)) rfl
theorem px_q325 : Jvm.Cond.fieldLinkNest "DotScreens$Grid" 33 "DotScreens$Screen" "d" "I" "DotScreens" ∈ px_TN := px_inTN (px_ins 1 (List.mem_of_getElem? (i := 232) rfl)) rfl
theorem px_q326 : Jvm.Cond.fieldLinkNest "DotScreens" 151 "DotScreens$Screen" "d" "I" "DotScreens" ∈ px_TN := px_inTN (px_ins 1 (List.mem_of_getElem? (i := 233) rfl)) rfl
theorem px_q327 : Jvm.Cond.lays "DotScreens$Screen" "DotScreens$Screen" "a" "I" ∈ px_T := px_inT (px_ins 1 (List.mem_of_getElem? (i := 234) rfl)) rfl
theorem px_q329 : Jvm.Cond.lays "DotScreens$Screen" "DotScreens$Screen" "b" "I" ∈ px_T := px_inT (px_ins 1 (List.mem_of_getElem? (i := 236) rfl)) rfl
theorem px_q331 : Jvm.Cond.lays "DotScreens$Screen" "DotScreens$Screen" "c" "I" ∈ px_T := px_inT (px_ins 1 (List.mem_of_getElem? (i := 238) rfl)) rfl
theorem px_q333 : Jvm.Cond.lays "DotScreens$Screen" "DotScreens$Screen" "d" "I" ∈ px_T := px_inT (px_ins 2 (List.mem_of_getElem? (i := 0) rfl)) rfl
theorem px_q336 : Jvm.Cond.arrayClass FieldType.long ∈ px_T := px_inT (px_ins 2 (List.mem_of_getElem? (i := 3) rfl)) rfl
theorem px_q337 : Jvm.Cond.classLink "DotScreens$Chooser" 35 "DotScreens$Beat" ∈ px_T := px_inT (px_ins 2 (List.mem_of_getElem? (i := 4) rfl)) rfl
theorem px_q338 : Jvm.Cond.methodLinkNest "DotScreens$Chooser" 37 ⟨"DotScreens$Beat", "<init>", "()V"⟩ "DotScreens" ∈ px_TN := px_inTN (px_ins 2 (List.mem_of_getElem? (i := 5) rfl)) rfl
theorem px_q339 : Jvm.Cond.fieldLink "DotScreens$Chooser" 11 "DotScreens$Chooser" "squareA" "[I" ∈ px_T := px_inT (px_ins 2 (List.mem_of_getElem? (i := 6) rfl)) rfl
theorem px_q340 : Jvm.Cond.fieldLink "DotScreens$Chooser" 15 "DotScreens$Chooser" "squareB" "[I" ∈ px_T := px_inT (px_ins 2 (List.mem_of_getElem? (i := 7) rfl)) rfl
theorem px_q341 : Jvm.Cond.fieldLink "DotScreens$Chooser" 69 "DotScreens$Chooser" "squares" "I" ∈ px_T := px_inT (px_ins 2 (List.mem_of_getElem? (i := 8) rfl)) rfl
theorem px_q342 : Jvm.Cond.fieldLink "DotScreens$Chooser" 18 "DotScreens$Chooser" "uppers" "[J" ∈ px_T := px_inT (px_ins 2 (List.mem_of_getElem? (i := 9) rfl)) rfl
theorem px_q343 : Jvm.Cond.fieldLink "DotScreens$Chooser" 22 "DotScreens$Chooser" "lowers" "[J" ∈ px_T := px_inT (px_ins 2 (List.mem_of_getElem? (i := 10) rfl)) rfl
theorem px_q344 : Jvm.Cond.fieldLink "DotScreens$Chooser" 28 "DotScreens$Chooser" "one" "LDotScreens$Screen;" ∈ px_T := px_inT (px_ins 2 (List.mem_of_getElem? (i := 11) rfl)) rfl
theorem px_q345 : Jvm.Cond.fieldLink "DotScreens$Chooser" 32 "DotScreens$Chooser" "other" "LDotScreens$Screen;" ∈ px_T := px_inT (px_ins 2 (List.mem_of_getElem? (i := 12) rfl)) rfl
theorem px_q346 : Jvm.Cond.fieldLink "DotScreens$Chooser" 38 "DotScreens$Chooser" "beat" "LDotScreens$Beat;" ∈ px_T := px_inT (px_ins 2 (List.mem_of_getElem? (i := 13) rfl)) rfl
theorem px_q347 : Jvm.Cond.fieldLink "DotScreens$Chooser" 42 "DotScreens$Chooser" "chosen" "[I" ∈ px_T := px_inT (px_ins 2 (List.mem_of_getElem? (i := 14) rfl)) rfl
theorem px_q348 : Jvm.Cond.fieldLink "DotScreens$Chooser" 66 "DotScreens$Chooser" "bestCouple" "I" ∈ px_T := px_inT (px_ins 2 (List.mem_of_getElem? (i := 15) rfl)) rfl
theorem px_q349 : Jvm.Cond.fieldLink "DotScreens$Chooser" 45 "DotScreens$Chooser" "lastN" "I" ∈ px_T := px_inT (px_ins 2 (List.mem_of_getElem? (i := 16) rfl)) rfl
theorem px_q350 : Jvm.Cond.fieldLink "DotScreens$Chooser" 49 "DotScreens$Chooser" "lastLow" "I" ∈ px_T := px_inT (px_ins 2 (List.mem_of_getElem? (i := 17) rfl)) rfl
theorem px_q351 : Jvm.Cond.fieldLink "DotScreens$Chooser" 52 "DotScreens$Chooser" "lastHigh" "I" ∈ px_T := px_inT (px_ins 2 (List.mem_of_getElem? (i := 18) rfl)) rfl
theorem px_q352 : Jvm.Cond.fieldLink "DotScreens$Chooser" 55 "DotScreens$Chooser" "lastFar" "Z" ∈ px_T := px_inT (px_ins 2 (List.mem_of_getElem? (i := 19) rfl)) rfl
theorem px_q353 : Jvm.Cond.laysFinal "DotScreens$Chooser" "DotScreens$Chooser" "squareA" "[I" ∈ px_T := px_inT (px_ins 2 (List.mem_of_getElem? (i := 20) rfl)) rfl
theorem px_q355 : Jvm.Cond.laysFinal "DotScreens$Chooser" "DotScreens$Chooser" "squareB" "[I" ∈ px_T := px_inT (px_ins 2 (List.mem_of_getElem? (i := 22) rfl)) rfl
theorem px_q357 : Jvm.Cond.lays "DotScreens$Chooser" "DotScreens$Chooser" "squares" "I" ∈ px_T := px_inT (px_ins 2 (List.mem_of_getElem? (i := 24) rfl)) rfl
theorem px_q359 : Jvm.Cond.laysFinal "DotScreens$Chooser" "DotScreens$Chooser" "uppers" "[J" ∈ px_T := px_inT (px_ins 2 (List.mem_of_getElem? (i := 26) rfl)) rfl
theorem px_q361 : Jvm.Cond.laysFinal "DotScreens$Chooser" "DotScreens$Chooser" "lowers" "[J" ∈ px_T := px_inT (px_ins 2 (List.mem_of_getElem? (i := 28) rfl)) rfl
theorem px_q363 : Jvm.Cond.laysFinal "DotScreens$Chooser" "DotScreens$Chooser" "one" "LDotScreens$Screen;" ∈ px_T := px_inT (px_ins 2 (List.mem_of_getElem? (i := 30) rfl)) rfl
theorem px_q365 : Jvm.Cond.laysFinal "DotScreens$Chooser" "DotScreens$Chooser" "other" "LDotScreens$Screen;" ∈ px_T := px_inT (px_ins 2 (List.mem_of_getElem? (i := 32) rfl)) rfl
theorem px_q367 : Jvm.Cond.laysFinal "DotScreens$Chooser" "DotScreens$Chooser" "beat" "LDotScreens$Beat;" ∈ px_T := px_inT (px_ins 2 (List.mem_of_getElem? (i := 34) rfl)) rfl
theorem px_q369 : Jvm.Cond.laysFinal "DotScreens$Chooser" "DotScreens$Chooser" "chosen" "[I" ∈ px_T := px_inT (px_ins 2 (List.mem_of_getElem? (i := 36) rfl)) rfl
theorem px_q371 : Jvm.Cond.lays "DotScreens$Chooser" "DotScreens$Chooser" "bestCouple" "I" ∈ px_T := px_inT (px_ins 2 (List.mem_of_getElem? (i := 38) rfl)) rfl
theorem px_q373 : Jvm.Cond.lays "DotScreens$Chooser" "DotScreens$Chooser" "lastN" "I" ∈ px_T := px_inT (px_ins 2 (List.mem_of_getElem? (i := 40) rfl)) rfl
theorem px_q375 : Jvm.Cond.lays "DotScreens$Chooser" "DotScreens$Chooser" "lastLow" "I" ∈ px_T := px_inT (px_ins 2 (List.mem_of_getElem? (i := 42) rfl)) rfl
theorem px_q377 : Jvm.Cond.lays "DotScreens$Chooser" "DotScreens$Chooser" "lastHigh" "I" ∈ px_T := px_inT (px_ins 2 (List.mem_of_getElem? (i := 44) rfl)) rfl
theorem px_q379 : Jvm.Cond.lays "DotScreens$Chooser" "DotScreens$Chooser" "lastFar" "Z" ∈ px_T := px_inT (px_ins 2 (List.mem_of_getElem? (i := 46) rfl)) rfl
theorem px_q382 : Jvm.Cond.classLink "DotScreens" 70 "DotScreens$Screen" ∈ px_T := px_inT (px_ins 2 (List.mem_of_getElem? (i := 49) rfl)) rfl
theorem px_q383 : Jvm.Cond.methodLinkNest "DotScreens" 72 ⟨"DotScreens$Screen", "<init>", "()V"⟩ "DotScreens" ∈ px_TN := px_inTN (px_ins 2 (List.mem_of_getElem? (i := 50) rfl)) rfl
theorem px_q384 : Jvm.Cond.instantiable "DotScreens$Ink" 18 ∈ px_T := px_inT (px_ins 2 (List.mem_of_getElem? (i := 51) rfl)) rfl
theorem px_q385 : Jvm.Cond.methodLinkNest "DotScreens" 77 ⟨"DotScreens$Ink", "<init>", "()V"⟩ "DotScreens" ∈ px_TN := px_inTN (px_ins 2 (List.mem_of_getElem? (i := 52) rfl)) rfl
theorem px_q386 : Jvm.Cond.instanceMethod ⟨"DotScreens$Ink", "<init>", "()V"⟩ ∈ px_T := px_inT (px_ins 2 (List.mem_of_getElem? (i := 53) rfl)) rfl
theorem px_q387 : Jvm.Cond.code ⟨"DotScreens$Ink", "<init>", "()V"⟩ prog_6_method_1_code 1 none ∈ px_T := px_inT (px_ins 2 (List.mem_of_getElem? (i := 54) rfl)) rfl
theorem px_q388 : Jvm.Cond.methodLink "DotScreens$Ink" 3 ⟨"java/lang/Object", "<init>", "()V"⟩ ∈ px_T := px_inT (px_ins 2 (List.mem_of_getElem? (i := 55) rfl)) rfl
theorem px_q389 : Jvm.Cond.classLink "DotScreens$Ink" 9 "DotScreens$Screen" ∈ px_T := px_inT (px_ins 2 (List.mem_of_getElem? (i := 56) rfl)) rfl
theorem px_q390 : Jvm.Cond.methodLinkNest "DotScreens$Ink" 11 ⟨"DotScreens$Screen", "<init>", "()V"⟩ "DotScreens" ∈ px_TN := px_inTN (px_ins 2 (List.mem_of_getElem? (i := 57) rfl)) rfl
theorem px_q391 : Jvm.Cond.classLink "DotScreens$Ink" 18 "DotScreens$Grid" ∈ px_T := px_inT (px_ins 2 (List.mem_of_getElem? (i := 58) rfl)) rfl
theorem px_q392 : Jvm.Cond.methodLinkNest "DotScreens$Ink" 20 ⟨"DotScreens$Grid", "<init>", "()V"⟩ "DotScreens" ∈ px_TN := px_inTN (px_ins 2 (List.mem_of_getElem? (i := 59) rfl)) rfl
theorem px_q393 : Jvm.Cond.fieldLink "DotScreens$Ink" 12 "DotScreens$Ink" "screen" "LDotScreens$Screen;" ∈ px_T := px_inT (px_ins 2 (List.mem_of_getElem? (i := 60) rfl)) rfl
theorem px_q394 : Jvm.Cond.fieldLinkNest "DotScreens" 139 "DotScreens$Ink" "screen" "LDotScreens$Screen;" "DotScreens" ∈ px_TN := px_inTN (px_ins 2 (List.mem_of_getElem? (i := 61) rfl)) rfl
theorem px_q395 : Jvm.Cond.fieldLink "DotScreens$Ink" 21 "DotScreens$Ink" "grid" "LDotScreens$Grid;" ∈ px_T := px_inT (px_ins 2 (List.mem_of_getElem? (i := 62) rfl)) rfl
theorem px_q396 : Jvm.Cond.fieldLinkNest "DotScreens" 165 "DotScreens$Ink" "grid" "LDotScreens$Grid;" "DotScreens" ∈ px_TN := px_inTN (px_ins 2 (List.mem_of_getElem? (i := 63) rfl)) rfl
theorem px_q397 : Jvm.Cond.fieldLink "DotScreens$Ink" 25 "DotScreens$Ink" "cell" "I" ∈ px_T := px_inT (px_ins 2 (List.mem_of_getElem? (i := 64) rfl)) rfl
theorem px_q398 : Jvm.Cond.fieldLinkNest "DotScreens$Growth" 45 "DotScreens$Ink" "cell" "I" "DotScreens" ∈ px_TN := px_inTN (px_ins 2 (List.mem_of_getElem? (i := 65) rfl)) rfl
theorem px_q399 : Jvm.Cond.fieldLinkNest "DotScreens" 154 "DotScreens$Ink" "cell" "I" "DotScreens" ∈ px_TN := px_inTN (px_ins 2 (List.mem_of_getElem? (i := 66) rfl)) rfl
theorem px_q400 : Jvm.Cond.fieldLink "DotScreens$Ink" 70 "DotScreens$Ink" "kind" "I" ∈ px_T := px_inT (px_ins 2 (List.mem_of_getElem? (i := 67) rfl)) rfl
theorem px_q401 : Jvm.Cond.fieldLinkNest "DotScreens" 157 "DotScreens$Ink" "kind" "I" "DotScreens" ∈ px_TN := px_inTN (px_ins 2 (List.mem_of_getElem? (i := 68) rfl)) rfl
theorem px_q402 : Jvm.Cond.fieldLink "DotScreens$Ink" 73 "DotScreens$Ink" "tone" "I" ∈ px_T := px_inT (px_ins 2 (List.mem_of_getElem? (i := 69) rfl)) rfl
theorem px_q403 : Jvm.Cond.fieldLinkNest "DotScreens" 120 "DotScreens$Ink" "tone" "I" "DotScreens" ∈ px_TN := px_inTN (px_ins 2 (List.mem_of_getElem? (i := 70) rfl)) rfl
theorem px_q404 : Jvm.Cond.fieldLink "DotScreens$Ink" 76 "DotScreens$Ink" "offsetX" "I" ∈ px_T := px_inT (px_ins 2 (List.mem_of_getElem? (i := 71) rfl)) rfl
theorem px_q405 : Jvm.Cond.fieldLinkNest "DotScreens" 123 "DotScreens$Ink" "offsetX" "I" "DotScreens" ∈ px_TN := px_inTN (px_ins 2 (List.mem_of_getElem? (i := 72) rfl)) rfl
theorem px_q406 : Jvm.Cond.fieldLink "DotScreens$Ink" 79 "DotScreens$Ink" "offsetY" "I" ∈ px_T := px_inT (px_ins 2 (List.mem_of_getElem? (i := 73) rfl)) rfl
theorem px_q407 : Jvm.Cond.fieldLinkNest "DotScreens" 126 "DotScreens$Ink" "offsetY" "I" "DotScreens" ∈ px_TN := px_inTN (px_ins 2 (List.mem_of_getElem? (i := 74) rfl)) rfl
theorem px_q408 : Jvm.Cond.fieldLink "DotScreens$Ink" 29 "DotScreens$Ink" "spots" "[I" ∈ px_T := px_inT (px_ins 2 (List.mem_of_getElem? (i := 75) rfl)) rfl
theorem px_q409 : Jvm.Cond.fieldLinkNest "DotScreens" 202 "DotScreens$Ink" "spots" "[I" "DotScreens" ∈ px_TN := px_inTN (px_ins 2 (List.mem_of_getElem? (i := 76) rfl)) rfl
theorem px_q410 : Jvm.Cond.fieldLink "DotScreens$Ink" 33 "DotScreens$Ink" "ranks" "[I" ∈ px_T := px_inT (px_ins 2 (List.mem_of_getElem? (i := 77) rfl)) rfl
theorem px_q411 : Jvm.Cond.fieldLinkNest "DotScreens$Growth" 72 "DotScreens$Ink" "ranks" "[I" "DotScreens" ∈ px_TN := px_inTN (px_ins 2 (List.mem_of_getElem? (i := 78) rfl)) rfl
theorem px_q412 : Jvm.Cond.fieldLinkNest "DotScreens" 209 "DotScreens$Ink" "ranks" "[I" "DotScreens" ∈ px_TN := px_inTN (px_ins 2 (List.mem_of_getElem? (i := 79) rfl)) rfl
theorem px_q413 : Jvm.Cond.fieldLink "DotScreens$Ink" 36 "DotScreens$Ink" "order" "[I" ∈ px_T := px_inT (px_ins 2 (List.mem_of_getElem? (i := 80) rfl)) rfl
theorem px_q414 : Jvm.Cond.fieldLinkNest "DotScreens$Growth" 48 "DotScreens$Ink" "order" "[I" "DotScreens" ∈ px_TN := px_inTN (px_ins 2 (List.mem_of_getElem? (i := 81) rfl)) rfl
theorem px_q415 : Jvm.Cond.fieldLinkNest "DotScreens" 212 "DotScreens$Ink" "order" "[I" "DotScreens" ∈ px_TN := px_inTN (px_ins 2 (List.mem_of_getElem? (i := 82) rfl)) rfl
theorem px_q416 : Jvm.Cond.fieldLink "DotScreens$Ink" 39 "DotScreens$Ink" "lots" "[I" ∈ px_T := px_inT (px_ins 2 (List.mem_of_getElem? (i := 83) rfl)) rfl
theorem px_q417 : Jvm.Cond.fieldLinkNest "DotScreens$Growth" 43 "DotScreens$Ink" "lots" "[I" "DotScreens" ∈ px_TN := px_inTN (px_ins 2 (List.mem_of_getElem? (i := 84) rfl)) rfl
theorem px_q418 : Jvm.Cond.fieldLinkNest "DotScreens" 227 "DotScreens$Ink" "lots" "[I" "DotScreens" ∈ px_TN := px_inTN (px_ins 2 (List.mem_of_getElem? (i := 85) rfl)) rfl
theorem px_q419 : Jvm.Cond.fieldLinkNest "DotScreens$Growth" 59 "DotScreens$Ink" "touch" "I" "DotScreens" ∈ px_TN := px_inTN (px_ins 2 (List.mem_of_getElem? (i := 86) rfl)) rfl
theorem px_q420 : Jvm.Cond.fieldLinkNest "DotScreens" 230 "DotScreens$Ink" "touch" "I" "DotScreens" ∈ px_TN := px_inTN (px_ins 2 (List.mem_of_getElem? (i := 87) rfl)) rfl
theorem px_q421 : Jvm.Cond.fieldLinkNest "DotScreens$Growth" 60 "DotScreens$Ink" "solid" "I" "DotScreens" ∈ px_TN := px_inTN (px_ins 2 (List.mem_of_getElem? (i := 88) rfl)) rfl
theorem px_q422 : Jvm.Cond.fieldLinkNest "DotScreens" 233 "DotScreens$Ink" "solid" "I" "DotScreens" ∈ px_TN := px_inTN (px_ins 2 (List.mem_of_getElem? (i := 89) rfl)) rfl
theorem px_q423 : Jvm.Cond.fieldLink "DotScreens$Ink" 63 "DotScreens$Ink" "isSorted" "Z" ∈ px_T := px_inT (px_ins 2 (List.mem_of_getElem? (i := 90) rfl)) rfl
theorem px_q424 : Jvm.Cond.fieldLinkNest "DotScreens$Growth" 24 "DotScreens$Ink" "isGrown" "Z" "DotScreens" ∈ px_TN := px_inTN (px_ins 2 (List.mem_of_getElem? (i := 91) rfl)) rfl
theorem px_q425 : Jvm.Cond.fieldLink "DotScreens$Ink" 67 "DotScreens$Ink" "isGrown" "Z" ∈ px_T := px_inT (px_ins 2 (List.mem_of_getElem? (i := 92) rfl)) rfl
theorem px_q426 : Jvm.Cond.fieldLink "DotScreens$Ink" 114 "DotScreens$Ink" "rowStart" "I" ∈ px_T := px_inT (px_ins 2 (List.mem_of_getElem? (i := 93) rfl)) rfl
theorem px_q427 : Jvm.Cond.fieldLink "DotScreens$Ink" 111 "DotScreens$Ink" "column" "I" ∈ px_T := px_inT (px_ins 2 (List.mem_of_getElem? (i := 94) rfl)) rfl
theorem px_q428 : Jvm.Cond.fieldLink "DotScreens$Ink" 120 "DotScreens$Ink" "rowLevel" "I" ∈ px_T := px_inT (px_ins 2 (List.mem_of_getElem? (i := 95) rfl)) rfl
theorem px_q429 : Jvm.Cond.laysFinal "DotScreens$Ink" "DotScreens$Ink" "screen" "LDotScreens$Screen;" ∈ px_T := px_inT (px_ins 2 (List.mem_of_getElem? (i := 96) rfl)) rfl
theorem px_q431 : Jvm.Cond.laysFinal "DotScreens$Ink" "DotScreens$Ink" "grid" "LDotScreens$Grid;" ∈ px_T := px_inT (px_ins 2 (List.mem_of_getElem? (i := 98) rfl)) rfl
theorem px_q433 : Jvm.Cond.lays "DotScreens$Ink" "DotScreens$Ink" "cell" "I" ∈ px_T := px_inT (px_ins 2 (List.mem_of_getElem? (i := 100) rfl)) rfl
theorem px_q435 : Jvm.Cond.lays "DotScreens$Ink" "DotScreens$Ink" "kind" "I" ∈ px_T := px_inT (px_ins 2 (List.mem_of_getElem? (i := 102) rfl)) rfl
theorem px_q437 : Jvm.Cond.lays "DotScreens$Ink" "DotScreens$Ink" "tone" "I" ∈ px_T := px_inT (px_ins 2 (List.mem_of_getElem? (i := 104) rfl)) rfl
theorem px_q439 : Jvm.Cond.lays "DotScreens$Ink" "DotScreens$Ink" "offsetX" "I" ∈ px_T := px_inT (px_ins 2 (List.mem_of_getElem? (i := 106) rfl)) rfl
theorem px_q441 : Jvm.Cond.lays "DotScreens$Ink" "DotScreens$Ink" "offsetY" "I" ∈ px_T := px_inT (px_ins 2 (List.mem_of_getElem? (i := 108) rfl)) rfl
theorem px_q443 : Jvm.Cond.laysFinal "DotScreens$Ink" "DotScreens$Ink" "spots" "[I" ∈ px_T := px_inT (px_ins 2 (List.mem_of_getElem? (i := 110) rfl)) rfl
theorem px_q445 : Jvm.Cond.laysFinal "DotScreens$Ink" "DotScreens$Ink" "ranks" "[I" ∈ px_T := px_inT (px_ins 2 (List.mem_of_getElem? (i := 112) rfl)) rfl
theorem px_q447 : Jvm.Cond.laysFinal "DotScreens$Ink" "DotScreens$Ink" "order" "[I" ∈ px_T := px_inT (px_ins 2 (List.mem_of_getElem? (i := 114) rfl)) rfl
theorem px_q449 : Jvm.Cond.laysFinal "DotScreens$Ink" "DotScreens$Ink" "lots" "[I" ∈ px_T := px_inT (px_ins 2 (List.mem_of_getElem? (i := 116) rfl)) rfl
theorem px_q451 : Jvm.Cond.lays "DotScreens$Ink" "DotScreens$Ink" "touch" "I" ∈ px_T := px_inT (px_ins 2 (List.mem_of_getElem? (i := 118) rfl)) rfl
theorem px_q453 : Jvm.Cond.lays "DotScreens$Ink" "DotScreens$Ink" "solid" "I" ∈ px_T := px_inT (px_ins 2 (List.mem_of_getElem? (i := 120) rfl)) rfl
theorem px_q455 : Jvm.Cond.lays "DotScreens$Ink" "DotScreens$Ink" "isSorted" "Z" ∈ px_T := px_inT (px_ins 2 (List.mem_of_getElem? (i := 122) rfl)) rfl
theorem px_q457 : Jvm.Cond.lays "DotScreens$Ink" "DotScreens$Ink" "isGrown" "Z" ∈ px_T := px_inT (px_ins 2 (List.mem_of_getElem? (i := 124) rfl)) rfl
theorem px_q459 : Jvm.Cond.lays "DotScreens$Ink" "DotScreens$Ink" "rowStart" "I" ∈ px_T := px_inT (px_ins 2 (List.mem_of_getElem? (i := 126) rfl)) rfl
theorem px_q461 : Jvm.Cond.lays "DotScreens$Ink" "DotScreens$Ink" "column" "I" ∈ px_T := px_inT (px_ins 2 (List.mem_of_getElem? (i := 128) rfl)) rfl
theorem px_q463 : Jvm.Cond.lays "DotScreens$Ink" "DotScreens$Ink" "rowLevel" "I" ∈ px_T := px_inT (px_ins 2 (List.mem_of_getElem? (i := 130) rfl)) rfl
theorem px_q466 : Jvm.Cond.fieldLink "DotScreens" 10 "DotScreens" "tape" "LDotScreens$Tape;" ∈ px_T := px_inT (px_ins 2 (List.mem_of_getElem? (i := 133) rfl)) rfl
theorem px_q467 : Jvm.Cond.fieldLink "DotScreens" 21 "DotScreens" "reader" "LDotScreens$Reader;" ∈ px_T := px_inT (px_ins 2 (List.mem_of_getElem? (i := 134) rfl)) rfl
theorem px_q468 : Jvm.Cond.fieldLink "DotScreens" 27 "DotScreens" "inks" "[LDotScreens$Ink;" ∈ px_T := px_inT (px_ins 2 (List.mem_of_getElem? (i := 135) rfl)) rfl
theorem px_q469 : Jvm.Cond.fieldLink "DotScreens" 96 "DotScreens" "held" "I" ∈ px_T := px_inT (px_ins 2 (List.mem_of_getElem? (i := 136) rfl)) rfl
theorem px_q470 : Jvm.Cond.fieldLink "DotScreens" 31 "DotScreens" "refused" "[I" ∈ px_T := px_inT (px_ins 2 (List.mem_of_getElem? (i := 137) rfl)) rfl
theorem px_q471 : Jvm.Cond.fieldLink "DotScreens" 38 "DotScreens" "growth" "LDotScreens$Growth;" ∈ px_T := px_inT (px_ins 2 (List.mem_of_getElem? (i := 138) rfl)) rfl
theorem px_q472 : Jvm.Cond.fieldLink "DotScreens" 45 "DotScreens" "meeting" "LDotScreens$Grid;" ∈ px_T := px_inT (px_ins 2 (List.mem_of_getElem? (i := 139) rfl)) rfl
theorem px_q473 : Jvm.Cond.fieldLink "DotScreens" 52 "DotScreens" "reduction" "LDotScreens$Reduction;" ∈ px_T := px_inT (px_ins 2 (List.mem_of_getElem? (i := 140) rfl)) rfl
theorem px_q474 : Jvm.Cond.fieldLink "DotScreens" 59 "DotScreens" "beating" "LDotScreens$Beat;" ∈ px_T := px_inT (px_ins 2 (List.mem_of_getElem? (i := 141) rfl)) rfl
theorem px_q475 : Jvm.Cond.fieldLink "DotScreens" 66 "DotScreens" "chooser" "LDotScreens$Chooser;" ∈ px_T := px_inT (px_ins 2 (List.mem_of_getElem? (i := 142) rfl)) rfl
theorem px_q476 : Jvm.Cond.fieldLink "DotScreens" 73 "DotScreens" "square" "LDotScreens$Screen;" ∈ px_T := px_inT (px_ins 2 (List.mem_of_getElem? (i := 143) rfl)) rfl
theorem px_q477 : Jvm.Cond.fieldLink "DotScreens" 332 "DotScreens" "leastUpper" "J" ∈ px_T := px_inT (px_ins 2 (List.mem_of_getElem? (i := 144) rfl)) rfl
theorem px_q478 : Jvm.Cond.fieldLink "DotScreens" 335 "DotScreens" "leastLower" "J" ∈ px_T := px_inT (px_ins 2 (List.mem_of_getElem? (i := 145) rfl)) rfl
theorem px_q479 : Jvm.Cond.laysFinal "DotScreens" "DotScreens" "tape" "LDotScreens$Tape;" ∈ px_T := px_inT (px_ins 2 (List.mem_of_getElem? (i := 146) rfl)) rfl
theorem px_q481 : Jvm.Cond.laysFinal "DotScreens" "DotScreens" "reader" "LDotScreens$Reader;" ∈ px_T := px_inT (px_ins 2 (List.mem_of_getElem? (i := 148) rfl)) rfl
theorem px_q483 : Jvm.Cond.laysFinal "DotScreens" "DotScreens" "inks" "[LDotScreens$Ink;" ∈ px_T := px_inT (px_ins 2 (List.mem_of_getElem? (i := 150) rfl)) rfl
theorem px_q485 : Jvm.Cond.lays "DotScreens" "DotScreens" "held" "I" ∈ px_T := px_inT (px_ins 2 (List.mem_of_getElem? (i := 152) rfl)) rfl
theorem px_q487 : Jvm.Cond.laysFinal "DotScreens" "DotScreens" "refused" "[I" ∈ px_T := px_inT (px_ins 2 (List.mem_of_getElem? (i := 154) rfl)) rfl
theorem px_q489 : Jvm.Cond.laysFinal "DotScreens" "DotScreens" "growth" "LDotScreens$Growth;" ∈ px_T := px_inT (px_ins 2 (List.mem_of_getElem? (i := 156) rfl)) rfl
theorem px_q491 : Jvm.Cond.laysFinal "DotScreens" "DotScreens" "meeting" "LDotScreens$Grid;" ∈ px_T := px_inT (px_ins 2 (List.mem_of_getElem? (i := 158) rfl)) rfl
theorem px_q493 : Jvm.Cond.laysFinal "DotScreens" "DotScreens" "reduction" "LDotScreens$Reduction;" ∈ px_T := px_inT (px_ins 2 (List.mem_of_getElem? (i := 160) rfl)) rfl
theorem px_q495 : Jvm.Cond.laysFinal "DotScreens" "DotScreens" "beating" "LDotScreens$Beat;" ∈ px_T := px_inT (px_ins 2 (List.mem_of_getElem? (i := 162) rfl)) rfl
theorem px_q497 : Jvm.Cond.laysFinal "DotScreens" "DotScreens" "chooser" "LDotScreens$Chooser;" ∈ px_T := px_inT (px_ins 2 (List.mem_of_getElem? (i := 164) rfl)) rfl
theorem px_q499 : Jvm.Cond.laysFinal "DotScreens" "DotScreens" "square" "LDotScreens$Screen;" ∈ px_T := px_inT (px_ins 2 (List.mem_of_getElem? (i := 166) rfl)) rfl
theorem px_q501 : Jvm.Cond.lays "DotScreens" "DotScreens" "leastUpper" "J" ∈ px_T := px_inT (px_ins 2 (List.mem_of_getElem? (i := 168) rfl)) rfl
theorem px_q503 : Jvm.Cond.lays "DotScreens" "DotScreens" "leastLower" "J" ∈ px_T := px_inT (px_ins 2 (List.mem_of_getElem? (i := 170) rfl)) rfl
theorem px_q506 : Jvm.Cond.methodLink "DotScreensLaw" 19 ⟨"DotScreens", "feed", "(IIIII)I"⟩ ∈ px_T := px_inT (px_ins 2 (List.mem_of_getElem? (i := 173) rfl)) rfl
theorem px_q507 : Jvm.Cond.instanceMethod ⟨"DotScreens", "feed", "(IIIII)I"⟩ ∈ px_T := px_inT (px_ins 2 (List.mem_of_getElem? (i := 174) rfl)) rfl
theorem px_q508 : Jvm.Cond.selects "DotScreens" ⟨"DotScreens", "feed", "(IIIII)I"⟩ ⟨"DotScreens", "feed", "(IIIII)I"⟩ ∈ px_T := px_inT (px_ins 2 (List.mem_of_getElem? (i := 175) rfl)) rfl
theorem px_q509 : Jvm.Cond.code ⟨"DotScreens", "feed", "(IIIII)I"⟩ prog_1_method_2_code 7 (some FieldType.int) ∈ px_T := px_inT (px_ins 2 (List.mem_of_getElem? (i := 176) rfl)) rfl
theorem px_q510 : Jvm.Cond.methodLink "DotScreens" 78 ⟨"DotScreens", "bytesIn", "(I)I"⟩ ∈ px_T := px_inT (px_ins 2 (List.mem_of_getElem? (i := 177) rfl)) rfl
theorem px_q511 : Jvm.Cond.static ⟨"DotScreens", "bytesIn", "(I)I"⟩ ∈ px_T := px_inT (px_ins 2 (List.mem_of_getElem? (i := 178) rfl)) rfl
theorem px_q512 : Jvm.Cond.code ⟨"DotScreens", "bytesIn", "(I)I"⟩ prog_1_method_56_code 3 (some FieldType.int) ∈ px_T := px_inT (px_ins 2 (List.mem_of_getElem? (i := 179) rfl)) rfl
theorem px_q513 : Jvm.Cond.methodLink "DotScreens" 86 ⟨"DotScreens$Tape", "put", "(I)V"⟩ ∈ px_T := px_inT (px_ins 2 (List.mem_of_getElem? (i := 180) rfl)) rfl
theorem px_q514 : Jvm.Cond.instanceMethod ⟨"DotScreens$Tape", "put", "(I)V"⟩ ∈ px_T := px_inT (px_ins 2 (List.mem_of_getElem? (i := 181) rfl)) rfl
theorem px_q515 : Jvm.Cond.selects "DotScreens$Tape" ⟨"DotScreens$Tape", "put", "(I)V"⟩ ⟨"DotScreens$Tape", "put", "(I)V"⟩ ∈ px_T := px_inT (px_ins 2 (List.mem_of_getElem? (i := 182) rfl)) rfl
theorem px_q516 : Jvm.Cond.code ⟨"DotScreens$Tape", "put", "(I)V"⟩ prog_10_method_2_code 4 none ∈ px_T := px_inT (px_ins 2 (List.mem_of_getElem? (i := 183) rfl)) rfl
theorem px_q517 : Jvm.Cond.methodLink "DotScreensLaw" 24 ⟨"DotScreens", "end", "(I)Z"⟩ ∈ px_T := px_inT (px_ins 2 (List.mem_of_getElem? (i := 184) rfl)) rfl
theorem px_q518 : Jvm.Cond.instanceMethod ⟨"DotScreens", "end", "(I)Z"⟩ ∈ px_T := px_inT (px_ins 2 (List.mem_of_getElem? (i := 185) rfl)) rfl
theorem px_q519 : Jvm.Cond.selects "DotScreens" ⟨"DotScreens", "end", "(I)Z"⟩ ⟨"DotScreens", "end", "(I)Z"⟩ ∈ px_T := px_inT (px_ins 2 (List.mem_of_getElem? (i := 186) rfl)) rfl
theorem px_q520 : Jvm.Cond.code ⟨"DotScreens", "end", "(I)Z"⟩ prog_1_method_3_code 2 (some FieldType.boolean) ∈ px_T := px_inT (px_ins 2 (List.mem_of_getElem? (i := 187) rfl)) rfl
theorem px_q521 : Jvm.Cond.methodLink "DotScreensLaw" 29 ⟨"DotScreens", "fault", "()I"⟩ ∈ px_T := px_inT (px_ins 2 (List.mem_of_getElem? (i := 188) rfl)) rfl
theorem px_q522 : Jvm.Cond.instanceMethod ⟨"DotScreens", "fault", "()I"⟩ ∈ px_T := px_inT (px_ins 2 (List.mem_of_getElem? (i := 189) rfl)) rfl
theorem px_q523 : Jvm.Cond.selects "DotScreens" ⟨"DotScreens", "fault", "()I"⟩ ⟨"DotScreens", "fault", "()I"⟩ ∈ px_T := px_inT (px_ins 2 (List.mem_of_getElem? (i := 190) rfl)) rfl
theorem px_q524 : Jvm.Cond.code ⟨"DotScreens", "fault", "()I"⟩ prog_1_method_4_code 1 (some FieldType.int) ∈ px_T := px_inT (px_ins 2 (List.mem_of_getElem? (i := 191) rfl)) rfl
theorem px_q525 : Jvm.Cond.methodLink "DotScreens" 90 ⟨"DotScreens$Reader", "read", "()V"⟩ ∈ px_T := px_inT (px_ins 2 (List.mem_of_getElem? (i := 192) rfl)) rfl
theorem px_q526 : Jvm.Cond.instanceMethod ⟨"DotScreens$Reader", "read", "()V"⟩ ∈ px_T := px_inT (px_ins 2 (List.mem_of_getElem? (i := 193) rfl)) rfl
theorem px_q527 : Jvm.Cond.selects "DotScreens$Reader" ⟨"DotScreens$Reader", "read", "()V"⟩ ⟨"DotScreens$Reader", "read", "()V"⟩ ∈ px_T := px_inT (px_ins 2 (List.mem_of_getElem? (i := 194) rfl)) rfl
theorem px_q528 : Jvm.Cond.code ⟨"DotScreens$Reader", "read", "()V"⟩ prog_7_method_4_code 2 none ∈ px_T := px_inT (px_ins 2 (List.mem_of_getElem? (i := 195) rfl)) rfl
theorem px_q529 : Jvm.Cond.methodLink "DotScreens$Reader" 33 ⟨"DotScreens$Reader", "pass", "()V"⟩ ∈ px_T := px_inT (px_ins 2 (List.mem_of_getElem? (i := 196) rfl)) rfl
theorem px_q531 : Jvm.Cond.instanceMethod ⟨"DotScreens$Reader", "pass", "()V"⟩ ∈ px_T := px_inT (px_ins 2 (List.mem_of_getElem? (i := 198) rfl)) rfl
theorem px_q532 : Jvm.Cond.code ⟨"DotScreens$Reader", "pass", "()V"⟩ prog_7_method_6_code 2 none ∈ px_T := px_inT (px_ins 2 (List.mem_of_getElem? (i := 199) rfl)) rfl
theorem px_q533 : Jvm.Cond.methodLink "DotScreens$Reader" 51 ⟨"DotScreens$Reader", "move", "()V"⟩ ∈ px_T := px_inT (px_ins 2 (List.mem_of_getElem? (i := 200) rfl)) rfl
theorem px_q535 : Jvm.Cond.instanceMethod ⟨"DotScreens$Reader", "move", "()V"⟩ ∈ px_T := px_inT (px_ins 2 (List.mem_of_getElem? (i := 202) rfl)) rfl
theorem px_q536 : Jvm.Cond.code ⟨"DotScreens$Reader", "move", "()V"⟩ prog_7_method_5_code 1 none ∈ px_T := px_inT (px_ins 2 (List.mem_of_getElem? (i := 203) rfl)) rfl
theorem px_q537 : Jvm.Cond.methodLink "DotScreens$Reader" 39 ⟨"DotScreens$Reader", "readClause", "()Z"⟩ ∈ px_T := px_inT (px_ins 2 (List.mem_of_getElem? (i := 204) rfl)) rfl
theorem px_q539 : Jvm.Cond.instanceMethod ⟨"DotScreens$Reader", "readClause", "()Z"⟩ ∈ px_T := px_inT (px_ins 2 (List.mem_of_getElem? (i := 206) rfl)) rfl
theorem px_q540 : Jvm.Cond.code ⟨"DotScreens$Reader", "readClause", "()Z"⟩ prog_7_method_8_code 2 (some FieldType.boolean) ∈ px_T := px_inT (px_ins 2 (List.mem_of_getElem? (i := 207) rfl)) rfl
theorem px_q541 : Jvm.Cond.methodLink "DotScreens$Reader" 54 ⟨"DotScreens$Reader", "failAt", "(I)Z"⟩ ∈ px_T := px_inT (px_ins 2 (List.mem_of_getElem? (i := 208) rfl)) rfl
theorem px_q543 : Jvm.Cond.instanceMethod ⟨"DotScreens$Reader", "failAt", "(I)Z"⟩ ∈ px_T := px_inT (px_ins 2 (List.mem_of_getElem? (i := 210) rfl)) rfl
theorem px_q544 : Jvm.Cond.code ⟨"DotScreens$Reader", "failAt", "(I)Z"⟩ prog_7_method_7_code 2 (some FieldType.boolean) ∈ px_T := px_inT (px_ins 2 (List.mem_of_getElem? (i := 211) rfl)) rfl
theorem px_q545 : Jvm.Cond.methodLink "DotScreens$Reader" 58 ⟨"DotScreens$Reader", "readScreen", "()Z"⟩ ∈ px_T := px_inT (px_ins 2 (List.mem_of_getElem? (i := 212) rfl)) rfl
theorem px_q547 : Jvm.Cond.instanceMethod ⟨"DotScreens$Reader", "readScreen", "()Z"⟩ ∈ px_T := px_inT (px_ins 2 (List.mem_of_getElem? (i := 214) rfl)) rfl
theorem px_q548 : Jvm.Cond.code ⟨"DotScreens$Reader", "readScreen", "()Z"⟩ prog_7_method_9_code 1 (some FieldType.boolean) ∈ px_T := px_inT (px_ins 2 (List.mem_of_getElem? (i := 215) rfl)) rfl
theorem px_q549 : Jvm.Cond.methodLink "DotScreens$Reader" 71 ⟨"DotScreens$Reader", "readCouple", "(II)Z"⟩ ∈ px_T := px_inT (px_ins 2 (List.mem_of_getElem? (i := 216) rfl)) rfl
theorem px_q551 : Jvm.Cond.instanceMethod ⟨"DotScreens$Reader", "readCouple", "(II)Z"⟩ ∈ px_T := px_inT (px_ins 2 (List.mem_of_getElem? (i := 218) rfl)) rfl
theorem px_q552 : Jvm.Cond.code ⟨"DotScreens$Reader", "readCouple", "(II)Z"⟩ prog_7_method_12_code 3 (some FieldType.boolean) ∈ px_T := px_inT (px_ins 2 (List.mem_of_getElem? (i := 219) rfl)) rfl
theorem px_q553 : Jvm.Cond.methodLink "DotScreens$Reader" 83 ⟨"DotScreens$Reader", "readNumber", "(III)Z"⟩ ∈ px_T := px_inT (px_ins 2 (List.mem_of_getElem? (i := 220) rfl)) rfl
theorem px_q555 : Jvm.Cond.instanceMethod ⟨"DotScreens$Reader", "readNumber", "(III)Z"⟩ ∈ px_T := px_inT (px_ins 2 (List.mem_of_getElem? (i := 222) rfl)) rfl
theorem px_q556 : Jvm.Cond.code ⟨"DotScreens$Reader", "readNumber", "(III)Z"⟩ prog_7_method_13_code 8 (some FieldType.boolean) ∈ px_T := px_inT (px_ins 2 (List.mem_of_getElem? (i := 223) rfl)) rfl
theorem px_q557 : Jvm.Cond.methodLink "DotScreens$Reader" 64 ⟨"DotScreens$Reader", "tell", "(II)V"⟩ ∈ px_T := px_inT (px_ins 2 (List.mem_of_getElem? (i := 224) rfl)) rfl
theorem px_q559 : Jvm.Cond.instanceMethod ⟨"DotScreens$Reader", "tell", "(II)V"⟩ ∈ px_T := px_inT (px_ins 2 (List.mem_of_getElem? (i := 226) rfl)) rfl
theorem px_q560 : Jvm.Cond.code ⟨"DotScreens$Reader", "tell", "(II)V"⟩ prog_7_method_3_code 4 none ∈ px_T := px_inT (px_ins 2 (List.mem_of_getElem? (i := 227) rfl)) rfl
theorem px_q561 : Jvm.Cond.methodLink "DotScreens$Reader" 75 ⟨"DotScreens$Reader", "told", "(II)I"⟩ ∈ px_T := px_inT (px_ins 2 (List.mem_of_getElem? (i := 228) rfl)) rfl
theorem px_q562 : Jvm.Cond.instanceMethod ⟨"DotScreens$Reader", "told", "(II)I"⟩ ∈ px_T := px_inT (px_ins 2 (List.mem_of_getElem? (i := 229) rfl)) rfl
theorem px_q563 : Jvm.Cond.selects "DotScreens$Reader" ⟨"DotScreens$Reader", "told", "(II)I"⟩ ⟨"DotScreens$Reader", "told", "(II)I"⟩ ∈ px_T := px_inT (px_ins 2 (List.mem_of_getElem? (i := 230) rfl)) rfl
theorem px_q564 : Jvm.Cond.code ⟨"DotScreens$Reader", "told", "(II)I"⟩ prog_7_method_2_code 3 (some FieldType.int) ∈ px_T := px_inT (px_ins 2 (List.mem_of_getElem? (i := 231) rfl)) rfl
theorem px_q565 : Jvm.Cond.methodLinkNest "DotScreens$Reader" 19 ⟨"DotScreens", "at", "([II)I"⟩ "DotScreens" ∈ px_TN := px_inTN (px_ins 2 (List.mem_of_getElem? (i := 232) rfl)) rfl
theorem px_q566 : Jvm.Cond.static ⟨"DotScreens", "at", "([II)I"⟩ ∈ px_T := px_inT (px_ins 2 (List.mem_of_getElem? (i := 233) rfl)) rfl
theorem px_q567 : Jvm.Cond.code ⟨"DotScreens", "at", "([II)I"⟩ prog_1_method_57_code 2 (some FieldType.int) ∈ px_T := px_inT (px_ins 2 (List.mem_of_getElem? (i := 234) rfl)) rfl
theorem px_q568 : Jvm.Cond.methodLink "DotScreens$Reader" 68 ⟨"DotScreens$Reader", "readLetter", "()Z"⟩ ∈ px_T := px_inT (px_ins 2 (List.mem_of_getElem? (i := 235) rfl)) rfl
theorem px_q570 : Jvm.Cond.instanceMethod ⟨"DotScreens$Reader", "readLetter", "()Z"⟩ ∈ px_T := px_inT (px_ins 2 (List.mem_of_getElem? (i := 237) rfl)) rfl
theorem px_q571 : Jvm.Cond.code ⟨"DotScreens$Reader", "readLetter", "()Z"⟩ prog_7_method_10_code 3 (some FieldType.boolean) ∈ px_T := px_inT (px_ins 2 (List.mem_of_getElem? (i := 238) rfl)) rfl
theorem px_q572 : Jvm.Cond.methodLink "DotScreens$Reader" 79 ⟨"DotScreens$Reader", "partOf", "(I)I"⟩ ∈ px_T := px_inT (px_ins 2 (List.mem_of_getElem? (i := 239) rfl)) rfl
theorem px_q573 : Jvm.Cond.static ⟨"DotScreens$Reader", "partOf", "(I)I"⟩ ∈ px_T := px_inT (px_ins 3 (List.mem_of_getElem? (i := 0) rfl)) rfl
theorem px_q574 : Jvm.Cond.code ⟨"DotScreens$Reader", "partOf", "(I)I"⟩ prog_7_method_11_code 1 (some FieldType.int) ∈ px_T := px_inT (px_ins 3 (List.mem_of_getElem? (i := 1) rfl)) rfl
theorem px_q575 : Jvm.Cond.methodLink "DotScreensLaw" 34 ⟨"DotScreens", "text", "()I"⟩ ∈ px_T := px_inT (px_ins 3 (List.mem_of_getElem? (i := 2) rfl)) rfl
theorem px_q576 : Jvm.Cond.instanceMethod ⟨"DotScreens", "text", "()I"⟩ ∈ px_T := px_inT (px_ins 3 (List.mem_of_getElem? (i := 3) rfl)) rfl
theorem px_q577 : Jvm.Cond.selects "DotScreens" ⟨"DotScreens", "text", "()I"⟩ ⟨"DotScreens", "text", "()I"⟩ ∈ px_T := px_inT (px_ins 3 (List.mem_of_getElem? (i := 4) rfl)) rfl
theorem px_q578 : Jvm.Cond.code ⟨"DotScreens", "text", "()I"⟩ prog_1_method_5_code 2 (some FieldType.int) ∈ px_T := px_inT (px_ins 3 (List.mem_of_getElem? (i := 5) rfl)) rfl
theorem px_q579 : Jvm.Cond.methodLink "DotScreens" 102 ⟨"DotScreens", "takeClause", "(I)V"⟩ ∈ px_T := px_inT (px_ins 3 (List.mem_of_getElem? (i := 6) rfl)) rfl
theorem px_q581 : Jvm.Cond.instanceMethod ⟨"DotScreens", "takeClause", "(I)V"⟩ ∈ px_T := px_inT (px_ins 3 (List.mem_of_getElem? (i := 8) rfl)) rfl
theorem px_q582 : Jvm.Cond.code ⟨"DotScreens", "takeClause", "(I)V"⟩ prog_1_method_6_code 7 none ∈ px_T := px_inT (px_ins 3 (List.mem_of_getElem? (i := 9) rfl)) rfl
theorem px_q583 : Jvm.Cond.methodLink "DotScreens" 105 ⟨"DotScreens$Reader", "told", "(II)I"⟩ ∈ px_T := px_inT (px_ins 3 (List.mem_of_getElem? (i := 10) rfl)) rfl
theorem px_q584 : Jvm.Cond.methodLink "DotScreens" 109 ⟨"DotScreens", "isCell", "(I)Z"⟩ ∈ px_T := px_inT (px_ins 3 (List.mem_of_getElem? (i := 11) rfl)) rfl
theorem px_q585 : Jvm.Cond.static ⟨"DotScreens", "isCell", "(I)Z"⟩ ∈ px_T := px_inT (px_ins 3 (List.mem_of_getElem? (i := 12) rfl)) rfl
theorem px_q586 : Jvm.Cond.code ⟨"DotScreens", "isCell", "(I)Z"⟩ prog_1_method_55_code 1 (some FieldType.boolean) ∈ px_T := px_inT (px_ins 3 (List.mem_of_getElem? (i := 13) rfl)) rfl
theorem px_q587 : Jvm.Cond.methodLink "DotScreens" 345 ⟨"DotScreens", "isWithin", "(II)Z"⟩ ∈ px_T := px_inT (px_ins 3 (List.mem_of_getElem? (i := 14) rfl)) rfl
theorem px_q588 : Jvm.Cond.static ⟨"DotScreens", "isWithin", "(II)Z"⟩ ∈ px_T := px_inT (px_ins 3 (List.mem_of_getElem? (i := 15) rfl)) rfl
theorem px_q589 : Jvm.Cond.code ⟨"DotScreens", "isWithin", "(II)Z"⟩ prog_1_method_51_code 2 (some FieldType.boolean) ∈ px_T := px_inT (px_ins 3 (List.mem_of_getElem? (i := 16) rfl)) rfl
theorem px_q590 : Jvm.Cond.methodLink "DotScreens" 113 ⟨"DotScreens$Ink", "takeScreen", "(IIII)V"⟩ ∈ px_T := px_inT (px_ins 3 (List.mem_of_getElem? (i := 17) rfl)) rfl
theorem px_q591 : Jvm.Cond.instanceMethod ⟨"DotScreens$Ink", "takeScreen", "(IIII)V"⟩ ∈ px_T := px_inT (px_ins 3 (List.mem_of_getElem? (i := 18) rfl)) rfl
theorem px_q592 : Jvm.Cond.selects "DotScreens$Ink" ⟨"DotScreens$Ink", "takeScreen", "(IIII)V"⟩ ⟨"DotScreens$Ink", "takeScreen", "(IIII)V"⟩ ∈ px_T := px_inT (px_ins 3 (List.mem_of_getElem? (i := 19) rfl)) rfl
theorem px_q593 : Jvm.Cond.code ⟨"DotScreens$Ink", "takeScreen", "(IIII)V"⟩ prog_6_method_2_code 5 none ∈ px_T := px_inT (px_ins 3 (List.mem_of_getElem? (i := 20) rfl)) rfl
theorem px_q594 : Jvm.Cond.methodLink "DotScreens$Ink" 42 ⟨"DotScreens$Screen", "take", "(IIII)V"⟩ ∈ px_T := px_inT (px_ins 3 (List.mem_of_getElem? (i := 21) rfl)) rfl
theorem px_q595 : Jvm.Cond.instanceMethod ⟨"DotScreens$Screen", "take", "(IIII)V"⟩ ∈ px_T := px_inT (px_ins 3 (List.mem_of_getElem? (i := 22) rfl)) rfl
theorem px_q596 : Jvm.Cond.selects "DotScreens$Screen" ⟨"DotScreens$Screen", "take", "(IIII)V"⟩ ⟨"DotScreens$Screen", "take", "(IIII)V"⟩ ∈ px_T := px_inT (px_ins 3 (List.mem_of_getElem? (i := 23) rfl)) rfl
theorem px_q597 : Jvm.Cond.code ⟨"DotScreens$Screen", "take", "(IIII)V"⟩ prog_9_method_2_code 5 none ∈ px_T := px_inT (px_ins 3 (List.mem_of_getElem? (i := 24) rfl)) rfl
theorem px_q598 : Jvm.Cond.methodLink "DotScreens$Ink" 46 ⟨"DotScreens$Grid", "take", "(LDotScreens$Screen;)V"⟩ ∈ px_T := px_inT (px_ins 3 (List.mem_of_getElem? (i := 25) rfl)) rfl
theorem px_q599 : Jvm.Cond.instanceMethod ⟨"DotScreens$Grid", "take", "(LDotScreens$Screen;)V"⟩ ∈ px_T := px_inT (px_ins 3 (List.mem_of_getElem? (i := 26) rfl)) rfl
theorem px_q600 : Jvm.Cond.selects "DotScreens$Grid" ⟨"DotScreens$Grid", "take", "(LDotScreens$Screen;)V"⟩ ⟨"DotScreens$Grid", "take", "(LDotScreens$Screen;)V"⟩ ∈ px_T := px_inT (px_ins 3 (List.mem_of_getElem? (i := 27) rfl)) rfl
theorem px_q601 : Jvm.Cond.code ⟨"DotScreens$Grid", "take", "(LDotScreens$Screen;)V"⟩ prog_4_method_3_code 17 none ∈ px_T := px_inT (px_ins 3 (List.mem_of_getElem? (i := 28) rfl)) rfl
theorem px_q602 : Jvm.Cond.methodLink "DotScreens$Grid" 36 ⟨"java/lang/Math", "abs", "(J)J"⟩ ∈ px_T := px_inT (px_ins 3 (List.mem_of_getElem? (i := 29) rfl)) rfl
theorem px_q603 : Jvm.Cond.static ⟨"java/lang/Math", "abs", "(J)J"⟩ ∈ px_T := px_inT (px_ins 3 (List.mem_of_getElem? (i := 30) rfl)) rfl
theorem px_q604 : Jvm.Cond.code ⟨"java/lang/Math", "abs", "(J)J"⟩ prog_16_method_61_code 2 (some FieldType.long) ∈ px_T := px_inT (px_ins 3 (List.mem_of_getElem? (i := 31) rfl)) rfl
theorem px_q605 : Jvm.Cond.methodLinkNest "DotScreens$Grid" 42 ⟨"DotScreens", "mod", "(JJ)J"⟩ "DotScreens" ∈ px_TN := px_inTN (px_ins 3 (List.mem_of_getElem? (i := 32) rfl)) rfl
theorem px_q606 : Jvm.Cond.static ⟨"DotScreens", "mod", "(JJ)J"⟩ ∈ px_T := px_inT (px_ins 3 (List.mem_of_getElem? (i := 33) rfl)) rfl
theorem px_q607 : Jvm.Cond.code ⟨"DotScreens", "mod", "(JJ)J"⟩ prog_1_method_59_code 4 (some FieldType.long) ∈ px_T := px_inT (px_ins 3 (List.mem_of_getElem? (i := 34) rfl)) rfl
theorem px_q608 : Jvm.Cond.methodLink "DotScreens" 373 ⟨"java/lang/Math", "floorMod", "(JJ)J"⟩ ∈ px_T := px_inT (px_ins 3 (List.mem_of_getElem? (i := 35) rfl)) rfl
theorem px_q609 : Jvm.Cond.static ⟨"java/lang/Math", "floorMod", "(JJ)J"⟩ ∈ px_T := px_inT (px_ins 3 (List.mem_of_getElem? (i := 36) rfl)) rfl
theorem px_q610 : Jvm.Cond.code ⟨"java/lang/Math", "floorMod", "(JJ)J"⟩ prog_16_method_52_code 6 (some FieldType.long) ∈ px_T := px_inT (px_ins 3 (List.mem_of_getElem? (i := 37) rfl)) rfl
theorem px_q611 : Jvm.Cond.methodLink "DotScreens$Ink" 49 ⟨"DotScreens$Screen", "area", "()I"⟩ ∈ px_T := px_inT (px_ins 3 (List.mem_of_getElem? (i := 38) rfl)) rfl
theorem px_q612 : Jvm.Cond.instanceMethod ⟨"DotScreens$Screen", "area", "()I"⟩ ∈ px_T := px_inT (px_ins 3 (List.mem_of_getElem? (i := 39) rfl)) rfl
theorem px_q613 : Jvm.Cond.selects "DotScreens$Screen" ⟨"DotScreens$Screen", "area", "()I"⟩ ⟨"DotScreens$Screen", "area", "()I"⟩ ∈ px_T := px_inT (px_ins 3 (List.mem_of_getElem? (i := 40) rfl)) rfl
theorem px_q614 : Jvm.Cond.code ⟨"DotScreens$Screen", "area", "()I"⟩ prog_9_method_5_code 1 (some FieldType.int) ∈ px_T := px_inT (px_ins 3 (List.mem_of_getElem? (i := 41) rfl)) rfl
theorem px_q615 : Jvm.Cond.methodLink "DotScreens$Ink" 53 ⟨"java/lang/Math", "abs", "(I)I"⟩ ∈ px_T := px_inT (px_ins 3 (List.mem_of_getElem? (i := 42) rfl)) rfl
theorem px_q616 : Jvm.Cond.static ⟨"java/lang/Math", "abs", "(I)I"⟩ ∈ px_T := px_inT (px_ins 3 (List.mem_of_getElem? (i := 43) rfl)) rfl
theorem px_q617 : Jvm.Cond.code ⟨"java/lang/Math", "abs", "(I)I"⟩ prog_16_method_59_code 1 (some FieldType.int) ∈ px_T := px_inT (px_ins 3 (List.mem_of_getElem? (i := 44) rfl)) rfl
theorem px_q618 : Jvm.Cond.methodLink "DotScreens$Ink" 59 ⟨"java/lang/Math", "min", "(II)I"⟩ ∈ px_T := px_inT (px_ins 3 (List.mem_of_getElem? (i := 45) rfl)) rfl
theorem px_q619 : Jvm.Cond.static ⟨"java/lang/Math", "min", "(II)I"⟩ ∈ px_T := px_inT (px_ins 3 (List.mem_of_getElem? (i := 46) rfl)) rfl
theorem px_q620 : Jvm.Cond.code ⟨"java/lang/Math", "min", "(II)I"⟩ prog_16_method_69_code 2 (some FieldType.int) ∈ px_T := px_inT (px_ins 3 (List.mem_of_getElem? (i := 47) rfl)) rfl
theorem px_q621 : Jvm.Cond.methodLink "DotScreens" 117 ⟨"DotScreens$Ink", "takeSpot", "(I)V"⟩ ∈ px_T := px_inT (px_ins 3 (List.mem_of_getElem? (i := 48) rfl)) rfl
theorem px_q622 : Jvm.Cond.instanceMethod ⟨"DotScreens$Ink", "takeSpot", "(I)V"⟩ ∈ px_T := px_inT (px_ins 3 (List.mem_of_getElem? (i := 49) rfl)) rfl
theorem px_q623 : Jvm.Cond.selects "DotScreens$Ink" ⟨"DotScreens$Ink", "takeSpot", "(I)V"⟩ ⟨"DotScreens$Ink", "takeSpot", "(I)V"⟩ ∈ px_T := px_inT (px_ins 3 (List.mem_of_getElem? (i := 50) rfl)) rfl
theorem px_q624 : Jvm.Cond.code ⟨"DotScreens$Ink", "takeSpot", "(I)V"⟩ prog_6_method_3_code 2 none ∈ px_T := px_inT (px_ins 3 (List.mem_of_getElem? (i := 51) rfl)) rfl
theorem px_q625 : Jvm.Cond.methodLink "DotScreensLaw" 47 ⟨"DotScreens", "brick", "(II)I"⟩ ∈ px_T := px_inT (px_ins 3 (List.mem_of_getElem? (i := 52) rfl)) rfl
theorem px_q626 : Jvm.Cond.instanceMethod ⟨"DotScreens", "brick", "(II)I"⟩ ∈ px_T := px_inT (px_ins 3 (List.mem_of_getElem? (i := 53) rfl)) rfl
theorem px_q627 : Jvm.Cond.selects "DotScreens" ⟨"DotScreens", "brick", "(II)I"⟩ ⟨"DotScreens", "brick", "(II)I"⟩ ∈ px_T := px_inT (px_ins 3 (List.mem_of_getElem? (i := 54) rfl)) rfl
theorem px_q628 : Jvm.Cond.code ⟨"DotScreens", "brick", "(II)I"⟩ prog_1_method_8_code 4 (some FieldType.int) ∈ px_T := px_inT (px_ins 3 (List.mem_of_getElem? (i := 55) rfl)) rfl
theorem px_q629 : Jvm.Cond.methodLink "DotScreens" 129 ⟨"DotScreens", "isInk", "(I)Z"⟩ ∈ px_T := px_inT (px_ins 3 (List.mem_of_getElem? (i := 56) rfl)) rfl
theorem px_q631 : Jvm.Cond.instanceMethod ⟨"DotScreens", "isInk", "(I)Z"⟩ ∈ px_T := px_inT (px_ins 3 (List.mem_of_getElem? (i := 58) rfl)) rfl
theorem px_q632 : Jvm.Cond.code ⟨"DotScreens", "isInk", "(I)Z"⟩ prog_1_method_48_code 2 (some FieldType.boolean) ∈ px_T := px_inT (px_ins 3 (List.mem_of_getElem? (i := 59) rfl)) rfl
theorem px_q633 : Jvm.Cond.constant "DotScreens" 164 (-1000000) ∈ px_T := px_inT (px_ins 3 (List.mem_of_getElem? (i := 60) rfl)) rfl
theorem px_q634 : Jvm.Cond.methodLink "DotScreensLaw" 51 ⟨"DotScreens", "home", "(IIII)I"⟩ ∈ px_T := px_inT (px_ins 3 (List.mem_of_getElem? (i := 61) rfl)) rfl
theorem px_q635 : Jvm.Cond.instanceMethod ⟨"DotScreens", "home", "(IIII)I"⟩ ∈ px_T := px_inT (px_ins 3 (List.mem_of_getElem? (i := 62) rfl)) rfl
theorem px_q636 : Jvm.Cond.selects "DotScreens" ⟨"DotScreens", "home", "(IIII)I"⟩ ⟨"DotScreens", "home", "(IIII)I"⟩ ∈ px_T := px_inT (px_ins 3 (List.mem_of_getElem? (i := 63) rfl)) rfl
theorem px_q637 : Jvm.Cond.code ⟨"DotScreens", "home", "(IIII)I"⟩ prog_1_method_9_code 6 (some FieldType.int) ∈ px_T := px_inT (px_ins 3 (List.mem_of_getElem? (i := 64) rfl)) rfl
theorem px_q638 : Jvm.Cond.methodLink "DotScreens" 178 ⟨"DotScreens", "isPixel", "(II)Z"⟩ ∈ px_T := px_inT (px_ins 3 (List.mem_of_getElem? (i := 65) rfl)) rfl
theorem px_q639 : Jvm.Cond.static ⟨"DotScreens", "isPixel", "(II)Z"⟩ ∈ px_T := px_inT (px_ins 3 (List.mem_of_getElem? (i := 66) rfl)) rfl
theorem px_q640 : Jvm.Cond.code ⟨"DotScreens", "isPixel", "(II)Z"⟩ prog_1_method_52_code 2 (some FieldType.boolean) ∈ px_T := px_inT (px_ins 3 (List.mem_of_getElem? (i := 67) rfl)) rfl
theorem px_q641 : Jvm.Cond.methodLink "DotScreens" 182 ⟨"DotScreens", "isAxis", "(I)Z"⟩ ∈ px_T := px_inT (px_ins 3 (List.mem_of_getElem? (i := 68) rfl)) rfl
theorem px_q642 : Jvm.Cond.static ⟨"DotScreens", "isAxis", "(I)Z"⟩ ∈ px_T := px_inT (px_ins 3 (List.mem_of_getElem? (i := 69) rfl)) rfl
theorem px_q643 : Jvm.Cond.code ⟨"DotScreens", "isAxis", "(I)Z"⟩ prog_1_method_50_code 1 (some FieldType.boolean) ∈ px_T := px_inT (px_ins 3 (List.mem_of_getElem? (i := 70) rfl)) rfl
theorem px_q644 : Jvm.Cond.methodLink "DotScreens" 185 ⟨"DotScreens$Ink", "placeOf", "(II)I"⟩ ∈ px_T := px_inT (px_ins 3 (List.mem_of_getElem? (i := 71) rfl)) rfl
theorem px_q645 : Jvm.Cond.instanceMethod ⟨"DotScreens$Ink", "placeOf", "(II)I"⟩ ∈ px_T := px_inT (px_ins 3 (List.mem_of_getElem? (i := 72) rfl)) rfl
theorem px_q646 : Jvm.Cond.selects "DotScreens$Ink" ⟨"DotScreens$Ink", "placeOf", "(II)I"⟩ ⟨"DotScreens$Ink", "placeOf", "(II)I"⟩ ∈ px_T := px_inT (px_ins 3 (List.mem_of_getElem? (i := 73) rfl)) rfl
theorem px_q647 : Jvm.Cond.code ⟨"DotScreens$Ink", "placeOf", "(II)I"⟩ prog_6_method_5_code 3 (some FieldType.int) ∈ px_T := px_inT (px_ins 3 (List.mem_of_getElem? (i := 74) rfl)) rfl
theorem px_q648 : Jvm.Cond.methodLink "DotScreens$Ink" 82 ⟨"DotScreens$Ink", "placeFrom", "(II)I"⟩ ∈ px_T := px_inT (px_ins 3 (List.mem_of_getElem? (i := 75) rfl)) rfl
theorem px_q649 : Jvm.Cond.instanceMethod ⟨"DotScreens$Ink", "placeFrom", "(II)I"⟩ ∈ px_T := px_inT (px_ins 3 (List.mem_of_getElem? (i := 76) rfl)) rfl
theorem px_q650 : Jvm.Cond.selects "DotScreens$Ink" ⟨"DotScreens$Ink", "placeFrom", "(II)I"⟩ ⟨"DotScreens$Ink", "placeFrom", "(II)I"⟩ ∈ px_T := px_inT (px_ins 3 (List.mem_of_getElem? (i := 77) rfl)) rfl
theorem px_q651 : Jvm.Cond.code ⟨"DotScreens$Ink", "placeFrom", "(II)I"⟩ prog_6_method_6_code 5 (some FieldType.int) ∈ px_T := px_inT (px_ins 3 (List.mem_of_getElem? (i := 78) rfl)) rfl
theorem px_q652 : Jvm.Cond.methodLinkNest "DotScreens$Ink" 89 ⟨"DotScreens", "div", "(JJ)J"⟩ "DotScreens" ∈ px_TN := px_inTN (px_ins 3 (List.mem_of_getElem? (i := 79) rfl)) rfl
theorem px_q653 : Jvm.Cond.static ⟨"DotScreens", "div", "(JJ)J"⟩ ∈ px_T := px_inT (px_ins 3 (List.mem_of_getElem? (i := 80) rfl)) rfl
theorem px_q654 : Jvm.Cond.code ⟨"DotScreens", "div", "(JJ)J"⟩ prog_1_method_58_code 4 (some FieldType.long) ∈ px_T := px_inT (px_ins 3 (List.mem_of_getElem? (i := 81) rfl)) rfl
theorem px_q655 : Jvm.Cond.methodLink "DotScreens" 370 ⟨"java/lang/Math", "floorDiv", "(JJ)J"⟩ ∈ px_T := px_inT (px_ins 3 (List.mem_of_getElem? (i := 82) rfl)) rfl
theorem px_q656 : Jvm.Cond.static ⟨"java/lang/Math", "floorDiv", "(JJ)J"⟩ ∈ px_T := px_inT (px_ins 3 (List.mem_of_getElem? (i := 83) rfl)) rfl
theorem px_q657 : Jvm.Cond.code ⟨"java/lang/Math", "floorDiv", "(JJ)J"⟩ prog_16_method_49_code 6 (some FieldType.long) ∈ px_T := px_inT (px_ins 3 (List.mem_of_getElem? (i := 84) rfl)) rfl
theorem px_q658 : Jvm.Cond.methodLinkNest "DotScreens$Ink" 99 ⟨"DotScreens", "mod", "(JJ)J"⟩ "DotScreens" ∈ px_TN := px_inTN (px_ins 3 (List.mem_of_getElem? (i := 85) rfl)) rfl
theorem px_q659 : Jvm.Cond.methodLink "DotScreens" 188 ⟨"DotScreens$Ink", "axisOf", "(II)I"⟩ ∈ px_T := px_inT (px_ins 3 (List.mem_of_getElem? (i := 86) rfl)) rfl
theorem px_q660 : Jvm.Cond.instanceMethod ⟨"DotScreens$Ink", "axisOf", "(II)I"⟩ ∈ px_T := px_inT (px_ins 3 (List.mem_of_getElem? (i := 87) rfl)) rfl
theorem px_q661 : Jvm.Cond.selects "DotScreens$Ink" ⟨"DotScreens$Ink", "axisOf", "(II)I"⟩ ⟨"DotScreens$Ink", "axisOf", "(II)I"⟩ ∈ px_T := px_inT (px_ins 3 (List.mem_of_getElem? (i := 88) rfl)) rfl
theorem px_q662 : Jvm.Cond.code ⟨"DotScreens$Ink", "axisOf", "(II)I"⟩ prog_6_method_7_code 3 (some FieldType.int) ∈ px_T := px_inT (px_ins 3 (List.mem_of_getElem? (i := 89) rfl)) rfl
theorem px_q663 : Jvm.Cond.methodLink "DotScreensLaw" 56 ⟨"DotScreens", "reduced", "(II)I"⟩ ∈ px_T := px_inT (px_ins 3 (List.mem_of_getElem? (i := 90) rfl)) rfl
theorem px_q664 : Jvm.Cond.instanceMethod ⟨"DotScreens", "reduced", "(II)I"⟩ ∈ px_T := px_inT (px_ins 3 (List.mem_of_getElem? (i := 91) rfl)) rfl
theorem px_q665 : Jvm.Cond.selects "DotScreens" ⟨"DotScreens", "reduced", "(II)I"⟩ ⟨"DotScreens", "reduced", "(II)I"⟩ ∈ px_T := px_inT (px_ins 3 (List.mem_of_getElem? (i := 92) rfl)) rfl
theorem px_q666 : Jvm.Cond.code ⟨"DotScreens", "reduced", "(II)I"⟩ prog_1_method_10_code 3 (some FieldType.int) ∈ px_T := px_inT (px_ins 3 (List.mem_of_getElem? (i := 93) rfl)) rfl
theorem px_q667 : Jvm.Cond.methodLink "DotScreens" 191 ⟨"DotScreens$Reduction", "reduce", "(LDotScreens$Grid;)V"⟩ ∈ px_T := px_inT (px_ins 3 (List.mem_of_getElem? (i := 94) rfl)) rfl
theorem px_q668 : Jvm.Cond.instanceMethod ⟨"DotScreens$Reduction", "reduce", "(LDotScreens$Grid;)V"⟩ ∈ px_T := px_inT (px_ins 3 (List.mem_of_getElem? (i := 95) rfl)) rfl
theorem px_q669 : Jvm.Cond.selects "DotScreens$Reduction" ⟨"DotScreens$Reduction", "reduce", "(LDotScreens$Grid;)V"⟩ ⟨"DotScreens$Reduction", "reduce", "(LDotScreens$Grid;)V"⟩ ∈ px_T := px_inT (px_ins 3 (List.mem_of_getElem? (i := 96) rfl)) rfl
theorem px_q670 : Jvm.Cond.code ⟨"DotScreens$Reduction", "reduce", "(LDotScreens$Grid;)V"⟩ prog_8_method_2_code 2 none ∈ px_T := px_inT (px_ins 3 (List.mem_of_getElem? (i := 97) rfl)) rfl
theorem px_q671 : Jvm.Cond.methodLink "DotScreens$Reduction" 9 ⟨"DotScreens$Reduction", "shorten", "(LDotScreens$Grid;)V"⟩ ∈ px_T := px_inT (px_ins 3 (List.mem_of_getElem? (i := 98) rfl)) rfl
theorem px_q673 : Jvm.Cond.instanceMethod ⟨"DotScreens$Reduction", "shorten", "(LDotScreens$Grid;)V"⟩ ∈ px_T := px_inT (px_ins 3 (List.mem_of_getElem? (i := 100) rfl)) rfl
theorem px_q674 : Jvm.Cond.code ⟨"DotScreens$Reduction", "shorten", "(LDotScreens$Grid;)V"⟩ prog_8_method_4_code 9 none ∈ px_T := px_inT (px_ins 3 (List.mem_of_getElem? (i := 101) rfl)) rfl
theorem px_q675 : Jvm.Cond.methodLink "DotScreens$Reduction" 58 ⟨"DotScreens$Reduction", "square", "(JJ)J"⟩ ∈ px_T := px_inT (px_ins 3 (List.mem_of_getElem? (i := 102) rfl)) rfl
theorem px_q676 : Jvm.Cond.static ⟨"DotScreens$Reduction", "square", "(JJ)J"⟩ ∈ px_T := px_inT (px_ins 3 (List.mem_of_getElem? (i := 103) rfl)) rfl
theorem px_q677 : Jvm.Cond.code ⟨"DotScreens$Reduction", "square", "(JJ)J"⟩ prog_8_method_8_code 4 (some FieldType.long) ∈ px_T := px_inT (px_ins 3 (List.mem_of_getElem? (i := 104) rfl)) rfl
theorem px_q678 : Jvm.Cond.methodLink "DotScreens$Reduction" 62 ⟨"DotScreens$Reduction", "swapMoves", "()V"⟩ ∈ px_T := px_inT (px_ins 3 (List.mem_of_getElem? (i := 105) rfl)) rfl
theorem px_q680 : Jvm.Cond.instanceMethod ⟨"DotScreens$Reduction", "swapMoves", "()V"⟩ ∈ px_T := px_inT (px_ins 3 (List.mem_of_getElem? (i := 107) rfl)) rfl
theorem px_q681 : Jvm.Cond.code ⟨"DotScreens$Reduction", "swapMoves", "()V"⟩ prog_8_method_5_code 5 none ∈ px_T := px_inT (px_ins 3 (List.mem_of_getElem? (i := 108) rfl)) rfl
theorem px_q682 : Jvm.Cond.constantLong "DotScreens$Reduction" 65 2 ∈ px_T := px_inT (px_ins 3 (List.mem_of_getElem? (i := 109) rfl)) rfl
theorem px_q683 : Jvm.Cond.methodLinkNest "DotScreens$Reduction" 67 ⟨"DotScreens", "div", "(JJ)J"⟩ "DotScreens" ∈ px_TN := px_inTN (px_ins 3 (List.mem_of_getElem? (i := 110) rfl)) rfl
theorem px_q684 : Jvm.Cond.methodLink "DotScreens$Reduction" 15 ⟨"DotScreens$Reduction", "findFirst", "()V"⟩ ∈ px_T := px_inT (px_ins 3 (List.mem_of_getElem? (i := 111) rfl)) rfl
theorem px_q686 : Jvm.Cond.instanceMethod ⟨"DotScreens$Reduction", "findFirst", "()V"⟩ ∈ px_T := px_inT (px_ins 3 (List.mem_of_getElem? (i := 113) rfl)) rfl
theorem px_q687 : Jvm.Cond.code ⟨"DotScreens$Reduction", "findFirst", "()V"⟩ prog_8_method_6_code 7 none ∈ px_T := px_inT (px_ins 3 (List.mem_of_getElem? (i := 114) rfl)) rfl
theorem px_q688 : Jvm.Cond.methodLink "DotScreens$Reduction" 70 ⟨"DotScreens$Reduction", "isAhead", "(JJJJ)Z"⟩ ∈ px_T := px_inT (px_ins 3 (List.mem_of_getElem? (i := 115) rfl)) rfl
theorem px_q689 : Jvm.Cond.static ⟨"DotScreens$Reduction", "isAhead", "(JJJJ)Z"⟩ ∈ px_T := px_inT (px_ins 3 (List.mem_of_getElem? (i := 116) rfl)) rfl
theorem px_q690 : Jvm.Cond.code ⟨"DotScreens$Reduction", "isAhead", "(JJJJ)Z"⟩ prog_8_method_9_code 12 (some FieldType.boolean) ∈ px_T := px_inT (px_ins 3 (List.mem_of_getElem? (i := 117) rfl)) rfl
theorem px_q691 : Jvm.Cond.methodLink "DotScreens$Reduction" 27 ⟨"DotScreens$Reduction", "findSecond", "(J)V"⟩ ∈ px_T := px_inT (px_ins 3 (List.mem_of_getElem? (i := 118) rfl)) rfl
theorem px_q693 : Jvm.Cond.instanceMethod ⟨"DotScreens$Reduction", "findSecond", "(J)V"⟩ ∈ px_T := px_inT (px_ins 3 (List.mem_of_getElem? (i := 120) rfl)) rfl
theorem px_q694 : Jvm.Cond.code ⟨"DotScreens$Reduction", "findSecond", "(J)V"⟩ prog_8_method_7_code 10 none ∈ px_T := px_inT (px_ins 3 (List.mem_of_getElem? (i := 121) rfl)) rfl
theorem px_q695 : Jvm.Cond.methodLink "DotScreens$Reduction" 74 ⟨"java/lang/Math", "abs", "(J)J"⟩ ∈ px_T := px_inT (px_ins 3 (List.mem_of_getElem? (i := 122) rfl)) rfl
theorem px_q696 : Jvm.Cond.methodLink "DotScreens" 195 ⟨"DotScreens$Reduction", "part", "(I)J"⟩ ∈ px_T := px_inT (px_ins 3 (List.mem_of_getElem? (i := 123) rfl)) rfl
theorem px_q697 : Jvm.Cond.instanceMethod ⟨"DotScreens$Reduction", "part", "(I)J"⟩ ∈ px_T := px_inT (px_ins 3 (List.mem_of_getElem? (i := 124) rfl)) rfl
theorem px_q698 : Jvm.Cond.selects "DotScreens$Reduction" ⟨"DotScreens$Reduction", "part", "(I)J"⟩ ⟨"DotScreens$Reduction", "part", "(I)J"⟩ ∈ px_T := px_inT (px_ins 3 (List.mem_of_getElem? (i := 125) rfl)) rfl
theorem px_q699 : Jvm.Cond.code ⟨"DotScreens$Reduction", "part", "(I)J"⟩ prog_8_method_3_code 2 (some FieldType.long) ∈ px_T := px_inT (px_ins 3 (List.mem_of_getElem? (i := 126) rfl)) rfl
theorem px_q700 : Jvm.Cond.methodLink "DotScreensLaw" 60 ⟨"DotScreens", "spot", "(III)I"⟩ ∈ px_T := px_inT (px_ins 3 (List.mem_of_getElem? (i := 127) rfl)) rfl
theorem px_q701 : Jvm.Cond.instanceMethod ⟨"DotScreens", "spot", "(III)I"⟩ ∈ px_T := px_inT (px_ins 3 (List.mem_of_getElem? (i := 128) rfl)) rfl
theorem px_q702 : Jvm.Cond.selects "DotScreens" ⟨"DotScreens", "spot", "(III)I"⟩ ⟨"DotScreens", "spot", "(III)I"⟩ ∈ px_T := px_inT (px_ins 3 (List.mem_of_getElem? (i := 129) rfl)) rfl
theorem px_q703 : Jvm.Cond.code ⟨"DotScreens", "spot", "(III)I"⟩ prog_1_method_11_code 5 (some FieldType.int) ∈ px_T := px_inT (px_ins 3 (List.mem_of_getElem? (i := 130) rfl)) rfl
theorem px_q704 : Jvm.Cond.methodLink "DotScreens" 199 ⟨"DotScreens$Ink", "sort", "()V"⟩ ∈ px_T := px_inT (px_ins 3 (List.mem_of_getElem? (i := 131) rfl)) rfl
theorem px_q705 : Jvm.Cond.instanceMethod ⟨"DotScreens$Ink", "sort", "()V"⟩ ∈ px_T := px_inT (px_ins 3 (List.mem_of_getElem? (i := 132) rfl)) rfl
theorem px_q706 : Jvm.Cond.selects "DotScreens$Ink" ⟨"DotScreens$Ink", "sort", "()V"⟩ ⟨"DotScreens$Ink", "sort", "()V"⟩ ∈ px_T := px_inT (px_ins 3 (List.mem_of_getElem? (i := 133) rfl)) rfl
theorem px_q707 : Jvm.Cond.code ⟨"DotScreens$Ink", "sort", "()V"⟩ prog_6_method_10_code 4 none ∈ px_T := px_inT (px_ins 3 (List.mem_of_getElem? (i := 134) rfl)) rfl
theorem px_q708 : Jvm.Cond.methodLink "DotScreens$Ink" 108 ⟨"DotScreens$Ink", "axisOf", "(II)I"⟩ ∈ px_T := px_inT (px_ins 3 (List.mem_of_getElem? (i := 135) rfl)) rfl
theorem px_q709 : Jvm.Cond.methodLink "DotScreens$Ink" 127 ⟨"DotScreens$Ink", "spotOf", "(II)I"⟩ ∈ px_T := px_inT (px_ins 3 (List.mem_of_getElem? (i := 136) rfl)) rfl
theorem px_q711 : Jvm.Cond.instanceMethod ⟨"DotScreens$Ink", "spotOf", "(II)I"⟩ ∈ px_T := px_inT (px_ins 3 (List.mem_of_getElem? (i := 138) rfl)) rfl
theorem px_q712 : Jvm.Cond.code ⟨"DotScreens$Ink", "spotOf", "(II)I"⟩ prog_6_method_11_code 5 (some FieldType.int) ∈ px_T := px_inT (px_ins 3 (List.mem_of_getElem? (i := 139) rfl)) rfl
theorem px_q713 : Jvm.Cond.methodLink "DotScreens$Ink" 136 ⟨"DotScreens$Ink", "spotInRow", "(III)I"⟩ ∈ px_T := px_inT (px_ins 3 (List.mem_of_getElem? (i := 140) rfl)) rfl
theorem px_q715 : Jvm.Cond.instanceMethod ⟨"DotScreens$Ink", "spotInRow", "(III)I"⟩ ∈ px_T := px_inT (px_ins 3 (List.mem_of_getElem? (i := 142) rfl)) rfl
theorem px_q716 : Jvm.Cond.code ⟨"DotScreens$Ink", "spotInRow", "(III)I"⟩ prog_6_method_14_code 6 (some FieldType.int) ∈ px_T := px_inT (px_ins 3 (List.mem_of_getElem? (i := 143) rfl)) rfl
theorem px_q717 : Jvm.Cond.constantLong "DotScreens$Ink" 152 2 ∈ px_T := px_inT (px_ins 3 (List.mem_of_getElem? (i := 144) rfl)) rfl
theorem px_q718 : Jvm.Cond.methodLink "DotScreens$Ink" 143 ⟨"DotScreens$Ink", "riseTo", "(II)I"⟩ ∈ px_T := px_inT (px_ins 3 (List.mem_of_getElem? (i := 145) rfl)) rfl
theorem px_q720 : Jvm.Cond.instanceMethod ⟨"DotScreens$Ink", "riseTo", "(II)I"⟩ ∈ px_T := px_inT (px_ins 3 (List.mem_of_getElem? (i := 147) rfl)) rfl
theorem px_q721 : Jvm.Cond.code ⟨"DotScreens$Ink", "riseTo", "(II)I"⟩ prog_6_method_13_code 3 (some FieldType.int) ∈ px_T := px_inT (px_ins 3 (List.mem_of_getElem? (i := 148) rfl)) rfl
theorem px_q722 : Jvm.Cond.methodLink "DotScreens$Ink" 149 ⟨"java/lang/Math", "abs", "(J)J"⟩ ∈ px_T := px_inT (px_ins 3 (List.mem_of_getElem? (i := 149) rfl)) rfl
theorem px_q723 : Jvm.Cond.methodLink "DotScreens$Ink" 146 ⟨"DotScreens$Ink", "measure", "(II)I"⟩ ∈ px_T := px_inT (px_ins 3 (List.mem_of_getElem? (i := 150) rfl)) rfl
theorem px_q725 : Jvm.Cond.instanceMethod ⟨"DotScreens$Ink", "measure", "(II)I"⟩ ∈ px_T := px_inT (px_ins 3 (List.mem_of_getElem? (i := 152) rfl)) rfl
theorem px_q726 : Jvm.Cond.code ⟨"DotScreens$Ink", "measure", "(II)I"⟩ prog_6_method_15_code 3 (some FieldType.int) ∈ px_T := px_inT (px_ins 3 (List.mem_of_getElem? (i := 153) rfl)) rfl
theorem px_q727 : Jvm.Cond.methodLink "DotScreens$Ink" 140 ⟨"DotScreens$Ink", "inRows", "(II)I"⟩ ∈ px_T := px_inT (px_ins 3 (List.mem_of_getElem? (i := 154) rfl)) rfl
theorem px_q729 : Jvm.Cond.instanceMethod ⟨"DotScreens$Ink", "inRows", "(II)I"⟩ ∈ px_T := px_inT (px_ins 3 (List.mem_of_getElem? (i := 156) rfl)) rfl
theorem px_q730 : Jvm.Cond.code ⟨"DotScreens$Ink", "inRows", "(II)I"⟩ prog_6_method_12_code 3 (some FieldType.int) ∈ px_T := px_inT (px_ins 3 (List.mem_of_getElem? (i := 157) rfl)) rfl
theorem px_q731 : Jvm.Cond.methodLinkNest "DotScreens$Ink" 123 ⟨"DotScreens", "at", "([II)I"⟩ "DotScreens" ∈ px_TN := px_inTN (px_ins 3 (List.mem_of_getElem? (i := 158) rfl)) rfl
theorem px_q732 : Jvm.Cond.methodLink "DotScreens" 205 ⟨"DotScreens", "at", "([II)I"⟩ ∈ px_T := px_inT (px_ins 3 (List.mem_of_getElem? (i := 159) rfl)) rfl
theorem px_q733 : Jvm.Cond.methodLink "DotScreensLaw" 65 ⟨"DotScreens", "rank", "(III)I"⟩ ∈ px_T := px_inT (px_ins 3 (List.mem_of_getElem? (i := 160) rfl)) rfl
theorem px_q734 : Jvm.Cond.instanceMethod ⟨"DotScreens", "rank", "(III)I"⟩ ∈ px_T := px_inT (px_ins 3 (List.mem_of_getElem? (i := 161) rfl)) rfl
theorem px_q735 : Jvm.Cond.selects "DotScreens" ⟨"DotScreens", "rank", "(III)I"⟩ ⟨"DotScreens", "rank", "(III)I"⟩ ∈ px_T := px_inT (px_ins 3 (List.mem_of_getElem? (i := 162) rfl)) rfl
theorem px_q736 : Jvm.Cond.code ⟨"DotScreens", "rank", "(III)I"⟩ prog_1_method_12_code 5 (some FieldType.int) ∈ px_T := px_inT (px_ins 3 (List.mem_of_getElem? (i := 163) rfl)) rfl
theorem px_q737 : Jvm.Cond.methodLink "DotScreensLaw" 69 ⟨"DotScreens", "ranked", "(III)I"⟩ ∈ px_T := px_inT (px_ins 3 (List.mem_of_getElem? (i := 164) rfl)) rfl
theorem px_q738 : Jvm.Cond.instanceMethod ⟨"DotScreens", "ranked", "(III)I"⟩ ∈ px_T := px_inT (px_ins 3 (List.mem_of_getElem? (i := 165) rfl)) rfl
theorem px_q739 : Jvm.Cond.selects "DotScreens" ⟨"DotScreens", "ranked", "(III)I"⟩ ⟨"DotScreens", "ranked", "(III)I"⟩ ∈ px_T := px_inT (px_ins 3 (List.mem_of_getElem? (i := 166) rfl)) rfl
theorem px_q740 : Jvm.Cond.code ⟨"DotScreens", "ranked", "(III)I"⟩ prog_1_method_13_code 5 (some FieldType.int) ∈ px_T := px_inT (px_ins 3 (List.mem_of_getElem? (i := 167) rfl)) rfl
theorem px_q741 : Jvm.Cond.methodLink "DotScreensLaw" 73 ⟨"DotScreens", "inked", "(III)Z"⟩ ∈ px_T := px_inT (px_ins 3 (List.mem_of_getElem? (i := 168) rfl)) rfl
theorem px_q742 : Jvm.Cond.instanceMethod ⟨"DotScreens", "inked", "(III)Z"⟩ ∈ px_T := px_inT (px_ins 3 (List.mem_of_getElem? (i := 169) rfl)) rfl
theorem px_q743 : Jvm.Cond.selects "DotScreens" ⟨"DotScreens", "inked", "(III)Z"⟩ ⟨"DotScreens", "inked", "(III)Z"⟩ ∈ px_T := px_inT (px_ins 3 (List.mem_of_getElem? (i := 170) rfl)) rfl
theorem px_q744 : Jvm.Cond.code ⟨"DotScreens", "inked", "(III)Z"⟩ prog_1_method_14_code 4 (some FieldType.boolean) ∈ px_T := px_inT (px_ins 3 (List.mem_of_getElem? (i := 171) rfl)) rfl
theorem px_q745 : Jvm.Cond.methodLink "DotScreens" 215 ⟨"DotScreens$Ink", "startRow", "(II)V"⟩ ∈ px_T := px_inT (px_ins 3 (List.mem_of_getElem? (i := 172) rfl)) rfl
theorem px_q746 : Jvm.Cond.instanceMethod ⟨"DotScreens$Ink", "startRow", "(II)V"⟩ ∈ px_T := px_inT (px_ins 3 (List.mem_of_getElem? (i := 173) rfl)) rfl
theorem px_q747 : Jvm.Cond.selects "DotScreens$Ink" ⟨"DotScreens$Ink", "startRow", "(II)V"⟩ ⟨"DotScreens$Ink", "startRow", "(II)V"⟩ ∈ px_T := px_inT (px_ins 3 (List.mem_of_getElem? (i := 174) rfl)) rfl
theorem px_q748 : Jvm.Cond.code ⟨"DotScreens$Ink", "startRow", "(II)V"⟩ prog_6_method_8_code 4 none ∈ px_T := px_inT (px_ins 3 (List.mem_of_getElem? (i := 175) rfl)) rfl
theorem px_q749 : Jvm.Cond.methodLink "DotScreens$Ink" 102 ⟨"DotScreens$Ink", "sort", "()V"⟩ ∈ px_T := px_inT (px_ins 3 (List.mem_of_getElem? (i := 176) rfl)) rfl
theorem px_q750 : Jvm.Cond.methodLink "DotScreens$Ink" 105 ⟨"DotScreens$Ink", "placeOf", "(II)I"⟩ ∈ px_T := px_inT (px_ins 3 (List.mem_of_getElem? (i := 177) rfl)) rfl
theorem px_q751 : Jvm.Cond.methodLink "DotScreens$Ink" 117 ⟨"DotScreens$Ink", "level", "()I"⟩ ∈ px_T := px_inT (px_ins 3 (List.mem_of_getElem? (i := 178) rfl)) rfl
theorem px_q752 : Jvm.Cond.instanceMethod ⟨"DotScreens$Ink", "level", "()I"⟩ ∈ px_T := px_inT (px_ins 3 (List.mem_of_getElem? (i := 179) rfl)) rfl
theorem px_q753 : Jvm.Cond.selects "DotScreens$Ink" ⟨"DotScreens$Ink", "level", "()I"⟩ ⟨"DotScreens$Ink", "level", "()I"⟩ ∈ px_T := px_inT (px_ins 3 (List.mem_of_getElem? (i := 180) rfl)) rfl
theorem px_q754 : Jvm.Cond.code ⟨"DotScreens$Ink", "level", "()I"⟩ prog_6_method_4_code 1 (some FieldType.int) ∈ px_T := px_inT (px_ins 3 (List.mem_of_getElem? (i := 181) rfl)) rfl
theorem px_q755 : Jvm.Cond.methodLink "DotScreens" 219 ⟨"DotScreens$Ink", "passPixel", "()Z"⟩ ∈ px_T := px_inT (px_ins 3 (List.mem_of_getElem? (i := 182) rfl)) rfl
theorem px_q756 : Jvm.Cond.instanceMethod ⟨"DotScreens$Ink", "passPixel", "()Z"⟩ ∈ px_T := px_inT (px_ins 3 (List.mem_of_getElem? (i := 183) rfl)) rfl
theorem px_q757 : Jvm.Cond.selects "DotScreens$Ink" ⟨"DotScreens$Ink", "passPixel", "()Z"⟩ ⟨"DotScreens$Ink", "passPixel", "()Z"⟩ ∈ px_T := px_inT (px_ins 3 (List.mem_of_getElem? (i := 184) rfl)) rfl
theorem px_q758 : Jvm.Cond.code ⟨"DotScreens$Ink", "passPixel", "()Z"⟩ prog_6_method_9_code 2 (some FieldType.boolean) ∈ px_T := px_inT (px_ins 3 (List.mem_of_getElem? (i := 185) rfl)) rfl
theorem px_q759 : Jvm.Cond.methodLink "DotScreensLaw" 78 ⟨"DotScreens", "dots", "(II)I"⟩ ∈ px_T := px_inT (px_ins 3 (List.mem_of_getElem? (i := 186) rfl)) rfl
theorem px_q760 : Jvm.Cond.instanceMethod ⟨"DotScreens", "dots", "(II)I"⟩ ∈ px_T := px_inT (px_ins 3 (List.mem_of_getElem? (i := 187) rfl)) rfl
theorem px_q761 : Jvm.Cond.selects "DotScreens" ⟨"DotScreens", "dots", "(II)I"⟩ ⟨"DotScreens", "dots", "(II)I"⟩ ∈ px_T := px_inT (px_ins 3 (List.mem_of_getElem? (i := 188) rfl)) rfl
theorem px_q762 : Jvm.Cond.code ⟨"DotScreens", "dots", "(II)I"⟩ prog_1_method_15_code 3 (some FieldType.int) ∈ px_T := px_inT (px_ins 3 (List.mem_of_getElem? (i := 189) rfl)) rfl
theorem px_q763 : Jvm.Cond.methodLink "DotScreens" 223 ⟨"DotScreens$Growth", "grow", "(LDotScreens$Ink;)V"⟩ ∈ px_T := px_inT (px_ins 3 (List.mem_of_getElem? (i := 190) rfl)) rfl
theorem px_q764 : Jvm.Cond.instanceMethod ⟨"DotScreens$Growth", "grow", "(LDotScreens$Ink;)V"⟩ ∈ px_T := px_inT (px_ins 3 (List.mem_of_getElem? (i := 191) rfl)) rfl
theorem px_q765 : Jvm.Cond.selects "DotScreens$Growth" ⟨"DotScreens$Growth", "grow", "(LDotScreens$Ink;)V"⟩ ⟨"DotScreens$Growth", "grow", "(LDotScreens$Ink;)V"⟩ ∈ px_T := px_inT (px_ins 3 (List.mem_of_getElem? (i := 192) rfl)) rfl
theorem px_q766 : Jvm.Cond.code ⟨"DotScreens$Growth", "grow", "(LDotScreens$Ink;)V"⟩ prog_5_method_2_code 3 none ∈ px_T := px_inT (px_ins 3 (List.mem_of_getElem? (i := 193) rfl)) rfl
theorem px_q767 : Jvm.Cond.methodLink "DotScreens$Growth" 30 ⟨"DotScreens$Ink", "sort", "()V"⟩ ∈ px_T := px_inT (px_ins 3 (List.mem_of_getElem? (i := 194) rfl)) rfl
theorem px_q768 : Jvm.Cond.methodLinkNest "DotScreens$Growth" 51 ⟨"DotScreens", "at", "([II)I"⟩ "DotScreens" ∈ px_TN := px_inTN (px_ins 3 (List.mem_of_getElem? (i := 195) rfl)) rfl
theorem px_q769 : Jvm.Cond.methodLink "DotScreens$Growth" 55 ⟨"DotScreens$Growth", "comeIn", "(LDotScreens$Ink;II)V"⟩ ∈ px_T := px_inT (px_ins 3 (List.mem_of_getElem? (i := 196) rfl)) rfl
theorem px_q771 : Jvm.Cond.instanceMethod ⟨"DotScreens$Growth", "comeIn", "(LDotScreens$Ink;II)V"⟩ ∈ px_T := px_inT (px_ins 3 (List.mem_of_getElem? (i := 198) rfl)) rfl
theorem px_q772 : Jvm.Cond.code ⟨"DotScreens$Growth", "comeIn", "(LDotScreens$Ink;II)V"⟩ prog_5_method_3_code 12 none ∈ px_T := px_inT (px_ins 3 (List.mem_of_getElem? (i := 199) rfl)) rfl
theorem px_q773 : Jvm.Cond.methodLink "DotScreens$Growth" 61 ⟨"DotScreens$Growth", "isPlace", "(I)Z"⟩ ∈ px_T := px_inT (px_ins 3 (List.mem_of_getElem? (i := 200) rfl)) rfl
theorem px_q774 : Jvm.Cond.static ⟨"DotScreens$Growth", "isPlace", "(I)Z"⟩ ∈ px_T := px_inT (px_ins 3 (List.mem_of_getElem? (i := 201) rfl)) rfl
theorem px_q775 : Jvm.Cond.code ⟨"DotScreens$Growth", "isPlace", "(I)Z"⟩ prog_5_method_4_code 1 (some FieldType.boolean) ∈ px_T := px_inT (px_ins 3 (List.mem_of_getElem? (i := 202) rfl)) rfl
theorem px_q776 : Jvm.Cond.methodLink "DotScreens$Growth" 65 ⟨"DotScreens$Ink", "axisOf", "(II)I"⟩ ∈ px_T := px_inT (px_ins 3 (List.mem_of_getElem? (i := 203) rfl)) rfl
theorem px_q777 : Jvm.Cond.methodLink "DotScreens$Growth" 69 ⟨"DotScreens$Ink", "placeFrom", "(II)I"⟩ ∈ px_T := px_inT (px_ins 3 (List.mem_of_getElem? (i := 204) rfl)) rfl
theorem px_q778 : Jvm.Cond.methodLink "DotScreens$Growth" 75 ⟨"DotScreens$Growth", "join", "(IIIII)V"⟩ ∈ px_T := px_inT (px_ins 3 (List.mem_of_getElem? (i := 205) rfl)) rfl
theorem px_q780 : Jvm.Cond.instanceMethod ⟨"DotScreens$Growth", "join", "(IIIII)V"⟩ ∈ px_T := px_inT (px_ins 3 (List.mem_of_getElem? (i := 207) rfl)) rfl
theorem px_q781 : Jvm.Cond.code ⟨"DotScreens$Growth", "join", "(IIIII)V"⟩ prog_5_method_5_code 10 none ∈ px_T := px_inT (px_ins 3 (List.mem_of_getElem? (i := 208) rfl)) rfl
theorem px_q782 : Jvm.Cond.methodLink "DotScreens$Growth" 79 ⟨"DotScreens$Growth", "find", "(I)I"⟩ ∈ px_T := px_inT (px_ins 3 (List.mem_of_getElem? (i := 209) rfl)) rfl
theorem px_q784 : Jvm.Cond.instanceMethod ⟨"DotScreens$Growth", "find", "(I)I"⟩ ∈ px_T := px_inT (px_ins 3 (List.mem_of_getElem? (i := 211) rfl)) rfl
theorem px_q785 : Jvm.Cond.code ⟨"DotScreens$Growth", "find", "(I)I"⟩ prog_5_method_7_code 4 (some FieldType.int) ∈ px_T := px_inT (px_ins 3 (List.mem_of_getElem? (i := 212) rfl)) rfl
theorem px_q786 : Jvm.Cond.methodLink "DotScreens$Growth" 89 ⟨"DotScreens$Growth", "comeRound", "(III)V"⟩ ∈ px_T := px_inT (px_ins 3 (List.mem_of_getElem? (i := 213) rfl)) rfl
theorem px_q788 : Jvm.Cond.instanceMethod ⟨"DotScreens$Growth", "comeRound", "(III)V"⟩ ∈ px_T := px_inT (px_ins 3 (List.mem_of_getElem? (i := 215) rfl)) rfl
theorem px_q789 : Jvm.Cond.code ⟨"DotScreens$Growth", "comeRound", "(III)V"⟩ prog_5_method_8_code 4 none ∈ px_T := px_inT (px_ins 3 (List.mem_of_getElem? (i := 216) rfl)) rfl
theorem px_q790 : Jvm.Cond.methodLink "DotScreens$Growth" 93 ⟨"DotScreens$Growth", "hang", "(IIII)V"⟩ ∈ px_T := px_inT (px_ins 3 (List.mem_of_getElem? (i := 217) rfl)) rfl
theorem px_q792 : Jvm.Cond.instanceMethod ⟨"DotScreens$Growth", "hang", "(IIII)V"⟩ ∈ px_T := px_inT (px_ins 3 (List.mem_of_getElem? (i := 219) rfl)) rfl
theorem px_q793 : Jvm.Cond.code ⟨"DotScreens$Growth", "hang", "(IIII)V"⟩ prog_5_method_6_code 5 none ∈ px_T := px_inT (px_ins 3 (List.mem_of_getElem? (i := 220) rfl)) rfl
theorem px_q794 : Jvm.Cond.methodLink "DotScreensLaw" 82 ⟨"DotScreens", "grown", "(II)I"⟩ ∈ px_T := px_inT (px_ins 3 (List.mem_of_getElem? (i := 221) rfl)) rfl
theorem px_q795 : Jvm.Cond.instanceMethod ⟨"DotScreens", "grown", "(II)I"⟩ ∈ px_T := px_inT (px_ins 3 (List.mem_of_getElem? (i := 222) rfl)) rfl
theorem px_q796 : Jvm.Cond.selects "DotScreens" ⟨"DotScreens", "grown", "(II)I"⟩ ⟨"DotScreens", "grown", "(II)I"⟩ ∈ px_T := px_inT (px_ins 3 (List.mem_of_getElem? (i := 223) rfl)) rfl
theorem px_q797 : Jvm.Cond.code ⟨"DotScreens", "grown", "(II)I"⟩ prog_1_method_16_code 3 (some FieldType.int) ∈ px_T := px_inT (px_ins 3 (List.mem_of_getElem? (i := 224) rfl)) rfl
theorem px_q798 : Jvm.Cond.methodLink "DotScreensLaw" 86 ⟨"DotScreens", "slope", "(II)I"⟩ ∈ px_T := px_inT (px_ins 3 (List.mem_of_getElem? (i := 225) rfl)) rfl
theorem px_q799 : Jvm.Cond.instanceMethod ⟨"DotScreens", "slope", "(II)I"⟩ ∈ px_T := px_inT (px_ins 3 (List.mem_of_getElem? (i := 226) rfl)) rfl
theorem px_q800 : Jvm.Cond.selects "DotScreens" ⟨"DotScreens", "slope", "(II)I"⟩ ⟨"DotScreens", "slope", "(II)I"⟩ ∈ px_T := px_inT (px_ins 3 (List.mem_of_getElem? (i := 227) rfl)) rfl
theorem px_q801 : Jvm.Cond.code ⟨"DotScreens", "slope", "(II)I"⟩ prog_1_method_17_code 6 (some FieldType.int) ∈ px_T := px_inT (px_ins 3 (List.mem_of_getElem? (i := 228) rfl)) rfl
theorem px_q802 : Jvm.Cond.methodLink "DotScreens" 236 ⟨"DotScreens", "turnedX", "(II)I"⟩ ∈ px_T := px_inT (px_ins 3 (List.mem_of_getElem? (i := 229) rfl)) rfl
theorem px_q803 : Jvm.Cond.static ⟨"DotScreens", "turnedX", "(II)I"⟩ ∈ px_T := px_inT (px_ins 3 (List.mem_of_getElem? (i := 230) rfl)) rfl
theorem px_q804 : Jvm.Cond.code ⟨"DotScreens", "turnedX", "(II)I"⟩ prog_1_method_64_code 2 (some FieldType.int) ∈ px_T := px_inT (px_ins 3 (List.mem_of_getElem? (i := 231) rfl)) rfl
theorem px_q805 : Jvm.Cond.methodLink "DotScreens" 351 ⟨"java/lang/Math", "abs", "(I)I"⟩ ∈ px_T := px_inT (px_ins 3 (List.mem_of_getElem? (i := 232) rfl)) rfl
theorem px_q806 : Jvm.Cond.methodLink "DotScreens" 239 ⟨"DotScreens", "turnedY", "(II)I"⟩ ∈ px_T := px_inT (px_ins 3 (List.mem_of_getElem? (i := 233) rfl)) rfl
theorem px_q807 : Jvm.Cond.static ⟨"DotScreens", "turnedY", "(II)I"⟩ ∈ px_T := px_inT (px_ins 3 (List.mem_of_getElem? (i := 234) rfl)) rfl
theorem px_q808 : Jvm.Cond.code ⟨"DotScreens", "turnedY", "(II)I"⟩ prog_1_method_65_code 2 (some FieldType.int) ∈ px_T := px_inT (px_ins 3 (List.mem_of_getElem? (i := 235) rfl)) rfl
theorem px_q809 : Jvm.Cond.methodLink "DotScreens" 242 ⟨"DotScreens", "lowest", "(III)I"⟩ ∈ px_T := px_inT (px_ins 3 (List.mem_of_getElem? (i := 236) rfl)) rfl
theorem px_q810 : Jvm.Cond.static ⟨"DotScreens", "lowest", "(III)I"⟩ ∈ px_T := px_inT (px_ins 3 (List.mem_of_getElem? (i := 237) rfl)) rfl
theorem px_q811 : Jvm.Cond.code ⟨"DotScreens", "lowest", "(III)I"⟩ prog_1_method_62_code 3 (some FieldType.int) ∈ px_T := px_inT (px_ins 3 (List.mem_of_getElem? (i := 238) rfl)) rfl
theorem px_q812 : Jvm.Cond.methodLink "DotScreens" 378 ⟨"DotScreens", "commonPart", "(JJ)J"⟩ ∈ px_T := px_inT (px_ins 3 (List.mem_of_getElem? (i := 239) rfl)) rfl
theorem px_q813 : Jvm.Cond.static ⟨"DotScreens", "commonPart", "(JJ)J"⟩ ∈ px_T := px_inT (px_ins 4 (List.mem_of_getElem? (i := 0) rfl)) rfl
theorem px_q814 : Jvm.Cond.code ⟨"DotScreens", "commonPart", "(JJ)J"⟩ prog_1_method_60_code 11 (some FieldType.long) ∈ px_T := px_inT (px_ins 4 (List.mem_of_getElem? (i := 1) rfl)) rfl
theorem px_q815 : Jvm.Cond.methodLink "DotScreens" 376 ⟨"java/lang/Math", "abs", "(J)J"⟩ ∈ px_T := px_inT (px_ins 4 (List.mem_of_getElem? (i := 2) rfl)) rfl
theorem px_q816 : Jvm.Cond.methodLink "DotScreens" 282 ⟨"DotScreens", "div", "(JJ)J"⟩ ∈ px_T := px_inT (px_ins 4 (List.mem_of_getElem? (i := 3) rfl)) rfl
theorem px_q817 : Jvm.Cond.methodLink "DotScreensLaw" 90 ⟨"DotScreens", "turn", "(III)I"⟩ ∈ px_T := px_inT (px_ins 4 (List.mem_of_getElem? (i := 4) rfl)) rfl
theorem px_q818 : Jvm.Cond.instanceMethod ⟨"DotScreens", "turn", "(III)I"⟩ ∈ px_T := px_inT (px_ins 4 (List.mem_of_getElem? (i := 5) rfl)) rfl
theorem px_q819 : Jvm.Cond.selects "DotScreens" ⟨"DotScreens", "turn", "(III)I"⟩ ⟨"DotScreens", "turn", "(III)I"⟩ ∈ px_T := px_inT (px_ins 4 (List.mem_of_getElem? (i := 6) rfl)) rfl
theorem px_q820 : Jvm.Cond.code ⟨"DotScreens", "turn", "(III)I"⟩ prog_1_method_18_code 11 (some FieldType.int) ∈ px_T := px_inT (px_ins 4 (List.mem_of_getElem? (i := 7) rfl)) rfl
theorem px_q821 : Jvm.Cond.methodLink "DotScreens" 246 ⟨"java/lang/Math", "max", "(II)I"⟩ ∈ px_T := px_inT (px_ins 4 (List.mem_of_getElem? (i := 8) rfl)) rfl
theorem px_q822 : Jvm.Cond.static ⟨"java/lang/Math", "max", "(II)I"⟩ ∈ px_T := px_inT (px_ins 4 (List.mem_of_getElem? (i := 9) rfl)) rfl
theorem px_q823 : Jvm.Cond.code ⟨"java/lang/Math", "max", "(II)I"⟩ prog_16_method_65_code 2 (some FieldType.int) ∈ px_T := px_inT (px_ins 4 (List.mem_of_getElem? (i := 10) rfl)) rfl
theorem px_q824 : Jvm.Cond.methodLink "DotScreens" 251 ⟨"java/lang/Math", "min", "(II)I"⟩ ∈ px_T := px_inT (px_ins 4 (List.mem_of_getElem? (i := 11) rfl)) rfl
theorem px_q825 : Jvm.Cond.methodLink "DotScreensLaw" 94 ⟨"DotScreens", "beat", "(III)I"⟩ ∈ px_T := px_inT (px_ins 4 (List.mem_of_getElem? (i := 12) rfl)) rfl
theorem px_q826 : Jvm.Cond.instanceMethod ⟨"DotScreens", "beat", "(III)I"⟩ ∈ px_T := px_inT (px_ins 4 (List.mem_of_getElem? (i := 13) rfl)) rfl
theorem px_q827 : Jvm.Cond.selects "DotScreens" ⟨"DotScreens", "beat", "(III)I"⟩ ⟨"DotScreens", "beat", "(III)I"⟩ ∈ px_T := px_inT (px_ins 4 (List.mem_of_getElem? (i := 14) rfl)) rfl
theorem px_q828 : Jvm.Cond.code ⟨"DotScreens", "beat", "(III)I"⟩ prog_1_method_19_code 4 (some FieldType.int) ∈ px_T := px_inT (px_ins 4 (List.mem_of_getElem? (i := 15) rfl)) rfl
theorem px_q829 : Jvm.Cond.methodLink "DotScreens" 254 ⟨"DotScreens$Beat", "compare", "(LDotScreens$Screen;LDotScreens$Screen;)V"⟩ ∈ px_T := px_inT (px_ins 4 (List.mem_of_getElem? (i := 16) rfl)) rfl
theorem px_q830 : Jvm.Cond.instanceMethod ⟨"DotScreens$Beat", "compare", "(LDotScreens$Screen;LDotScreens$Screen;)V"⟩ ∈ px_T := px_inT (px_ins 4 (List.mem_of_getElem? (i := 17) rfl)) rfl
theorem px_q831 : Jvm.Cond.selects "DotScreens$Beat" ⟨"DotScreens$Beat", "compare", "(LDotScreens$Screen;LDotScreens$Screen;)V"⟩ ⟨"DotScreens$Beat", "compare", "(LDotScreens$Screen;LDotScreens$Screen;)V"⟩ ∈ px_T := px_inT (px_ins 4 (List.mem_of_getElem? (i := 18) rfl)) rfl
theorem px_q832 : Jvm.Cond.code ⟨"DotScreens$Beat", "compare", "(LDotScreens$Screen;LDotScreens$Screen;)V"⟩ prog_2_method_2_code 11 none ∈ px_T := px_inT (px_ins 4 (List.mem_of_getElem? (i := 19) rfl)) rfl
theorem px_q833 : Jvm.Cond.methodLink "DotScreens$Beat" 7 ⟨"DotScreens$Screen", "area", "()I"⟩ ∈ px_T := px_inT (px_ins 4 (List.mem_of_getElem? (i := 20) rfl)) rfl
theorem px_q834 : Jvm.Cond.methodLink "DotScreens$Beat" 19 ⟨"DotScreens$Screen", "waveX", "(I)I"⟩ ∈ px_T := px_inT (px_ins 4 (List.mem_of_getElem? (i := 21) rfl)) rfl
theorem px_q835 : Jvm.Cond.instanceMethod ⟨"DotScreens$Screen", "waveX", "(I)I"⟩ ∈ px_T := px_inT (px_ins 4 (List.mem_of_getElem? (i := 22) rfl)) rfl
theorem px_q836 : Jvm.Cond.selects "DotScreens$Screen" ⟨"DotScreens$Screen", "waveX", "(I)I"⟩ ⟨"DotScreens$Screen", "waveX", "(I)I"⟩ ∈ px_T := px_inT (px_ins 4 (List.mem_of_getElem? (i := 23) rfl)) rfl
theorem px_q837 : Jvm.Cond.code ⟨"DotScreens$Screen", "waveX", "(I)I"⟩ prog_9_method_6_code 3 (some FieldType.int) ∈ px_T := px_inT (px_ins 4 (List.mem_of_getElem? (i := 24) rfl)) rfl
theorem px_q838 : Jvm.Cond.methodLink "DotScreens$Beat" 23 ⟨"DotScreens$Screen", "waveY", "(I)I"⟩ ∈ px_T := px_inT (px_ins 4 (List.mem_of_getElem? (i := 25) rfl)) rfl
theorem px_q839 : Jvm.Cond.instanceMethod ⟨"DotScreens$Screen", "waveY", "(I)I"⟩ ∈ px_T := px_inT (px_ins 4 (List.mem_of_getElem? (i := 26) rfl)) rfl
theorem px_q840 : Jvm.Cond.selects "DotScreens$Screen" ⟨"DotScreens$Screen", "waveY", "(I)I"⟩ ⟨"DotScreens$Screen", "waveY", "(I)I"⟩ ∈ px_T := px_inT (px_ins 4 (List.mem_of_getElem? (i := 27) rfl)) rfl
theorem px_q841 : Jvm.Cond.code ⟨"DotScreens$Screen", "waveY", "(I)I"⟩ prog_9_method_7_code 3 (some FieldType.int) ∈ px_T := px_inT (px_ins 4 (List.mem_of_getElem? (i := 28) rfl)) rfl
theorem px_q842 : Jvm.Cond.methodLinkNest "DotScreens$Beat" 39 ⟨"DotScreens", "commonPart", "(JJ)J"⟩ "DotScreens" ∈ px_TN := px_inTN (px_ins 4 (List.mem_of_getElem? (i := 29) rfl)) rfl
theorem px_q843 : Jvm.Cond.methodLinkNest "DotScreens$Beat" 45 ⟨"DotScreens", "div", "(JJ)J"⟩ "DotScreens" ∈ px_TN := px_inTN (px_ins 4 (List.mem_of_getElem? (i := 30) rfl)) rfl
theorem px_q844 : Jvm.Cond.methodLink "DotScreensLaw" 98 ⟨"DotScreens", "far", "(III)J"⟩ ∈ px_T := px_inT (px_ins 4 (List.mem_of_getElem? (i := 31) rfl)) rfl
theorem px_q845 : Jvm.Cond.instanceMethod ⟨"DotScreens", "far", "(III)J"⟩ ∈ px_T := px_inT (px_ins 4 (List.mem_of_getElem? (i := 32) rfl)) rfl
theorem px_q846 : Jvm.Cond.selects "DotScreens" ⟨"DotScreens", "far", "(III)J"⟩ ⟨"DotScreens", "far", "(III)J"⟩ ∈ px_T := px_inT (px_ins 4 (List.mem_of_getElem? (i := 33) rfl)) rfl
theorem px_q847 : Jvm.Cond.code ⟨"DotScreens", "far", "(III)J"⟩ prog_1_method_20_code 4 (some FieldType.long) ∈ px_T := px_inT (px_ins 4 (List.mem_of_getElem? (i := 34) rfl)) rfl
theorem px_q848 : Jvm.Cond.constantLong "DotScreens" 274 (-1000000) ∈ px_T := px_inT (px_ins 4 (List.mem_of_getElem? (i := 35) rfl)) rfl
theorem px_q849 : Jvm.Cond.methodLink "DotScreens" 286 ⟨"DotScreens", "rootOf", "(J)J"⟩ ∈ px_T := px_inT (px_ins 4 (List.mem_of_getElem? (i := 36) rfl)) rfl
theorem px_q850 : Jvm.Cond.static ⟨"DotScreens", "rootOf", "(J)J"⟩ ∈ px_T := px_inT (px_ins 4 (List.mem_of_getElem? (i := 37) rfl)) rfl
theorem px_q851 : Jvm.Cond.code ⟨"DotScreens", "rootOf", "(J)J"⟩ prog_1_method_63_code 6 (some FieldType.long) ∈ px_T := px_inT (px_ins 4 (List.mem_of_getElem? (i := 38) rfl)) rfl
theorem px_q852 : Jvm.Cond.constantLong "DotScreens" 381 1073741824 ∈ px_T := px_inT (px_ins 4 (List.mem_of_getElem? (i := 39) rfl)) rfl
theorem px_q853 : Jvm.Cond.methodLink "DotScreensLaw" 103 ⟨"DotScreens", "common", "(II)J"⟩ ∈ px_T := px_inT (px_ins 4 (List.mem_of_getElem? (i := 40) rfl)) rfl
theorem px_q854 : Jvm.Cond.instanceMethod ⟨"DotScreens", "common", "(II)J"⟩ ∈ px_T := px_inT (px_ins 4 (List.mem_of_getElem? (i := 41) rfl)) rfl
theorem px_q855 : Jvm.Cond.selects "DotScreens" ⟨"DotScreens", "common", "(II)J"⟩ ⟨"DotScreens", "common", "(II)J"⟩ ∈ px_T := px_inT (px_ins 4 (List.mem_of_getElem? (i := 42) rfl)) rfl
theorem px_q856 : Jvm.Cond.code ⟨"DotScreens", "common", "(II)J"⟩ prog_1_method_21_code 3 (some FieldType.long) ∈ px_T := px_inT (px_ins 4 (List.mem_of_getElem? (i := 43) rfl)) rfl
theorem px_q857 : Jvm.Cond.methodLink "DotScreens" 290 ⟨"DotScreens", "isSet", "(I)Z"⟩ ∈ px_T := px_inT (px_ins 4 (List.mem_of_getElem? (i := 44) rfl)) rfl
theorem px_q859 : Jvm.Cond.instanceMethod ⟨"DotScreens", "isSet", "(I)Z"⟩ ∈ px_T := px_inT (px_ins 4 (List.mem_of_getElem? (i := 46) rfl)) rfl
theorem px_q860 : Jvm.Cond.code ⟨"DotScreens", "isSet", "(I)Z"⟩ prog_1_method_49_code 2 (some FieldType.boolean) ∈ px_T := px_inT (px_ins 4 (List.mem_of_getElem? (i := 47) rfl)) rfl
theorem px_q861 : Jvm.Cond.methodLink "DotScreens" 293 ⟨"DotScreens", "meet", "(I)V"⟩ ∈ px_T := px_inT (px_ins 4 (List.mem_of_getElem? (i := 48) rfl)) rfl
theorem px_q863 : Jvm.Cond.instanceMethod ⟨"DotScreens", "meet", "(I)V"⟩ ∈ px_T := px_inT (px_ins 4 (List.mem_of_getElem? (i := 50) rfl)) rfl
theorem px_q864 : Jvm.Cond.code ⟨"DotScreens", "meet", "(I)V"⟩ prog_1_method_23_code 3 none ∈ px_T := px_inT (px_ins 4 (List.mem_of_getElem? (i := 51) rfl)) rfl
theorem px_q865 : Jvm.Cond.methodLink "DotScreens" 300 ⟨"DotScreens$Grid", "takeAll", "()V"⟩ ∈ px_T := px_inT (px_ins 4 (List.mem_of_getElem? (i := 52) rfl)) rfl
theorem px_q866 : Jvm.Cond.instanceMethod ⟨"DotScreens$Grid", "takeAll", "()V"⟩ ∈ px_T := px_inT (px_ins 4 (List.mem_of_getElem? (i := 53) rfl)) rfl
theorem px_q867 : Jvm.Cond.selects "DotScreens$Grid" ⟨"DotScreens$Grid", "takeAll", "()V"⟩ ⟨"DotScreens$Grid", "takeAll", "()V"⟩ ∈ px_T := px_inT (px_ins 4 (List.mem_of_getElem? (i := 54) rfl)) rfl
theorem px_q868 : Jvm.Cond.code ⟨"DotScreens$Grid", "takeAll", "()V"⟩ prog_4_method_2_code 1 none ∈ px_T := px_inT (px_ins 4 (List.mem_of_getElem? (i := 55) rfl)) rfl
theorem px_q869 : Jvm.Cond.methodLink "DotScreens" 303 ⟨"DotScreens$Grid", "meet", "(LDotScreens$Grid;)V"⟩ ∈ px_T := px_inT (px_ins 4 (List.mem_of_getElem? (i := 56) rfl)) rfl
theorem px_q870 : Jvm.Cond.instanceMethod ⟨"DotScreens$Grid", "meet", "(LDotScreens$Grid;)V"⟩ ∈ px_T := px_inT (px_ins 4 (List.mem_of_getElem? (i := 57) rfl)) rfl
theorem px_q871 : Jvm.Cond.selects "DotScreens$Grid" ⟨"DotScreens$Grid", "meet", "(LDotScreens$Grid;)V"⟩ ⟨"DotScreens$Grid", "meet", "(LDotScreens$Grid;)V"⟩ ∈ px_T := px_inT (px_ins 4 (List.mem_of_getElem? (i := 58) rfl)) rfl
theorem px_q872 : Jvm.Cond.code ⟨"DotScreens$Grid", "meet", "(LDotScreens$Grid;)V"⟩ prog_4_method_4_code 13 none ∈ px_T := px_inT (px_ins 4 (List.mem_of_getElem? (i := 59) rfl)) rfl
theorem px_q873 : Jvm.Cond.methodLinkNest "DotScreens$Grid" 46 ⟨"DotScreens", "commonMultiple", "(JJ)J"⟩ "DotScreens" ∈ px_TN := px_inTN (px_ins 4 (List.mem_of_getElem? (i := 60) rfl)) rfl
theorem px_q874 : Jvm.Cond.static ⟨"DotScreens", "commonMultiple", "(JJ)J"⟩ ∈ px_T := px_inT (px_ins 4 (List.mem_of_getElem? (i := 61) rfl)) rfl
theorem px_q875 : Jvm.Cond.code ⟨"DotScreens", "commonMultiple", "(JJ)J"⟩ prog_1_method_61_code 4 (some FieldType.long) ∈ px_T := px_inT (px_ins 4 (List.mem_of_getElem? (i := 62) rfl)) rfl
theorem px_q876 : Jvm.Cond.methodLinkNest "DotScreens$Grid" 49 ⟨"DotScreens", "div", "(JJ)J"⟩ "DotScreens" ∈ px_TN := px_inTN (px_ins 4 (List.mem_of_getElem? (i := 63) rfl)) rfl
theorem px_q877 : Jvm.Cond.methodLinkNest "DotScreens$Grid" 52 ⟨"DotScreens", "commonPart", "(JJ)J"⟩ "DotScreens" ∈ px_TN := px_inTN (px_ins 4 (List.mem_of_getElem? (i := 64) rfl)) rfl
theorem px_q878 : Jvm.Cond.methodLink "DotScreens" 296 ⟨"DotScreens$Grid", "supercell", "()J"⟩ ∈ px_T := px_inT (px_ins 4 (List.mem_of_getElem? (i := 65) rfl)) rfl
theorem px_q879 : Jvm.Cond.instanceMethod ⟨"DotScreens$Grid", "supercell", "()J"⟩ ∈ px_T := px_inT (px_ins 4 (List.mem_of_getElem? (i := 66) rfl)) rfl
theorem px_q880 : Jvm.Cond.selects "DotScreens$Grid" ⟨"DotScreens$Grid", "supercell", "()J"⟩ ⟨"DotScreens$Grid", "supercell", "()J"⟩ ∈ px_T := px_inT (px_ins 4 (List.mem_of_getElem? (i := 67) rfl)) rfl
theorem px_q881 : Jvm.Cond.code ⟨"DotScreens$Grid", "supercell", "()J"⟩ prog_4_method_5_code 3 (some FieldType.long) ∈ px_T := px_inT (px_ins 4 (List.mem_of_getElem? (i := 68) rfl)) rfl
theorem px_q882 : Jvm.Cond.methodLink "DotScreensLaw" 108 ⟨"DotScreens", "inCell", "(II)J"⟩ ∈ px_T := px_inT (px_ins 4 (List.mem_of_getElem? (i := 69) rfl)) rfl
theorem px_q883 : Jvm.Cond.instanceMethod ⟨"DotScreens", "inCell", "(II)J"⟩ ∈ px_T := px_inT (px_ins 4 (List.mem_of_getElem? (i := 70) rfl)) rfl
theorem px_q884 : Jvm.Cond.selects "DotScreens" ⟨"DotScreens", "inCell", "(II)J"⟩ ⟨"DotScreens", "inCell", "(II)J"⟩ ∈ px_T := px_inT (px_ins 4 (List.mem_of_getElem? (i := 71) rfl)) rfl
theorem px_q885 : Jvm.Cond.code ⟨"DotScreens", "inCell", "(II)J"⟩ prog_1_method_22_code 5 (some FieldType.long) ∈ px_T := px_inT (px_ins 4 (List.mem_of_getElem? (i := 72) rfl)) rfl
theorem px_q886 : Jvm.Cond.methodLink "DotScreensLaw" 112 ⟨"DotScreens", "overlay", "(II)I"⟩ ∈ px_T := px_inT (px_ins 4 (List.mem_of_getElem? (i := 73) rfl)) rfl
theorem px_q887 : Jvm.Cond.instanceMethod ⟨"DotScreens", "overlay", "(II)I"⟩ ∈ px_T := px_inT (px_ins 4 (List.mem_of_getElem? (i := 74) rfl)) rfl
theorem px_q888 : Jvm.Cond.selects "DotScreens" ⟨"DotScreens", "overlay", "(II)I"⟩ ⟨"DotScreens", "overlay", "(II)I"⟩ ∈ px_T := px_inT (px_ins 4 (List.mem_of_getElem? (i := 75) rfl)) rfl
theorem px_q889 : Jvm.Cond.code ⟨"DotScreens", "overlay", "(II)I"⟩ prog_1_method_24_code 3 (some FieldType.int) ∈ px_T := px_inT (px_ins 4 (List.mem_of_getElem? (i := 76) rfl)) rfl
theorem px_q890 : Jvm.Cond.methodLink "DotScreens" 305 ⟨"DotScreens", "startRow", "(II)V"⟩ ∈ px_T := px_inT (px_ins 4 (List.mem_of_getElem? (i := 77) rfl)) rfl
theorem px_q892 : Jvm.Cond.instanceMethod ⟨"DotScreens", "startRow", "(II)V"⟩ ∈ px_T := px_inT (px_ins 4 (List.mem_of_getElem? (i := 79) rfl)) rfl
theorem px_q893 : Jvm.Cond.code ⟨"DotScreens", "startRow", "(II)V"⟩ prog_1_method_28_code 4 none ∈ px_T := px_inT (px_ins 4 (List.mem_of_getElem? (i := 80) rfl)) rfl
theorem px_q894 : Jvm.Cond.methodLink "DotScreens" 306 ⟨"DotScreens", "passPixel", "()I"⟩ ∈ px_T := px_inT (px_ins 4 (List.mem_of_getElem? (i := 81) rfl)) rfl
theorem px_q896 : Jvm.Cond.instanceMethod ⟨"DotScreens", "passPixel", "()I"⟩ ∈ px_T := px_inT (px_ins 4 (List.mem_of_getElem? (i := 83) rfl)) rfl
theorem px_q897 : Jvm.Cond.code ⟨"DotScreens", "passPixel", "()I"⟩ prog_1_method_29_code 3 (some FieldType.int) ∈ px_T := px_inT (px_ins 4 (List.mem_of_getElem? (i := 84) rfl)) rfl
theorem px_q898 : Jvm.Cond.methodLink "DotScreensLaw" 116 ⟨"DotScreens", "window", "(IIIIII)I"⟩ ∈ px_T := px_inT (px_ins 4 (List.mem_of_getElem? (i := 85) rfl)) rfl
theorem px_q899 : Jvm.Cond.instanceMethod ⟨"DotScreens", "window", "(IIIIII)I"⟩ ∈ px_T := px_inT (px_ins 4 (List.mem_of_getElem? (i := 86) rfl)) rfl
theorem px_q900 : Jvm.Cond.selects "DotScreens" ⟨"DotScreens", "window", "(IIIIII)I"⟩ ⟨"DotScreens", "window", "(IIIIII)I"⟩ ∈ px_T := px_inT (px_ins 4 (List.mem_of_getElem? (i := 87) rfl)) rfl
theorem px_q901 : Jvm.Cond.code ⟨"DotScreens", "window", "(IIIIII)I"⟩ prog_1_method_25_code 11 (some FieldType.int) ∈ px_T := px_inT (px_ins 4 (List.mem_of_getElem? (i := 88) rfl)) rfl
theorem px_q902 : Jvm.Cond.methodLink "DotScreens" 308 ⟨"DotScreens", "isWindow", "(IIII)Z"⟩ ∈ px_T := px_inT (px_ins 4 (List.mem_of_getElem? (i := 89) rfl)) rfl
theorem px_q903 : Jvm.Cond.static ⟨"DotScreens", "isWindow", "(IIII)Z"⟩ ∈ px_T := px_inT (px_ins 4 (List.mem_of_getElem? (i := 90) rfl)) rfl
theorem px_q904 : Jvm.Cond.code ⟨"DotScreens", "isWindow", "(IIII)Z"⟩ prog_1_method_54_code 4 (some FieldType.boolean) ∈ px_T := px_inT (px_ins 4 (List.mem_of_getElem? (i := 91) rfl)) rfl
theorem px_q905 : Jvm.Cond.methodLink "DotScreens" 317 ⟨"DotScreens", "isCorner", "(II)Z"⟩ ∈ px_T := px_inT (px_ins 4 (List.mem_of_getElem? (i := 92) rfl)) rfl
theorem px_q906 : Jvm.Cond.static ⟨"DotScreens", "isCorner", "(II)Z"⟩ ∈ px_T := px_inT (px_ins 4 (List.mem_of_getElem? (i := 93) rfl)) rfl
theorem px_q907 : Jvm.Cond.code ⟨"DotScreens", "isCorner", "(II)Z"⟩ prog_1_method_53_code 2 (some FieldType.boolean) ∈ px_T := px_inT (px_ins 4 (List.mem_of_getElem? (i := 94) rfl)) rfl
theorem px_q908 : Jvm.Cond.methodLink "DotScreens" 312 ⟨"java/lang/Integer", "bitCount", "(I)I"⟩ ∈ px_T := px_inT (px_ins 4 (List.mem_of_getElem? (i := 95) rfl)) rfl
theorem px_q909 : Jvm.Cond.static ⟨"java/lang/Integer", "bitCount", "(I)I"⟩ ∈ px_T := px_inT (px_ins 4 (List.mem_of_getElem? (i := 96) rfl)) rfl
theorem px_q910 : Jvm.Cond.code ⟨"java/lang/Integer", "bitCount", "(I)I"⟩ prog_15_method_49_code 1 (some FieldType.int) ∈ px_T := px_inT (px_ins 4 (List.mem_of_getElem? (i := 97) rfl)) rfl
theorem px_q911 : Jvm.Cond.constant "java/lang/Integer" 265 1431655765 ∈ px_T := px_inT (px_ins 4 (List.mem_of_getElem? (i := 98) rfl)) rfl
theorem px_q912 : Jvm.Cond.constant "java/lang/Integer" 266 858993459 ∈ px_T := px_inT (px_ins 4 (List.mem_of_getElem? (i := 99) rfl)) rfl
theorem px_q913 : Jvm.Cond.constant "java/lang/Integer" 267 252645135 ∈ px_T := px_inT (px_ins 4 (List.mem_of_getElem? (i := 100) rfl)) rfl
theorem px_q914 : Jvm.Cond.methodLink "DotScreensLaw" 121 ⟨"DotScreens", "densest", "(IIII)I"⟩ ∈ px_T := px_inT (px_ins 4 (List.mem_of_getElem? (i := 101) rfl)) rfl
theorem px_q915 : Jvm.Cond.instanceMethod ⟨"DotScreens", "densest", "(IIII)I"⟩ ∈ px_T := px_inT (px_ins 4 (List.mem_of_getElem? (i := 102) rfl)) rfl
theorem px_q916 : Jvm.Cond.selects "DotScreens" ⟨"DotScreens", "densest", "(IIII)I"⟩ ⟨"DotScreens", "densest", "(IIII)I"⟩ ∈ px_T := px_inT (px_ins 4 (List.mem_of_getElem? (i := 103) rfl)) rfl
theorem px_q917 : Jvm.Cond.code ⟨"DotScreens", "densest", "(IIII)I"⟩ prog_1_method_26_code 8 (some FieldType.int) ∈ px_T := px_inT (px_ins 4 (List.mem_of_getElem? (i := 104) rfl)) rfl
theorem px_q918 : Jvm.Cond.methodLink "DotScreensLaw" 125 ⟨"DotScreens", "next", "(III)I"⟩ ∈ px_T := px_inT (px_ins 4 (List.mem_of_getElem? (i := 105) rfl)) rfl
theorem px_q919 : Jvm.Cond.instanceMethod ⟨"DotScreens", "next", "(III)I"⟩ ∈ px_T := px_inT (px_ins 4 (List.mem_of_getElem? (i := 106) rfl)) rfl
theorem px_q920 : Jvm.Cond.selects "DotScreens" ⟨"DotScreens", "next", "(III)I"⟩ ⟨"DotScreens", "next", "(III)I"⟩ ∈ px_T := px_inT (px_ins 4 (List.mem_of_getElem? (i := 107) rfl)) rfl
theorem px_q921 : Jvm.Cond.code ⟨"DotScreens", "next", "(III)I"⟩ prog_1_method_27_code 5 (some FieldType.int) ∈ px_T := px_inT (px_ins 4 (List.mem_of_getElem? (i := 108) rfl)) rfl
theorem px_q922 : Jvm.Cond.methodLink "DotScreensLaw" 129 ⟨"DotScreens", "choose", "(IIIZII)I"⟩ ∈ px_T := px_inT (px_ins 4 (List.mem_of_getElem? (i := 109) rfl)) rfl
theorem px_q923 : Jvm.Cond.instanceMethod ⟨"DotScreens", "choose", "(IIIZII)I"⟩ ∈ px_T := px_inT (px_ins 4 (List.mem_of_getElem? (i := 110) rfl)) rfl
theorem px_q924 : Jvm.Cond.selects "DotScreens" ⟨"DotScreens", "choose", "(IIIZII)I"⟩ ⟨"DotScreens", "choose", "(IIIZII)I"⟩ ∈ px_T := px_inT (px_ins 4 (List.mem_of_getElem? (i := 111) rfl)) rfl
theorem px_q925 : Jvm.Cond.code ⟨"DotScreens", "choose", "(IIIZII)I"⟩ prog_1_method_30_code 7 (some FieldType.int) ∈ px_T := px_inT (px_ins 4 (List.mem_of_getElem? (i := 112) rfl)) rfl
theorem px_q926 : Jvm.Cond.methodLink "DotScreens" 320 ⟨"DotScreens$Chooser", "pick", "(IIIZ)V"⟩ ∈ px_T := px_inT (px_ins 4 (List.mem_of_getElem? (i := 113) rfl)) rfl
theorem px_q927 : Jvm.Cond.instanceMethod ⟨"DotScreens$Chooser", "pick", "(IIIZ)V"⟩ ∈ px_T := px_inT (px_ins 4 (List.mem_of_getElem? (i := 114) rfl)) rfl
theorem px_q928 : Jvm.Cond.selects "DotScreens$Chooser" ⟨"DotScreens$Chooser", "pick", "(IIIZ)V"⟩ ⟨"DotScreens$Chooser", "pick", "(IIIZ)V"⟩ ∈ px_T := px_inT (px_ins 4 (List.mem_of_getElem? (i := 115) rfl)) rfl
theorem px_q929 : Jvm.Cond.code ⟨"DotScreens$Chooser", "pick", "(IIIZ)V"⟩ prog_3_method_2_code 7 none ∈ px_T := px_inT (px_ins 4 (List.mem_of_getElem? (i := 116) rfl)) rfl
theorem px_q930 : Jvm.Cond.methodLink "DotScreens$Chooser" 59 ⟨"DotScreens$Chooser", "listSquares", "(II)V"⟩ ∈ px_T := px_inT (px_ins 4 (List.mem_of_getElem? (i := 117) rfl)) rfl
theorem px_q932 : Jvm.Cond.instanceMethod ⟨"DotScreens$Chooser", "listSquares", "(II)V"⟩ ∈ px_T := px_inT (px_ins 4 (List.mem_of_getElem? (i := 119) rfl)) rfl
theorem px_q933 : Jvm.Cond.code ⟨"DotScreens$Chooser", "listSquares", "(II)V"⟩ prog_3_method_4_code 6 none ∈ px_T := px_inT (px_ins 4 (List.mem_of_getElem? (i := 120) rfl)) rfl
theorem px_q934 : Jvm.Cond.methodLink "DotScreens$Chooser" 63 ⟨"DotScreens$Chooser", "compareSquares", "()V"⟩ ∈ px_T := px_inT (px_ins 4 (List.mem_of_getElem? (i := 121) rfl)) rfl
theorem px_q936 : Jvm.Cond.instanceMethod ⟨"DotScreens$Chooser", "compareSquares", "()V"⟩ ∈ px_T := px_inT (px_ins 4 (List.mem_of_getElem? (i := 123) rfl)) rfl
theorem px_q937 : Jvm.Cond.code ⟨"DotScreens$Chooser", "compareSquares", "()V"⟩ prog_3_method_5_code 3 none ∈ px_T := px_inT (px_ins 4 (List.mem_of_getElem? (i := 124) rfl)) rfl
theorem px_q938 : Jvm.Cond.methodLink "DotScreens$Chooser" 87 ⟨"DotScreens$Screen", "takeSquare", "(II)V"⟩ ∈ px_T := px_inT (px_ins 4 (List.mem_of_getElem? (i := 125) rfl)) rfl
theorem px_q939 : Jvm.Cond.instanceMethod ⟨"DotScreens$Screen", "takeSquare", "(II)V"⟩ ∈ px_T := px_inT (px_ins 4 (List.mem_of_getElem? (i := 126) rfl)) rfl
theorem px_q940 : Jvm.Cond.selects "DotScreens$Screen" ⟨"DotScreens$Screen", "takeSquare", "(II)V"⟩ ⟨"DotScreens$Screen", "takeSquare", "(II)V"⟩ ∈ px_T := px_inT (px_ins 4 (List.mem_of_getElem? (i := 127) rfl)) rfl
theorem px_q941 : Jvm.Cond.code ⟨"DotScreens$Screen", "takeSquare", "(II)V"⟩ prog_9_method_3_code 3 none ∈ px_T := px_inT (px_ins 4 (List.mem_of_getElem? (i := 128) rfl)) rfl
theorem px_q942 : Jvm.Cond.methodLink "DotScreens$Screen" 22 ⟨"DotScreens$Screen", "take", "(IIII)V"⟩ ∈ px_T := px_inT (px_ins 4 (List.mem_of_getElem? (i := 129) rfl)) rfl
theorem px_q943 : Jvm.Cond.methodLink "DotScreens$Chooser" 90 ⟨"DotScreens$Beat", "compare", "(LDotScreens$Screen;LDotScreens$Screen;)V"⟩ ∈ px_T := px_inT (px_ins 4 (List.mem_of_getElem? (i := 130) rfl)) rfl
theorem px_q944 : Jvm.Cond.methodLink "DotScreens$Chooser" 72 ⟨"DotScreens$Chooser", "coupleOf", "(II)I"⟩ ∈ px_T := px_inT (px_ins 4 (List.mem_of_getElem? (i := 131) rfl)) rfl
theorem px_q945 : Jvm.Cond.static ⟨"DotScreens$Chooser", "coupleOf", "(II)I"⟩ ∈ px_T := px_inT (px_ins 4 (List.mem_of_getElem? (i := 132) rfl)) rfl
theorem px_q946 : Jvm.Cond.code ⟨"DotScreens$Chooser", "coupleOf", "(II)I"⟩ prog_3_method_9_code 2 (some FieldType.int) ∈ px_T := px_inT (px_ins 4 (List.mem_of_getElem? (i := 133) rfl)) rfl
theorem px_q947 : Jvm.Cond.methodLink "DotScreens$Chooser" 76 ⟨"DotScreens$Chooser", "propose", "(IIII)V"⟩ ∈ px_T := px_inT (px_ins 4 (List.mem_of_getElem? (i := 134) rfl)) rfl
theorem px_q949 : Jvm.Cond.instanceMethod ⟨"DotScreens$Chooser", "propose", "(IIII)V"⟩ ∈ px_T := px_inT (px_ins 4 (List.mem_of_getElem? (i := 136) rfl)) rfl
theorem px_q950 : Jvm.Cond.code ⟨"DotScreens$Chooser", "propose", "(IIII)V"⟩ prog_3_method_7_code 5 none ∈ px_T := px_inT (px_ins 4 (List.mem_of_getElem? (i := 137) rfl)) rfl
theorem px_q951 : Jvm.Cond.methodLink "DotScreens$Chooser" 101 ⟨"DotScreens$Chooser", "isBehind", "(II)Z"⟩ ∈ px_T := px_inT (px_ins 4 (List.mem_of_getElem? (i := 138) rfl)) rfl
theorem px_q953 : Jvm.Cond.instanceMethod ⟨"DotScreens$Chooser", "isBehind", "(II)Z"⟩ ∈ px_T := px_inT (px_ins 4 (List.mem_of_getElem? (i := 140) rfl)) rfl
theorem px_q954 : Jvm.Cond.code ⟨"DotScreens$Chooser", "isBehind", "(II)Z"⟩ prog_3_method_8_code 5 (some FieldType.boolean) ∈ px_T := px_inT (px_ins 4 (List.mem_of_getElem? (i := 141) rfl)) rfl
theorem px_q955 : Jvm.Cond.methodLinkNest "DotScreens$Chooser" 105 ⟨"DotScreens", "isFarther", "(JJJJ)Z"⟩ "DotScreens" ∈ px_TN := px_inTN (px_ins 4 (List.mem_of_getElem? (i := 142) rfl)) rfl
theorem px_q956 : Jvm.Cond.static ⟨"DotScreens", "isFarther", "(JJJJ)Z"⟩ ∈ px_T := px_inT (px_ins 4 (List.mem_of_getElem? (i := 143) rfl)) rfl
theorem px_q957 : Jvm.Cond.code ⟨"DotScreens", "isFarther", "(JJJJ)Z"⟩ prog_1_method_66_code 8 (some FieldType.boolean) ∈ px_T := px_inT (px_ins 4 (List.mem_of_getElem? (i := 144) rfl)) rfl
theorem px_q958 : Jvm.Cond.methodLink "DotScreens$Chooser" 80 ⟨"DotScreens$Chooser", "proposeThirds", "(II)V"⟩ ∈ px_T := px_inT (px_ins 4 (List.mem_of_getElem? (i := 145) rfl)) rfl
theorem px_q960 : Jvm.Cond.instanceMethod ⟨"DotScreens$Chooser", "proposeThirds", "(II)V"⟩ ∈ px_T := px_inT (px_ins 4 (List.mem_of_getElem? (i := 147) rfl)) rfl
theorem px_q961 : Jvm.Cond.code ⟨"DotScreens$Chooser", "proposeThirds", "(II)V"⟩ prog_3_method_6_code 5 none ∈ px_T := px_inT (px_ins 4 (List.mem_of_getElem? (i := 148) rfl)) rfl
theorem px_q962 : Jvm.Cond.methodLink "DotScreens" 324 ⟨"DotScreens$Chooser", "part", "(II)I"⟩ ∈ px_T := px_inT (px_ins 4 (List.mem_of_getElem? (i := 149) rfl)) rfl
theorem px_q963 : Jvm.Cond.instanceMethod ⟨"DotScreens$Chooser", "part", "(II)I"⟩ ∈ px_T := px_inT (px_ins 4 (List.mem_of_getElem? (i := 150) rfl)) rfl
theorem px_q964 : Jvm.Cond.selects "DotScreens$Chooser" ⟨"DotScreens$Chooser", "part", "(II)I"⟩ ⟨"DotScreens$Chooser", "part", "(II)I"⟩ ∈ px_T := px_inT (px_ins 4 (List.mem_of_getElem? (i := 151) rfl)) rfl
theorem px_q965 : Jvm.Cond.code ⟨"DotScreens$Chooser", "part", "(II)I"⟩ prog_3_method_3_code 3 (some FieldType.int) ∈ px_T := px_inT (px_ins 4 (List.mem_of_getElem? (i := 152) rfl)) rfl
theorem px_q966 : Jvm.Cond.methodLinkNest "DotScreens$Chooser" 83 ⟨"DotScreens", "at", "([II)I"⟩ "DotScreens" ∈ px_TN := px_inTN (px_ins 4 (List.mem_of_getElem? (i := 153) rfl)) rfl
theorem px_q967 : Jvm.Cond.methodLink "DotScreensLaw" 134 ⟨"DotScreens", "bestTurn", "(II)I"⟩ ∈ px_T := px_inT (px_ins 4 (List.mem_of_getElem? (i := 154) rfl)) rfl
theorem px_q968 : Jvm.Cond.instanceMethod ⟨"DotScreens", "bestTurn", "(II)I"⟩ ∈ px_T := px_inT (px_ins 4 (List.mem_of_getElem? (i := 155) rfl)) rfl
theorem px_q969 : Jvm.Cond.selects "DotScreens" ⟨"DotScreens", "bestTurn", "(II)I"⟩ ⟨"DotScreens", "bestTurn", "(II)I"⟩ ∈ px_T := px_inT (px_ins 4 (List.mem_of_getElem? (i := 156) rfl)) rfl
theorem px_q970 : Jvm.Cond.code ⟨"DotScreens", "bestTurn", "(II)I"⟩ prog_1_method_31_code 11 (some FieldType.int) ∈ px_T := px_inT (px_ins 4 (List.mem_of_getElem? (i := 157) rfl)) rfl
theorem px_q971 : Jvm.Cond.methodLink "DotScreens" 326 ⟨"DotScreens$Screen", "takeSquare", "(II)V"⟩ ∈ px_T := px_inT (px_ins 4 (List.mem_of_getElem? (i := 158) rfl)) rfl
theorem px_q972 : Jvm.Cond.methodLink "DotScreens" 329 ⟨"DotScreens", "leastFarBeside", "(I)V"⟩ ∈ px_T := px_inT (px_ins 4 (List.mem_of_getElem? (i := 159) rfl)) rfl
theorem px_q974 : Jvm.Cond.instanceMethod ⟨"DotScreens", "leastFarBeside", "(I)V"⟩ ∈ px_T := px_inT (px_ins 4 (List.mem_of_getElem? (i := 161) rfl)) rfl
theorem px_q975 : Jvm.Cond.code ⟨"DotScreens", "leastFarBeside", "(I)V"⟩ prog_1_method_32_code 3 none ∈ px_T := px_inT (px_ins 4 (List.mem_of_getElem? (i := 162) rfl)) rfl
theorem px_q976 : Jvm.Cond.methodLink "DotScreens" 338 ⟨"DotScreens", "isFarther", "(JJJJ)Z"⟩ ∈ px_T := px_inT (px_ins 4 (List.mem_of_getElem? (i := 163) rfl)) rfl
theorem px_q977 : Jvm.Cond.methodLink "DotScreensLaw" 138 ⟨"DotScreens", "screen", "(IIIII)I"⟩ ∈ px_T := px_inT (px_ins 4 (List.mem_of_getElem? (i := 164) rfl)) rfl
theorem px_q978 : Jvm.Cond.instanceMethod ⟨"DotScreens", "screen", "(IIIII)I"⟩ ∈ px_T := px_inT (px_ins 4 (List.mem_of_getElem? (i := 165) rfl)) rfl
theorem px_q979 : Jvm.Cond.selects "DotScreens" ⟨"DotScreens", "screen", "(IIIII)I"⟩ ⟨"DotScreens", "screen", "(IIIII)I"⟩ ∈ px_T := px_inT (px_ins 4 (List.mem_of_getElem? (i := 166) rfl)) rfl
theorem px_q980 : Jvm.Cond.code ⟨"DotScreens", "screen", "(IIIII)I"⟩ prog_1_method_33_code 8 (some FieldType.int) ∈ px_T := px_inT (px_ins 4 (List.mem_of_getElem? (i := 167) rfl)) rfl
theorem px_q981 : Jvm.Cond.methodLink "DotScreens" 342 ⟨"DotScreens", "refuse", "(I)I"⟩ ∈ px_T := px_inT (px_ins 4 (List.mem_of_getElem? (i := 168) rfl)) rfl
theorem px_q983 : Jvm.Cond.instanceMethod ⟨"DotScreens", "refuse", "(I)I"⟩ ∈ px_T := px_inT (px_ins 4 (List.mem_of_getElem? (i := 170) rfl)) rfl
theorem px_q984 : Jvm.Cond.code ⟨"DotScreens", "refuse", "(I)I"⟩ prog_1_method_39_code 2 (some FieldType.int) ∈ px_T := px_inT (px_ins 4 (List.mem_of_getElem? (i := 171) rfl)) rfl
theorem px_q985 : Jvm.Cond.methodLink "DotScreens" 348 ⟨"DotScreens$Screen", "isTold", "(IIII)Z"⟩ ∈ px_T := px_inT (px_ins 4 (List.mem_of_getElem? (i := 172) rfl)) rfl
theorem px_q986 : Jvm.Cond.instanceMethod ⟨"DotScreens$Screen", "isTold", "(IIII)Z"⟩ ∈ px_T := px_inT (px_ins 4 (List.mem_of_getElem? (i := 173) rfl)) rfl
theorem px_q987 : Jvm.Cond.selects "DotScreens$Screen" ⟨"DotScreens$Screen", "isTold", "(IIII)Z"⟩ ⟨"DotScreens$Screen", "isTold", "(IIII)Z"⟩ ∈ px_T := px_inT (px_ins 4 (List.mem_of_getElem? (i := 174) rfl)) rfl
theorem px_q988 : Jvm.Cond.code ⟨"DotScreens$Screen", "isTold", "(IIII)Z"⟩ prog_9_method_4_code 5 (some FieldType.boolean) ∈ px_T := px_inT (px_ins 4 (List.mem_of_getElem? (i := 175) rfl)) rfl
theorem px_q989 : Jvm.Cond.methodLink "DotScreensLaw" 142 ⟨"DotScreens", "shape", "(II)I"⟩ ∈ px_T := px_inT (px_ins 4 (List.mem_of_getElem? (i := 176) rfl)) rfl
theorem px_q990 : Jvm.Cond.instanceMethod ⟨"DotScreens", "shape", "(II)I"⟩ ∈ px_T := px_inT (px_ins 4 (List.mem_of_getElem? (i := 177) rfl)) rfl
theorem px_q991 : Jvm.Cond.selects "DotScreens" ⟨"DotScreens", "shape", "(II)I"⟩ ⟨"DotScreens", "shape", "(II)I"⟩ ∈ px_T := px_inT (px_ins 4 (List.mem_of_getElem? (i := 178) rfl)) rfl
theorem px_q992 : Jvm.Cond.code ⟨"DotScreens", "shape", "(II)I"⟩ prog_1_method_34_code 4 (some FieldType.int) ∈ px_T := px_inT (px_ins 4 (List.mem_of_getElem? (i := 179) rfl)) rfl
theorem px_q993 : Jvm.Cond.methodLink "DotScreensLaw" 146 ⟨"DotScreens", "tone", "(II)I"⟩ ∈ px_T := px_inT (px_ins 4 (List.mem_of_getElem? (i := 180) rfl)) rfl
theorem px_q994 : Jvm.Cond.instanceMethod ⟨"DotScreens", "tone", "(II)I"⟩ ∈ px_T := px_inT (px_ins 4 (List.mem_of_getElem? (i := 181) rfl)) rfl
theorem px_q995 : Jvm.Cond.selects "DotScreens" ⟨"DotScreens", "tone", "(II)I"⟩ ⟨"DotScreens", "tone", "(II)I"⟩ ∈ px_T := px_inT (px_ins 4 (List.mem_of_getElem? (i := 182) rfl)) rfl
theorem px_q996 : Jvm.Cond.code ⟨"DotScreens", "tone", "(II)I"⟩ prog_1_method_35_code 4 (some FieldType.int) ∈ px_T := px_inT (px_ins 4 (List.mem_of_getElem? (i := 183) rfl)) rfl
theorem px_q997 : Jvm.Cond.methodLink "DotScreensLaw" 150 ⟨"DotScreens", "offset", "(III)I"⟩ ∈ px_T := px_inT (px_ins 4 (List.mem_of_getElem? (i := 184) rfl)) rfl
theorem px_q998 : Jvm.Cond.instanceMethod ⟨"DotScreens", "offset", "(III)I"⟩ ∈ px_T := px_inT (px_ins 4 (List.mem_of_getElem? (i := 185) rfl)) rfl
theorem px_q999 : Jvm.Cond.selects "DotScreens" ⟨"DotScreens", "offset", "(III)I"⟩ ⟨"DotScreens", "offset", "(III)I"⟩ ∈ px_T := px_inT (px_ins 4 (List.mem_of_getElem? (i := 186) rfl)) rfl
theorem px_q1000 : Jvm.Cond.code ⟨"DotScreens", "offset", "(III)I"⟩ prog_1_method_36_code 6 (some FieldType.int) ∈ px_T := px_inT (px_ins 4 (List.mem_of_getElem? (i := 187) rfl)) rfl
theorem px_q1001 : Jvm.Cond.methodLink "DotScreensLaw" 154 ⟨"DotScreens", "swap", "(II)Z"⟩ ∈ px_T := px_inT (px_ins 4 (List.mem_of_getElem? (i := 188) rfl)) rfl
theorem px_q1002 : Jvm.Cond.instanceMethod ⟨"DotScreens", "swap", "(II)Z"⟩ ∈ px_T := px_inT (px_ins 4 (List.mem_of_getElem? (i := 189) rfl)) rfl
theorem px_q1003 : Jvm.Cond.selects "DotScreens" ⟨"DotScreens", "swap", "(II)Z"⟩ ⟨"DotScreens", "swap", "(II)Z"⟩ ∈ px_T := px_inT (px_ins 4 (List.mem_of_getElem? (i := 190) rfl)) rfl
theorem px_q1004 : Jvm.Cond.code ⟨"DotScreens", "swap", "(II)Z"⟩ prog_1_method_37_code 4 (some FieldType.boolean) ∈ px_T := px_inT (px_ins 4 (List.mem_of_getElem? (i := 191) rfl)) rfl
theorem px_q1005 : Jvm.Cond.methodLink "DotScreensLaw" 159 ⟨"DotScreens", "drop", "(I)I"⟩ ∈ px_T := px_inT (px_ins 4 (List.mem_of_getElem? (i := 192) rfl)) rfl
theorem px_q1006 : Jvm.Cond.instanceMethod ⟨"DotScreens", "drop", "(I)I"⟩ ∈ px_T := px_inT (px_ins 4 (List.mem_of_getElem? (i := 193) rfl)) rfl
theorem px_q1007 : Jvm.Cond.selects "DotScreens" ⟨"DotScreens", "drop", "(I)I"⟩ ⟨"DotScreens", "drop", "(I)I"⟩ ∈ px_T := px_inT (px_ins 4 (List.mem_of_getElem? (i := 194) rfl)) rfl
theorem px_q1008 : Jvm.Cond.code ⟨"DotScreens", "drop", "(I)I"⟩ prog_1_method_38_code 4 (some FieldType.int) ∈ px_T := px_inT (px_ins 4 (List.mem_of_getElem? (i := 195) rfl)) rfl
theorem px_q1009 : Jvm.Cond.methodLink "DotScreensLaw" 164 ⟨"DotScreens", "status", "(I)I"⟩ ∈ px_T := px_inT (px_ins 4 (List.mem_of_getElem? (i := 196) rfl)) rfl
theorem px_q1010 : Jvm.Cond.instanceMethod ⟨"DotScreens", "status", "(I)I"⟩ ∈ px_T := px_inT (px_ins 4 (List.mem_of_getElem? (i := 197) rfl)) rfl
theorem px_q1011 : Jvm.Cond.selects "DotScreens" ⟨"DotScreens", "status", "(I)I"⟩ ⟨"DotScreens", "status", "(I)I"⟩ ∈ px_T := px_inT (px_ins 4 (List.mem_of_getElem? (i := 198) rfl)) rfl
theorem px_q1012 : Jvm.Cond.code ⟨"DotScreens", "status", "(I)I"⟩ prog_1_method_40_code 2 (some FieldType.int) ∈ px_T := px_inT (px_ins 4 (List.mem_of_getElem? (i := 199) rfl)) rfl
theorem px_q1013 : Jvm.Cond.methodLink "DotScreensLaw" 168 ⟨"DotScreens", "most", "(I)I"⟩ ∈ px_T := px_inT (px_ins 4 (List.mem_of_getElem? (i := 200) rfl)) rfl
theorem px_q1014 : Jvm.Cond.instanceMethod ⟨"DotScreens", "most", "(I)I"⟩ ∈ px_T := px_inT (px_ins 4 (List.mem_of_getElem? (i := 201) rfl)) rfl
theorem px_q1015 : Jvm.Cond.selects "DotScreens" ⟨"DotScreens", "most", "(I)I"⟩ ⟨"DotScreens", "most", "(I)I"⟩ ∈ px_T := px_inT (px_ins 4 (List.mem_of_getElem? (i := 202) rfl)) rfl
theorem px_q1016 : Jvm.Cond.code ⟨"DotScreens", "most", "(I)I"⟩ prog_1_method_41_code 2 (some FieldType.int) ∈ px_T := px_inT (px_ins 4 (List.mem_of_getElem? (i := 203) rfl)) rfl
theorem px_q1017 : Jvm.Cond.methodLink "DotScreens" 354 ⟨"DotScreens", "endCouple", "(Z)I"⟩ ∈ px_T := px_inT (px_ins 4 (List.mem_of_getElem? (i := 204) rfl)) rfl
theorem px_q1019 : Jvm.Cond.instanceMethod ⟨"DotScreens", "endCouple", "(Z)I"⟩ ∈ px_T := px_inT (px_ins 4 (List.mem_of_getElem? (i := 206) rfl)) rfl
theorem px_q1020 : Jvm.Cond.code ⟨"DotScreens", "endCouple", "(Z)I"⟩ prog_1_method_42_code 10 (some FieldType.int) ∈ px_T := px_inT (px_ins 4 (List.mem_of_getElem? (i := 207) rfl)) rfl
theorem px_q1021 : Jvm.Cond.methodLink "DotScreens" 358 ⟨"DotScreens", "alikeCouples", "()I"⟩ ∈ px_T := px_inT (px_ins 4 (List.mem_of_getElem? (i := 208) rfl)) rfl
theorem px_q1023 : Jvm.Cond.instanceMethod ⟨"DotScreens", "alikeCouples", "()I"⟩ ∈ px_T := px_inT (px_ins 4 (List.mem_of_getElem? (i := 210) rfl)) rfl
theorem px_q1024 : Jvm.Cond.code ⟨"DotScreens", "alikeCouples", "()I"⟩ prog_1_method_43_code 4 (some FieldType.int) ∈ px_T := px_inT (px_ins 4 (List.mem_of_getElem? (i := 211) rfl)) rfl
theorem px_q1025 : Jvm.Cond.methodLink "DotScreens" 361 ⟨"DotScreens", "greatestCell", "()I"⟩ ∈ px_T := px_inT (px_ins 4 (List.mem_of_getElem? (i := 212) rfl)) rfl
theorem px_q1027 : Jvm.Cond.instanceMethod ⟨"DotScreens", "greatestCell", "()I"⟩ ∈ px_T := px_inT (px_ins 4 (List.mem_of_getElem? (i := 214) rfl)) rfl
theorem px_q1028 : Jvm.Cond.code ⟨"DotScreens", "greatestCell", "()I"⟩ prog_1_method_44_code 3 (some FieldType.int) ∈ px_T := px_inT (px_ins 4 (List.mem_of_getElem? (i := 215) rfl)) rfl
theorem px_q1029 : Jvm.Cond.methodLink "DotScreens" 364 ⟨"DotScreens", "inkedPixels", "()I"⟩ ∈ px_T := px_inT (px_ins 4 (List.mem_of_getElem? (i := 216) rfl)) rfl
theorem px_q1031 : Jvm.Cond.instanceMethod ⟨"DotScreens", "inkedPixels", "()I"⟩ ∈ px_T := px_inT (px_ins 4 (List.mem_of_getElem? (i := 218) rfl)) rfl
theorem px_q1032 : Jvm.Cond.code ⟨"DotScreens", "inkedPixels", "()I"⟩ prog_1_method_45_code 3 (some FieldType.int) ∈ px_T := px_inT (px_ins 4 (List.mem_of_getElem? (i := 219) rfl)) rfl
theorem px_q1033 : Jvm.Cond.methodLink "DotScreens" 160 ⟨"DotScreens$Ink", "level", "()I"⟩ ∈ px_T := px_inT (px_ins 4 (List.mem_of_getElem? (i := 220) rfl)) rfl
theorem px_q1034 : Jvm.Cond.methodLink "DotScreens" 367 ⟨"DotScreens", "inksGrown", "(Z)I"⟩ ∈ px_T := px_inT (px_ins 4 (List.mem_of_getElem? (i := 221) rfl)) rfl
theorem px_q1036 : Jvm.Cond.instanceMethod ⟨"DotScreens", "inksGrown", "(Z)I"⟩ ∈ px_T := px_inT (px_ins 4 (List.mem_of_getElem? (i := 223) rfl)) rfl
theorem px_q1037 : Jvm.Cond.code ⟨"DotScreens", "inksGrown", "(Z)I"⟩ prog_1_method_46_code 4 (some FieldType.int) ∈ px_T := px_inT (px_ins 4 (List.mem_of_getElem? (i := 224) rfl)) rfl
theorem px_q1038 : Jvm.Cond.methodLink "DotScreensLaw" 172 ⟨"DotScreens", "count", "(I)I"⟩ ∈ px_T := px_inT (px_ins 4 (List.mem_of_getElem? (i := 225) rfl)) rfl
theorem px_q1039 : Jvm.Cond.instanceMethod ⟨"DotScreens", "count", "(I)I"⟩ ∈ px_T := px_inT (px_ins 4 (List.mem_of_getElem? (i := 226) rfl)) rfl
theorem px_q1040 : Jvm.Cond.selects "DotScreens" ⟨"DotScreens", "count", "(I)I"⟩ ⟨"DotScreens", "count", "(I)I"⟩ ∈ px_T := px_inT (px_ins 4 (List.mem_of_getElem? (i := 227) rfl)) rfl
theorem px_q1041 : Jvm.Cond.code ⟨"DotScreens", "count", "(I)I"⟩ prog_1_method_47_code 2 (some FieldType.int) ∈ px_T := px_inT (px_ins 4 (List.mem_of_getElem? (i := 228) rfl)) rfl
theorem px_q1116 : Jvm.Cond.classLink "DotScreensLaw" 16 "DotScreensModel" ∈ px_T := px_inT (px_ins 5 (List.mem_of_getElem? (i := 63) rfl)) rfl
theorem px_q1117 : Jvm.Cond.instantiable "DotScreensModel" 52 ∈ px_T := px_inT (px_ins 5 (List.mem_of_getElem? (i := 64) rfl)) rfl
theorem px_q1118 : Jvm.Cond.methodLink "DotScreensLaw" 18 ⟨"DotScreensModel", "<init>", "()V"⟩ ∈ px_T := px_inT (px_ins 5 (List.mem_of_getElem? (i := 65) rfl)) rfl
theorem px_q1119 : Jvm.Cond.instanceMethod ⟨"DotScreensModel", "<init>", "()V"⟩ ∈ px_T := px_inT (px_ins 5 (List.mem_of_getElem? (i := 66) rfl)) rfl
theorem px_q1120 : Jvm.Cond.code ⟨"DotScreensModel", "<init>", "()V"⟩ prog_12_method_7_code 1 none ∈ px_T := px_inT (px_ins 5 (List.mem_of_getElem? (i := 67) rfl)) rfl
theorem px_q1121 : Jvm.Cond.methodLink "DotScreensModel" 7 ⟨"java/lang/Object", "<init>", "()V"⟩ ∈ px_T := px_inT (px_ins 5 (List.mem_of_getElem? (i := 68) rfl)) rfl
theorem px_q1122 : Jvm.Cond.fieldLink "DotScreensModel" 69 "DotScreensModel" "thrown" "I" ∈ px_T := px_inT (px_ins 5 (List.mem_of_getElem? (i := 69) rfl)) rfl
theorem px_q1123 : Jvm.Cond.fieldLink "DotScreensModel" 13 "DotScreensModel" "tape" "[I" ∈ px_T := px_inT (px_ins 5 (List.mem_of_getElem? (i := 70) rfl)) rfl
theorem px_q1124 : Jvm.Cond.fieldLink "DotScreensModel" 77 "DotScreensModel" "taped" "I" ∈ px_T := px_inT (px_ins 5 (List.mem_of_getElem? (i := 71) rfl)) rfl
theorem px_q1125 : Jvm.Cond.fieldLink "DotScreensModel" 84 "DotScreensModel" "at" "I" ∈ px_T := px_inT (px_ins 5 (List.mem_of_getElem? (i := 72) rfl)) rfl
theorem px_q1126 : Jvm.Cond.fieldLink "DotScreensModel" 91 "DotScreensModel" "wrong" "I" ∈ px_T := px_inT (px_ins 5 (List.mem_of_getElem? (i := 73) rfl)) rfl
theorem px_q1127 : Jvm.Cond.fieldLink "DotScreensModel" 17 "DotScreensModel" "readInk" "[I" ∈ px_T := px_inT (px_ins 5 (List.mem_of_getElem? (i := 74) rfl)) rfl
theorem px_q1128 : Jvm.Cond.fieldLink "DotScreensModel" 20 "DotScreensModel" "ink" "[I" ∈ px_T := px_inT (px_ins 5 (List.mem_of_getElem? (i := 75) rfl)) rfl
theorem px_q1129 : Jvm.Cond.fieldLink "DotScreensModel" 23 "DotScreensModel" "refused" "[I" ∈ px_T := px_inT (px_ins 5 (List.mem_of_getElem? (i := 76) rfl)) rfl
theorem px_q1130 : Jvm.Cond.fieldLink "DotScreensModel" 119 "DotScreensModel" "readClauses" "I" ∈ px_T := px_inT (px_ins 5 (List.mem_of_getElem? (i := 77) rfl)) rfl
theorem px_q1131 : Jvm.Cond.fieldLink "DotScreensModel" 122 "DotScreensModel" "readInks" "I" ∈ px_T := px_inT (px_ins 5 (List.mem_of_getElem? (i := 78) rfl)) rfl
theorem px_q1132 : Jvm.Cond.fieldLink "DotScreensModel" 151 "DotScreensModel" "inks" "I" ∈ px_T := px_inT (px_ins 5 (List.mem_of_getElem? (i := 79) rfl)) rfl
theorem px_q1133 : Jvm.Cond.fieldLink "DotScreensModel" 164 "DotScreensModel" "wide" "J" ∈ px_T := px_inT (px_ins 5 (List.mem_of_getElem? (i := 80) rfl)) rfl
theorem px_q1134 : Jvm.Cond.fieldLink "DotScreensModel" 168 "DotScreensModel" "high" "J" ∈ px_T := px_inT (px_ins 5 (List.mem_of_getElem? (i := 81) rfl)) rfl
theorem px_q1135 : Jvm.Cond.fieldLink "DotScreensModel" 175 "DotScreensModel" "slant" "J" ∈ px_T := px_inT (px_ins 5 (List.mem_of_getElem? (i := 82) rfl)) rfl
theorem px_q1136 : Jvm.Cond.fieldLink "DotScreensModel" 189 "DotScreensModel" "firstX" "J" ∈ px_T := px_inT (px_ins 5 (List.mem_of_getElem? (i := 83) rfl)) rfl
theorem px_q1137 : Jvm.Cond.fieldLink "DotScreensModel" 192 "DotScreensModel" "firstY" "J" ∈ px_T := px_inT (px_ins 5 (List.mem_of_getElem? (i := 84) rfl)) rfl
theorem px_q1138 : Jvm.Cond.fieldLink "DotScreensModel" 203 "DotScreensModel" "secondX" "J" ∈ px_T := px_inT (px_ins 5 (List.mem_of_getElem? (i := 85) rfl)) rfl
theorem px_q1139 : Jvm.Cond.fieldLink "DotScreensModel" 206 "DotScreensModel" "secondY" "J" ∈ px_T := px_inT (px_ins 5 (List.mem_of_getElem? (i := 86) rfl)) rfl
theorem px_q1140 : Jvm.Cond.fieldLink "DotScreensModel" 212 "DotScreensModel" "homeX" "I" ∈ px_T := px_inT (px_ins 5 (List.mem_of_getElem? (i := 87) rfl)) rfl
theorem px_q1141 : Jvm.Cond.fieldLink "DotScreensModel" 209 "DotScreensModel" "homeY" "I" ∈ px_T := px_inT (px_ins 5 (List.mem_of_getElem? (i := 88) rfl)) rfl
theorem px_q1142 : Jvm.Cond.fieldLink "DotScreensModel" 26 "DotScreensModel" "rankX" "[I" ∈ px_T := px_inT (px_ins 5 (List.mem_of_getElem? (i := 89) rfl)) rfl
theorem px_q1143 : Jvm.Cond.fieldLink "DotScreensModel" 29 "DotScreensModel" "rankY" "[I" ∈ px_T := px_inT (px_ins 5 (List.mem_of_getElem? (i := 90) rfl)) rfl
theorem px_q1144 : Jvm.Cond.fieldLink "DotScreensModel" 32 "DotScreensModel" "rankSpot" "[I" ∈ px_T := px_inT (px_ins 5 (List.mem_of_getElem? (i := 91) rfl)) rfl
theorem px_q1145 : Jvm.Cond.fieldLink "DotScreensModel" 35 "DotScreensModel" "rankOf" "[I" ∈ px_T := px_inT (px_ins 5 (List.mem_of_getElem? (i := 92) rfl)) rfl
theorem px_q1146 : Jvm.Cond.fieldLink "DotScreensModel" 38 "DotScreensModel" "foundX" "[I" ∈ px_T := px_inT (px_ins 5 (List.mem_of_getElem? (i := 93) rfl)) rfl
theorem px_q1147 : Jvm.Cond.fieldLink "DotScreensModel" 41 "DotScreensModel" "foundY" "[I" ∈ px_T := px_inT (px_ins 5 (List.mem_of_getElem? (i := 94) rfl)) rfl
theorem px_q1148 : Jvm.Cond.fieldLink "DotScreensModel" 44 "DotScreensModel" "isFound" "[Z" ∈ px_T := px_inT (px_ins 5 (List.mem_of_getElem? (i := 95) rfl)) rfl
theorem px_q1149 : Jvm.Cond.fieldLink "DotScreensModel" 48 "DotScreensModel" "queue" "[I" ∈ px_T := px_inT (px_ins 5 (List.mem_of_getElem? (i := 96) rfl)) rfl
theorem px_q1150 : Jvm.Cond.fieldLink "DotScreensModel" 259 "DotScreensModel" "lots" "I" ∈ px_T := px_inT (px_ins 5 (List.mem_of_getElem? (i := 97) rfl)) rfl
theorem px_q1151 : Jvm.Cond.fieldLink "DotScreensModel" 246 "DotScreensModel" "touches" "Z" ∈ px_T := px_inT (px_ins 5 (List.mem_of_getElem? (i := 98) rfl)) rfl
theorem px_q1152 : Jvm.Cond.fieldLink "DotScreensModel" 250 "DotScreensModel" "isSolid" "Z" ∈ px_T := px_inT (px_ins 5 (List.mem_of_getElem? (i := 99) rfl)) rfl
theorem px_q1153 : Jvm.Cond.fieldLink "DotScreensModel" 253 "DotScreensModel" "moveX" "J" ∈ px_T := px_inT (px_ins 5 (List.mem_of_getElem? (i := 100) rfl)) rfl
theorem px_q1154 : Jvm.Cond.fieldLink "DotScreensModel" 256 "DotScreensModel" "moveY" "J" ∈ px_T := px_inT (px_ins 5 (List.mem_of_getElem? (i := 101) rfl)) rfl
theorem px_q1155 : Jvm.Cond.fieldLink "DotScreensModel" 309 "DotScreensModel" "pairX" "J" ∈ px_T := px_inT (px_ins 5 (List.mem_of_getElem? (i := 102) rfl)) rfl
theorem px_q1156 : Jvm.Cond.fieldLink "DotScreensModel" 312 "DotScreensModel" "pairY" "J" ∈ px_T := px_inT (px_ins 5 (List.mem_of_getElem? (i := 103) rfl)) rfl
theorem px_q1157 : Jvm.Cond.fieldLink "DotScreensModel" 328 "DotScreensModel" "beatX" "J" ∈ px_T := px_inT (px_ins 5 (List.mem_of_getElem? (i := 104) rfl)) rfl
theorem px_q1158 : Jvm.Cond.fieldLink "DotScreensModel" 331 "DotScreensModel" "beatY" "J" ∈ px_T := px_inT (px_ins 5 (List.mem_of_getElem? (i := 105) rfl)) rfl
theorem px_q1159 : Jvm.Cond.fieldLink "DotScreensModel" 334 "DotScreensModel" "beatWave" "I" ∈ px_T := px_inT (px_ins 5 (List.mem_of_getElem? (i := 106) rfl)) rfl
theorem px_q1160 : Jvm.Cond.fieldLink "DotScreensModel" 337 "DotScreensModel" "beatOther" "I" ∈ px_T := px_inT (px_ins 5 (List.mem_of_getElem? (i := 107) rfl)) rfl
theorem px_q1161 : Jvm.Cond.fieldLink "DotScreensModel" 321 "DotScreensModel" "areAlike" "Z" ∈ px_T := px_inT (px_ins 5 (List.mem_of_getElem? (i := 108) rfl)) rfl
theorem px_q1162 : Jvm.Cond.fieldLink "DotScreensModel" 51 "DotScreensModel" "window" "[I" ∈ px_T := px_inT (px_ins 5 (List.mem_of_getElem? (i := 109) rfl)) rfl
theorem px_q1163 : Jvm.Cond.fieldLink "DotScreensModel" 54 "DotScreensModel" "counted" "[I" ∈ px_T := px_inT (px_ins 5 (List.mem_of_getElem? (i := 110) rfl)) rfl
theorem px_q1164 : Jvm.Cond.fieldLink "DotScreensModel" 57 "DotScreensModel" "squareA" "[I" ∈ px_T := px_inT (px_ins 5 (List.mem_of_getElem? (i := 111) rfl)) rfl
theorem px_q1165 : Jvm.Cond.fieldLink "DotScreensModel" 60 "DotScreensModel" "squareB" "[I" ∈ px_T := px_inT (px_ins 5 (List.mem_of_getElem? (i := 112) rfl)) rfl
theorem px_q1166 : Jvm.Cond.fieldLink "DotScreensModel" 401 "DotScreensModel" "squares" "I" ∈ px_T := px_inT (px_ins 5 (List.mem_of_getElem? (i := 113) rfl)) rfl
theorem px_q1167 : Jvm.Cond.fieldLink "DotScreensModel" 407 "DotScreensModel" "farUpper" "J" ∈ px_T := px_inT (px_ins 5 (List.mem_of_getElem? (i := 114) rfl)) rfl
theorem px_q1168 : Jvm.Cond.fieldLink "DotScreensModel" 410 "DotScreensModel" "farLower" "J" ∈ px_T := px_inT (px_ins 5 (List.mem_of_getElem? (i := 115) rfl)) rfl
theorem px_q1169 : Jvm.Cond.fieldLink "DotScreensModel" 419 "DotScreensModel" "bestUpper" "J" ∈ px_T := px_inT (px_ins 5 (List.mem_of_getElem? (i := 116) rfl)) rfl
theorem px_q1170 : Jvm.Cond.fieldLink "DotScreensModel" 416 "DotScreensModel" "bestLower" "J" ∈ px_T := px_inT (px_ins 5 (List.mem_of_getElem? (i := 117) rfl)) rfl
theorem px_q1171 : Jvm.Cond.fieldLink "DotScreensModel" 63 "DotScreensModel" "best" "[I" ∈ px_T := px_inT (px_ins 5 (List.mem_of_getElem? (i := 118) rfl)) rfl
theorem px_q1172 : Jvm.Cond.fieldLink "DotScreensModel" 413 "DotScreensModel" "hasBest" "Z" ∈ px_T := px_inT (px_ins 5 (List.mem_of_getElem? (i := 119) rfl)) rfl
theorem px_q1173 : Jvm.Cond.fieldLink "DotScreensModel" 66 "DotScreensModel" "chosen" "[I" ∈ px_T := px_inT (px_ins 5 (List.mem_of_getElem? (i := 120) rfl)) rfl
theorem px_q1174 : Jvm.Cond.lays "DotScreensModel" "DotScreensModel" "thrown" "I" ∈ px_T := px_inT (px_ins 5 (List.mem_of_getElem? (i := 121) rfl)) rfl
theorem px_q1176 : Jvm.Cond.laysFinal "DotScreensModel" "DotScreensModel" "tape" "[I" ∈ px_T := px_inT (px_ins 5 (List.mem_of_getElem? (i := 123) rfl)) rfl
theorem px_q1178 : Jvm.Cond.lays "DotScreensModel" "DotScreensModel" "taped" "I" ∈ px_T := px_inT (px_ins 5 (List.mem_of_getElem? (i := 125) rfl)) rfl
theorem px_q1180 : Jvm.Cond.lays "DotScreensModel" "DotScreensModel" "at" "I" ∈ px_T := px_inT (px_ins 5 (List.mem_of_getElem? (i := 127) rfl)) rfl
theorem px_q1182 : Jvm.Cond.lays "DotScreensModel" "DotScreensModel" "wrong" "I" ∈ px_T := px_inT (px_ins 5 (List.mem_of_getElem? (i := 129) rfl)) rfl
theorem px_q1184 : Jvm.Cond.laysFinal "DotScreensModel" "DotScreensModel" "readInk" "[I" ∈ px_T := px_inT (px_ins 5 (List.mem_of_getElem? (i := 131) rfl)) rfl
theorem px_q1186 : Jvm.Cond.laysFinal "DotScreensModel" "DotScreensModel" "ink" "[I" ∈ px_T := px_inT (px_ins 5 (List.mem_of_getElem? (i := 133) rfl)) rfl
theorem px_q1188 : Jvm.Cond.laysFinal "DotScreensModel" "DotScreensModel" "refused" "[I" ∈ px_T := px_inT (px_ins 5 (List.mem_of_getElem? (i := 135) rfl)) rfl
theorem px_q1190 : Jvm.Cond.lays "DotScreensModel" "DotScreensModel" "readClauses" "I" ∈ px_T := px_inT (px_ins 5 (List.mem_of_getElem? (i := 137) rfl)) rfl
theorem px_q1192 : Jvm.Cond.lays "DotScreensModel" "DotScreensModel" "readInks" "I" ∈ px_T := px_inT (px_ins 5 (List.mem_of_getElem? (i := 139) rfl)) rfl
theorem px_q1194 : Jvm.Cond.lays "DotScreensModel" "DotScreensModel" "inks" "I" ∈ px_T := px_inT (px_ins 5 (List.mem_of_getElem? (i := 141) rfl)) rfl
theorem px_q1196 : Jvm.Cond.lays "DotScreensModel" "DotScreensModel" "wide" "J" ∈ px_T := px_inT (px_ins 5 (List.mem_of_getElem? (i := 143) rfl)) rfl
theorem px_q1198 : Jvm.Cond.lays "DotScreensModel" "DotScreensModel" "high" "J" ∈ px_T := px_inT (px_ins 5 (List.mem_of_getElem? (i := 145) rfl)) rfl
theorem px_q1200 : Jvm.Cond.lays "DotScreensModel" "DotScreensModel" "slant" "J" ∈ px_T := px_inT (px_ins 5 (List.mem_of_getElem? (i := 147) rfl)) rfl
theorem px_q1202 : Jvm.Cond.lays "DotScreensModel" "DotScreensModel" "firstX" "J" ∈ px_T := px_inT (px_ins 5 (List.mem_of_getElem? (i := 149) rfl)) rfl
theorem px_q1204 : Jvm.Cond.lays "DotScreensModel" "DotScreensModel" "firstY" "J" ∈ px_T := px_inT (px_ins 5 (List.mem_of_getElem? (i := 151) rfl)) rfl
theorem px_q1206 : Jvm.Cond.lays "DotScreensModel" "DotScreensModel" "secondX" "J" ∈ px_T := px_inT (px_ins 5 (List.mem_of_getElem? (i := 153) rfl)) rfl
theorem px_q1208 : Jvm.Cond.lays "DotScreensModel" "DotScreensModel" "secondY" "J" ∈ px_T := px_inT (px_ins 5 (List.mem_of_getElem? (i := 155) rfl)) rfl
theorem px_q1210 : Jvm.Cond.lays "DotScreensModel" "DotScreensModel" "homeX" "I" ∈ px_T := px_inT (px_ins 5 (List.mem_of_getElem? (i := 157) rfl)) rfl
theorem px_q1212 : Jvm.Cond.lays "DotScreensModel" "DotScreensModel" "homeY" "I" ∈ px_T := px_inT (px_ins 5 (List.mem_of_getElem? (i := 159) rfl)) rfl
theorem px_q1214 : Jvm.Cond.laysFinal "DotScreensModel" "DotScreensModel" "rankX" "[I" ∈ px_T := px_inT (px_ins 5 (List.mem_of_getElem? (i := 161) rfl)) rfl
theorem px_q1216 : Jvm.Cond.laysFinal "DotScreensModel" "DotScreensModel" "rankY" "[I" ∈ px_T := px_inT (px_ins 5 (List.mem_of_getElem? (i := 163) rfl)) rfl
theorem px_q1218 : Jvm.Cond.laysFinal "DotScreensModel" "DotScreensModel" "rankSpot" "[I" ∈ px_T := px_inT (px_ins 5 (List.mem_of_getElem? (i := 165) rfl)) rfl
theorem px_q1220 : Jvm.Cond.laysFinal "DotScreensModel" "DotScreensModel" "rankOf" "[I" ∈ px_T := px_inT (px_ins 5 (List.mem_of_getElem? (i := 167) rfl)) rfl
theorem px_q1222 : Jvm.Cond.laysFinal "DotScreensModel" "DotScreensModel" "foundX" "[I" ∈ px_T := px_inT (px_ins 5 (List.mem_of_getElem? (i := 169) rfl)) rfl
theorem px_q1224 : Jvm.Cond.laysFinal "DotScreensModel" "DotScreensModel" "foundY" "[I" ∈ px_T := px_inT (px_ins 5 (List.mem_of_getElem? (i := 171) rfl)) rfl
theorem px_q1226 : Jvm.Cond.laysFinal "DotScreensModel" "DotScreensModel" "isFound" "[Z" ∈ px_T := px_inT (px_ins 5 (List.mem_of_getElem? (i := 173) rfl)) rfl
theorem px_q1228 : Jvm.Cond.laysFinal "DotScreensModel" "DotScreensModel" "queue" "[I" ∈ px_T := px_inT (px_ins 5 (List.mem_of_getElem? (i := 175) rfl)) rfl
theorem px_q1230 : Jvm.Cond.lays "DotScreensModel" "DotScreensModel" "lots" "I" ∈ px_T := px_inT (px_ins 5 (List.mem_of_getElem? (i := 177) rfl)) rfl
theorem px_q1232 : Jvm.Cond.lays "DotScreensModel" "DotScreensModel" "touches" "Z" ∈ px_T := px_inT (px_ins 5 (List.mem_of_getElem? (i := 179) rfl)) rfl
theorem px_q1234 : Jvm.Cond.lays "DotScreensModel" "DotScreensModel" "isSolid" "Z" ∈ px_T := px_inT (px_ins 5 (List.mem_of_getElem? (i := 181) rfl)) rfl
theorem px_q1236 : Jvm.Cond.lays "DotScreensModel" "DotScreensModel" "moveX" "J" ∈ px_T := px_inT (px_ins 5 (List.mem_of_getElem? (i := 183) rfl)) rfl
theorem px_q1238 : Jvm.Cond.lays "DotScreensModel" "DotScreensModel" "moveY" "J" ∈ px_T := px_inT (px_ins 5 (List.mem_of_getElem? (i := 185) rfl)) rfl
theorem px_q1240 : Jvm.Cond.lays "DotScreensModel" "DotScreensModel" "pairX" "J" ∈ px_T := px_inT (px_ins 5 (List.mem_of_getElem? (i := 187) rfl)) rfl
theorem px_q1242 : Jvm.Cond.lays "DotScreensModel" "DotScreensModel" "pairY" "J" ∈ px_T := px_inT (px_ins 5 (List.mem_of_getElem? (i := 189) rfl)) rfl
theorem px_q1244 : Jvm.Cond.lays "DotScreensModel" "DotScreensModel" "beatX" "J" ∈ px_T := px_inT (px_ins 5 (List.mem_of_getElem? (i := 191) rfl)) rfl
theorem px_q1246 : Jvm.Cond.lays "DotScreensModel" "DotScreensModel" "beatY" "J" ∈ px_T := px_inT (px_ins 5 (List.mem_of_getElem? (i := 193) rfl)) rfl
theorem px_q1248 : Jvm.Cond.lays "DotScreensModel" "DotScreensModel" "beatWave" "I" ∈ px_T := px_inT (px_ins 5 (List.mem_of_getElem? (i := 195) rfl)) rfl
theorem px_q1250 : Jvm.Cond.lays "DotScreensModel" "DotScreensModel" "beatOther" "I" ∈ px_T := px_inT (px_ins 5 (List.mem_of_getElem? (i := 197) rfl)) rfl
theorem px_q1252 : Jvm.Cond.lays "DotScreensModel" "DotScreensModel" "areAlike" "Z" ∈ px_T := px_inT (px_ins 5 (List.mem_of_getElem? (i := 199) rfl)) rfl
theorem px_q1254 : Jvm.Cond.laysFinal "DotScreensModel" "DotScreensModel" "window" "[I" ∈ px_T := px_inT (px_ins 5 (List.mem_of_getElem? (i := 201) rfl)) rfl
theorem px_q1256 : Jvm.Cond.laysFinal "DotScreensModel" "DotScreensModel" "counted" "[I" ∈ px_T := px_inT (px_ins 5 (List.mem_of_getElem? (i := 203) rfl)) rfl
theorem px_q1258 : Jvm.Cond.laysFinal "DotScreensModel" "DotScreensModel" "squareA" "[I" ∈ px_T := px_inT (px_ins 5 (List.mem_of_getElem? (i := 205) rfl)) rfl
theorem px_q1260 : Jvm.Cond.laysFinal "DotScreensModel" "DotScreensModel" "squareB" "[I" ∈ px_T := px_inT (px_ins 5 (List.mem_of_getElem? (i := 207) rfl)) rfl
theorem px_q1262 : Jvm.Cond.lays "DotScreensModel" "DotScreensModel" "squares" "I" ∈ px_T := px_inT (px_ins 5 (List.mem_of_getElem? (i := 209) rfl)) rfl
theorem px_q1264 : Jvm.Cond.lays "DotScreensModel" "DotScreensModel" "farUpper" "J" ∈ px_T := px_inT (px_ins 5 (List.mem_of_getElem? (i := 211) rfl)) rfl
theorem px_q1266 : Jvm.Cond.lays "DotScreensModel" "DotScreensModel" "farLower" "J" ∈ px_T := px_inT (px_ins 5 (List.mem_of_getElem? (i := 213) rfl)) rfl
theorem px_q1268 : Jvm.Cond.lays "DotScreensModel" "DotScreensModel" "bestUpper" "J" ∈ px_T := px_inT (px_ins 5 (List.mem_of_getElem? (i := 215) rfl)) rfl
theorem px_q1270 : Jvm.Cond.lays "DotScreensModel" "DotScreensModel" "bestLower" "J" ∈ px_T := px_inT (px_ins 5 (List.mem_of_getElem? (i := 217) rfl)) rfl
theorem px_q1272 : Jvm.Cond.laysFinal "DotScreensModel" "DotScreensModel" "best" "[I" ∈ px_T := px_inT (px_ins 5 (List.mem_of_getElem? (i := 219) rfl)) rfl
theorem px_q1274 : Jvm.Cond.lays "DotScreensModel" "DotScreensModel" "hasBest" "Z" ∈ px_T := px_inT (px_ins 5 (List.mem_of_getElem? (i := 221) rfl)) rfl
theorem px_q1276 : Jvm.Cond.laysFinal "DotScreensModel" "DotScreensModel" "chosen" "[I" ∈ px_T := px_inT (px_ins 5 (List.mem_of_getElem? (i := 223) rfl)) rfl
theorem px_q1279 : Jvm.Cond.arrayClass FieldType.boolean ∈ px_T := px_inT (px_ins 5 (List.mem_of_getElem? (i := 226) rfl)) rfl
theorem px_q1280 : Jvm.Cond.methodLink "DotScreensLaw" 44 ⟨"DotScreensModel", "thrown", "()I"⟩ ∈ px_T := px_inT (px_ins 5 (List.mem_of_getElem? (i := 227) rfl)) rfl
theorem px_q1281 : Jvm.Cond.instanceMethod ⟨"DotScreensModel", "thrown", "()I"⟩ ∈ px_T := px_inT (px_ins 5 (List.mem_of_getElem? (i := 228) rfl)) rfl
theorem px_q1282 : Jvm.Cond.selects "DotScreensModel" ⟨"DotScreensModel", "thrown", "()I"⟩ ⟨"DotScreensModel", "thrown", "()I"⟩ ∈ px_T := px_inT (px_ins 5 (List.mem_of_getElem? (i := 229) rfl)) rfl
theorem px_q1283 : Jvm.Cond.code ⟨"DotScreensModel", "thrown", "()I"⟩ prog_12_method_8_code 1 (some FieldType.int) ∈ px_T := px_inT (px_ins 5 (List.mem_of_getElem? (i := 230) rfl)) rfl
theorem px_q1284 : Jvm.Cond.methodLink "DotScreensLaw" 23 ⟨"DotScreensModel", "feed", "(IIIII)I"⟩ ∈ px_T := px_inT (px_ins 5 (List.mem_of_getElem? (i := 231) rfl)) rfl
theorem px_q1285 : Jvm.Cond.instanceMethod ⟨"DotScreensModel", "feed", "(IIIII)I"⟩ ∈ px_T := px_inT (px_ins 5 (List.mem_of_getElem? (i := 232) rfl)) rfl
theorem px_q1286 : Jvm.Cond.selects "DotScreensModel" ⟨"DotScreensModel", "feed", "(IIIII)I"⟩ ⟨"DotScreensModel", "feed", "(IIIII)I"⟩ ∈ px_T := px_inT (px_ins 5 (List.mem_of_getElem? (i := 233) rfl)) rfl
theorem px_q1287 : Jvm.Cond.code ⟨"DotScreensModel", "feed", "(IIIII)I"⟩ prog_12_method_10_code 9 (some FieldType.int) ∈ px_T := px_inT (px_ins 5 (List.mem_of_getElem? (i := 234) rfl)) rfl
theorem px_q1288 : Jvm.Cond.methodLink "DotScreensModel" 73 ⟨"DotScreensModel", "byteOf", "(IIIIII)I"⟩ ∈ px_T := px_inT (px_ins 5 (List.mem_of_getElem? (i := 235) rfl)) rfl
theorem px_q1289 : Jvm.Cond.static ⟨"DotScreensModel", "byteOf", "(IIIIII)I"⟩ ∈ px_T := px_inT (px_ins 5 (List.mem_of_getElem? (i := 236) rfl)) rfl
theorem px_q1290 : Jvm.Cond.code ⟨"DotScreensModel", "byteOf", "(IIIIII)I"⟩ prog_12_method_9_code 7 (some FieldType.int) ∈ px_T := px_inT (px_ins 5 (List.mem_of_getElem? (i := 237) rfl)) rfl
theorem px_q1291 : Jvm.Cond.methodLink "DotScreensLaw" 28 ⟨"DotScreensModel", "end", "(I)Z"⟩ ∈ px_T := px_inT (px_ins 5 (List.mem_of_getElem? (i := 238) rfl)) rfl
theorem px_q1292 : Jvm.Cond.instanceMethod ⟨"DotScreensModel", "end", "(I)Z"⟩ ∈ px_T := px_inT (px_ins 5 (List.mem_of_getElem? (i := 239) rfl)) rfl
theorem px_q1293 : Jvm.Cond.selects "DotScreensModel" ⟨"DotScreensModel", "end", "(I)Z"⟩ ⟨"DotScreensModel", "end", "(I)Z"⟩ ∈ px_T := px_inT (px_ins 6 (List.mem_of_getElem? (i := 0) rfl)) rfl
theorem px_q1294 : Jvm.Cond.code ⟨"DotScreensModel", "end", "(I)Z"⟩ prog_12_method_11_code 2 (some FieldType.boolean) ∈ px_T := px_inT (px_ins 6 (List.mem_of_getElem? (i := 1) rfl)) rfl
theorem px_q1295 : Jvm.Cond.methodLink "DotScreensModel" 80 ⟨"DotScreensModel", "in", "(JJJ)Z"⟩ ∈ px_T := px_inT (px_ins 6 (List.mem_of_getElem? (i := 2) rfl)) rfl
theorem px_q1296 : Jvm.Cond.static ⟨"DotScreensModel", "in", "(JJJ)Z"⟩ ∈ px_T := px_inT (px_ins 6 (List.mem_of_getElem? (i := 3) rfl)) rfl
theorem px_q1297 : Jvm.Cond.code ⟨"DotScreensModel", "in", "(JJJ)Z"⟩ prog_12_method_1_code 6 (some FieldType.boolean) ∈ px_T := px_inT (px_ins 6 (List.mem_of_getElem? (i := 4) rfl)) rfl
theorem px_q1298 : Jvm.Cond.methodLink "DotScreensLaw" 33 ⟨"DotScreensModel", "fault", "()I"⟩ ∈ px_T := px_inT (px_ins 6 (List.mem_of_getElem? (i := 5) rfl)) rfl
theorem px_q1299 : Jvm.Cond.instanceMethod ⟨"DotScreensModel", "fault", "()I"⟩ ∈ px_T := px_inT (px_ins 6 (List.mem_of_getElem? (i := 6) rfl)) rfl
theorem px_q1300 : Jvm.Cond.selects "DotScreensModel" ⟨"DotScreensModel", "fault", "()I"⟩ ⟨"DotScreensModel", "fault", "()I"⟩ ∈ px_T := px_inT (px_ins 6 (List.mem_of_getElem? (i := 7) rfl)) rfl
theorem px_q1301 : Jvm.Cond.code ⟨"DotScreensModel", "fault", "()I"⟩ prog_12_method_26_code 1 (some FieldType.int) ∈ px_T := px_inT (px_ins 6 (List.mem_of_getElem? (i := 8) rfl)) rfl
theorem px_q1302 : Jvm.Cond.methodLink "DotScreensModel" 148 ⟨"DotScreensModel", "readAll", "()I"⟩ ∈ px_T := px_inT (px_ins 6 (List.mem_of_getElem? (i := 9) rfl)) rfl
theorem px_q1304 : Jvm.Cond.instanceMethod ⟨"DotScreensModel", "readAll", "()I"⟩ ∈ px_T := px_inT (px_ins 6 (List.mem_of_getElem? (i := 11) rfl)) rfl
theorem px_q1305 : Jvm.Cond.code ⟨"DotScreensModel", "readAll", "()I"⟩ prog_12_method_25_code 2 (some FieldType.int) ∈ px_T := px_inT (px_ins 6 (List.mem_of_getElem? (i := 12) rfl)) rfl
theorem px_q1306 : Jvm.Cond.methodLink "DotScreensModel" 94 ⟨"DotScreensModel", "ahead", "()I"⟩ ∈ px_T := px_inT (px_ins 6 (List.mem_of_getElem? (i := 13) rfl)) rfl
theorem px_q1308 : Jvm.Cond.instanceMethod ⟨"DotScreensModel", "ahead", "()I"⟩ ∈ px_T := px_inT (px_ins 6 (List.mem_of_getElem? (i := 15) rfl)) rfl
theorem px_q1309 : Jvm.Cond.code ⟨"DotScreensModel", "ahead", "()I"⟩ prog_12_method_13_code 1 (some FieldType.int) ∈ px_T := px_inT (px_ins 6 (List.mem_of_getElem? (i := 16) rfl)) rfl
theorem px_q1310 : Jvm.Cond.methodLink "DotScreensModel" 87 ⟨"DotScreensModel", "here", "()I"⟩ ∈ px_T := px_inT (px_ins 6 (List.mem_of_getElem? (i := 17) rfl)) rfl
theorem px_q1312 : Jvm.Cond.instanceMethod ⟨"DotScreensModel", "here", "()I"⟩ ∈ px_T := px_inT (px_ins 6 (List.mem_of_getElem? (i := 19) rfl)) rfl
theorem px_q1313 : Jvm.Cond.code ⟨"DotScreensModel", "here", "()I"⟩ prog_12_method_12_code 1 (some FieldType.int) ∈ px_T := px_inT (px_ins 6 (List.mem_of_getElem? (i := 20) rfl)) rfl
theorem px_q1314 : Jvm.Cond.methodLink "DotScreensModel" 145 ⟨"DotScreensModel", "clause", "()V"⟩ ∈ px_T := px_inT (px_ins 6 (List.mem_of_getElem? (i := 21) rfl)) rfl
theorem px_q1316 : Jvm.Cond.instanceMethod ⟨"DotScreensModel", "clause", "()V"⟩ ∈ px_T := px_inT (px_ins 6 (List.mem_of_getElem? (i := 23) rfl)) rfl
theorem px_q1317 : Jvm.Cond.code ⟨"DotScreensModel", "clause", "()V"⟩ prog_12_method_24_code 5 none ∈ px_T := px_inT (px_ins 6 (List.mem_of_getElem? (i := 24) rfl)) rfl
theorem px_q1318 : Jvm.Cond.methodLink "DotScreensModel" 97 ⟨"DotScreensModel", "bad", "()V"⟩ ∈ px_T := px_inT (px_ins 6 (List.mem_of_getElem? (i := 25) rfl)) rfl
theorem px_q1320 : Jvm.Cond.instanceMethod ⟨"DotScreensModel", "bad", "()V"⟩ ∈ px_T := px_inT (px_ins 6 (List.mem_of_getElem? (i := 27) rfl)) rfl
theorem px_q1321 : Jvm.Cond.code ⟨"DotScreensModel", "bad", "()V"⟩ prog_12_method_14_code 1 none ∈ px_T := px_inT (px_ins 6 (List.mem_of_getElem? (i := 28) rfl)) rfl
theorem px_q1322 : Jvm.Cond.methodLink "DotScreensModel" 115 ⟨"DotScreensModel", "must", "(I)V"⟩ ∈ px_T := px_inT (px_ins 6 (List.mem_of_getElem? (i := 29) rfl)) rfl
theorem px_q1324 : Jvm.Cond.instanceMethod ⟨"DotScreensModel", "must", "(I)V"⟩ ∈ px_T := px_inT (px_ins 6 (List.mem_of_getElem? (i := 31) rfl)) rfl
theorem px_q1325 : Jvm.Cond.code ⟨"DotScreensModel", "must", "(I)V"⟩ prog_12_method_15_code 2 none ∈ px_T := px_inT (px_ins 6 (List.mem_of_getElem? (i := 32) rfl)) rfl
theorem px_q1326 : Jvm.Cond.methodLink "DotScreensModel" 125 ⟨"DotScreensModel", "readScreen", "(I)V"⟩ ∈ px_T := px_inT (px_ins 6 (List.mem_of_getElem? (i := 33) rfl)) rfl
theorem px_q1328 : Jvm.Cond.instanceMethod ⟨"DotScreensModel", "readScreen", "(I)V"⟩ ∈ px_T := px_inT (px_ins 6 (List.mem_of_getElem? (i := 35) rfl)) rfl
theorem px_q1329 : Jvm.Cond.code ⟨"DotScreensModel", "readScreen", "(I)V"⟩ prog_12_method_21_code 2 none ∈ px_T := px_inT (px_ins 6 (List.mem_of_getElem? (i := 36) rfl)) rfl
theorem px_q1330 : Jvm.Cond.methodLink "DotScreensModel" 111 ⟨"DotScreensModel", "number", "(I)I"⟩ ∈ px_T := px_inT (px_ins 6 (List.mem_of_getElem? (i := 37) rfl)) rfl
theorem px_q1332 : Jvm.Cond.instanceMethod ⟨"DotScreensModel", "number", "(I)I"⟩ ∈ px_T := px_inT (px_ins 6 (List.mem_of_getElem? (i := 39) rfl)) rfl
theorem px_q1333 : Jvm.Cond.code ⟨"DotScreensModel", "number", "(I)I"⟩ prog_12_method_19_code 3 (some FieldType.int) ∈ px_T := px_inT (px_ins 6 (List.mem_of_getElem? (i := 40) rfl)) rfl
theorem px_q1334 : Jvm.Cond.methodLink "DotScreensModel" 104 ⟨"DotScreensModel", "takes", "(I)Z"⟩ ∈ px_T := px_inT (px_ins 6 (List.mem_of_getElem? (i := 41) rfl)) rfl
theorem px_q1336 : Jvm.Cond.instanceMethod ⟨"DotScreensModel", "takes", "(I)Z"⟩ ∈ px_T := px_inT (px_ins 6 (List.mem_of_getElem? (i := 43) rfl)) rfl
theorem px_q1337 : Jvm.Cond.code ⟨"DotScreensModel", "takes", "(I)Z"⟩ prog_12_method_16_code 3 (some FieldType.boolean) ∈ px_T := px_inT (px_ins 6 (List.mem_of_getElem? (i := 44) rfl)) rfl
theorem px_q1338 : Jvm.Cond.methodLink "DotScreensModel" 107 ⟨"DotScreensModel", "digits", "(IIIZ)I"⟩ ∈ px_T := px_inT (px_ins 6 (List.mem_of_getElem? (i := 45) rfl)) rfl
theorem px_q1340 : Jvm.Cond.instanceMethod ⟨"DotScreensModel", "digits", "(IIIZ)I"⟩ ∈ px_T := px_inT (px_ins 6 (List.mem_of_getElem? (i := 47) rfl)) rfl
theorem px_q1341 : Jvm.Cond.code ⟨"DotScreensModel", "digits", "(IIIZ)I"⟩ prog_12_method_18_code 7 (some FieldType.int) ∈ px_T := px_inT (px_ins 6 (List.mem_of_getElem? (i := 48) rfl)) rfl
theorem px_q1342 : Jvm.Cond.methodLink "DotScreensModel" 100 ⟨"DotScreensModel", "isDigit", "(I)Z"⟩ ∈ px_T := px_inT (px_ins 6 (List.mem_of_getElem? (i := 49) rfl)) rfl
theorem px_q1343 : Jvm.Cond.static ⟨"DotScreensModel", "isDigit", "(I)Z"⟩ ∈ px_T := px_inT (px_ins 6 (List.mem_of_getElem? (i := 50) rfl)) rfl
theorem px_q1344 : Jvm.Cond.code ⟨"DotScreensModel", "isDigit", "(I)Z"⟩ prog_12_method_17_code 1 (some FieldType.boolean) ∈ px_T := px_inT (px_ins 6 (List.mem_of_getElem? (i := 51) rfl)) rfl
theorem px_q1345 : Jvm.Cond.methodLink "DotScreensModel" 128 ⟨"DotScreensModel", "letterHere", "()I"⟩ ∈ px_T := px_inT (px_ins 6 (List.mem_of_getElem? (i := 52) rfl)) rfl
theorem px_q1347 : Jvm.Cond.instanceMethod ⟨"DotScreensModel", "letterHere", "()I"⟩ ∈ px_T := px_inT (px_ins 6 (List.mem_of_getElem? (i := 54) rfl)) rfl
theorem px_q1348 : Jvm.Cond.code ⟨"DotScreensModel", "letterHere", "()I"⟩ prog_12_method_22_code 2 (some FieldType.int) ∈ px_T := px_inT (px_ins 6 (List.mem_of_getElem? (i := 55) rfl)) rfl
theorem px_q1349 : Jvm.Cond.methodLink "DotScreensModel" 131 ⟨"DotScreensModel", "has", "(II)Z"⟩ ∈ px_T := px_inT (px_ins 6 (List.mem_of_getElem? (i := 56) rfl)) rfl
theorem px_q1350 : Jvm.Cond.static ⟨"DotScreensModel", "has", "(II)Z"⟩ ∈ px_T := px_inT (px_ins 6 (List.mem_of_getElem? (i := 57) rfl)) rfl
theorem px_q1351 : Jvm.Cond.code ⟨"DotScreensModel", "has", "(II)Z"⟩ prog_12_method_2_code 2 (some FieldType.boolean) ∈ px_T := px_inT (px_ins 6 (List.mem_of_getElem? (i := 58) rfl)) rfl
theorem px_q1352 : Jvm.Cond.methodLink "DotScreensModel" 135 ⟨"DotScreensModel", "readLetter", "(II)V"⟩ ∈ px_T := px_inT (px_ins 6 (List.mem_of_getElem? (i := 59) rfl)) rfl
theorem px_q1354 : Jvm.Cond.instanceMethod ⟨"DotScreensModel", "readLetter", "(II)V"⟩ ∈ px_T := px_inT (px_ins 6 (List.mem_of_getElem? (i := 61) rfl)) rfl
theorem px_q1355 : Jvm.Cond.code ⟨"DotScreensModel", "readLetter", "(II)V"⟩ prog_12_method_23_code 4 none ∈ px_T := px_inT (px_ins 6 (List.mem_of_getElem? (i := 62) rfl)) rfl
theorem px_q1356 : Jvm.Cond.methodLink "DotScreensModel" 139 ⟨"DotScreensModel", "cellBy", "(IIII)I"⟩ ∈ px_T := px_inT (px_ins 6 (List.mem_of_getElem? (i := 63) rfl)) rfl
theorem px_q1357 : Jvm.Cond.static ⟨"DotScreensModel", "cellBy", "(IIII)I"⟩ ∈ px_T := px_inT (px_ins 6 (List.mem_of_getElem? (i := 64) rfl)) rfl
theorem px_q1358 : Jvm.Cond.code ⟨"DotScreensModel", "cellBy", "(IIII)I"⟩ prog_12_method_20_code 4 (some FieldType.int) ∈ px_T := px_inT (px_ins 6 (List.mem_of_getElem? (i := 65) rfl)) rfl
theorem px_q1359 : Jvm.Cond.methodLink "DotScreensModel" 3 ⟨"DotScreensModel", "far", "(J)J"⟩ ∈ px_T := px_inT (px_ins 6 (List.mem_of_getElem? (i := 66) rfl)) rfl
theorem px_q1360 : Jvm.Cond.static ⟨"DotScreensModel", "far", "(J)J"⟩ ∈ px_T := px_inT (px_ins 6 (List.mem_of_getElem? (i := 67) rfl)) rfl
theorem px_q1361 : Jvm.Cond.code ⟨"DotScreensModel", "far", "(J)J"⟩ prog_12_method_4_code 2 (some FieldType.long) ∈ px_T := px_inT (px_ins 6 (List.mem_of_getElem? (i := 68) rfl)) rfl
theorem px_q1362 : Jvm.Cond.constantLong "DotScreensModel" 143 144 ∈ px_T := px_inT (px_ins 6 (List.mem_of_getElem? (i := 69) rfl)) rfl
theorem px_q1363 : Jvm.Cond.methodLink "DotScreensLaw" 37 ⟨"DotScreensModel", "text", "()I"⟩ ∈ px_T := px_inT (px_ins 6 (List.mem_of_getElem? (i := 70) rfl)) rfl
theorem px_q1364 : Jvm.Cond.instanceMethod ⟨"DotScreensModel", "text", "()I"⟩ ∈ px_T := px_inT (px_ins 6 (List.mem_of_getElem? (i := 71) rfl)) rfl
theorem px_q1365 : Jvm.Cond.selects "DotScreensModel" ⟨"DotScreensModel", "text", "()I"⟩ ⟨"DotScreensModel", "text", "()I"⟩ ∈ px_T := px_inT (px_ins 6 (List.mem_of_getElem? (i := 72) rfl)) rfl
theorem px_q1366 : Jvm.Cond.code ⟨"DotScreensModel", "text", "()I"⟩ prog_12_method_27_code 2 (some FieldType.int) ∈ px_T := px_inT (px_ins 6 (List.mem_of_getElem? (i := 73) rfl)) rfl
theorem px_q1367 : Jvm.Cond.methodLink "DotScreensLaw" 43 ⟨"DotScreensModel", "ink", "(II)I"⟩ ∈ px_T := px_inT (px_ins 6 (List.mem_of_getElem? (i := 74) rfl)) rfl
theorem px_q1368 : Jvm.Cond.instanceMethod ⟨"DotScreensModel", "ink", "(II)I"⟩ ∈ px_T := px_inT (px_ins 6 (List.mem_of_getElem? (i := 75) rfl)) rfl
theorem px_q1369 : Jvm.Cond.selects "DotScreensModel" ⟨"DotScreensModel", "ink", "(II)I"⟩ ⟨"DotScreensModel", "ink", "(II)I"⟩ ∈ px_T := px_inT (px_ins 6 (List.mem_of_getElem? (i := 76) rfl)) rfl
theorem px_q1370 : Jvm.Cond.code ⟨"DotScreensModel", "ink", "(II)I"⟩ prog_12_method_52_code 3 (some FieldType.int) ∈ px_T := px_inT (px_ins 6 (List.mem_of_getElem? (i := 77) rfl)) rfl
theorem px_q1371 : Jvm.Cond.methodLink "DotScreensModel" 281 ⟨"DotScreensModel", "isInk", "(I)Z"⟩ ∈ px_T := px_inT (px_ins 6 (List.mem_of_getElem? (i := 78) rfl)) rfl
theorem px_q1373 : Jvm.Cond.instanceMethod ⟨"DotScreensModel", "isInk", "(I)Z"⟩ ∈ px_T := px_inT (px_ins 6 (List.mem_of_getElem? (i := 80) rfl)) rfl
theorem px_q1374 : Jvm.Cond.code ⟨"DotScreensModel", "isInk", "(I)Z"⟩ prog_12_method_28_code 2 (some FieldType.boolean) ∈ px_T := px_inT (px_ins 6 (List.mem_of_getElem? (i := 81) rfl)) rfl
theorem px_q1375 : Jvm.Cond.constantLong "DotScreensModel" 284 9 ∈ px_T := px_inT (px_ins 6 (List.mem_of_getElem? (i := 82) rfl)) rfl
theorem px_q1376 : Jvm.Cond.methodLink "DotScreensModel" 161 ⟨"DotScreensModel", "cellOf", "(I)I"⟩ ∈ px_T := px_inT (px_ins 6 (List.mem_of_getElem? (i := 83) rfl)) rfl
theorem px_q1378 : Jvm.Cond.instanceMethod ⟨"DotScreensModel", "cellOf", "(I)I"⟩ ∈ px_T := px_inT (px_ins 6 (List.mem_of_getElem? (i := 85) rfl)) rfl
theorem px_q1379 : Jvm.Cond.code ⟨"DotScreensModel", "cellOf", "(I)I"⟩ prog_12_method_31_code 2 (some FieldType.int) ∈ px_T := px_inT (px_ins 6 (List.mem_of_getElem? (i := 86) rfl)) rfl
theorem px_q1380 : Jvm.Cond.methodLink "DotScreensModel" 158 ⟨"DotScreensModel", "sided", "(I)I"⟩ ∈ px_T := px_inT (px_ins 6 (List.mem_of_getElem? (i := 87) rfl)) rfl
theorem px_q1382 : Jvm.Cond.instanceMethod ⟨"DotScreensModel", "sided", "(I)I"⟩ ∈ px_T := px_inT (px_ins 6 (List.mem_of_getElem? (i := 89) rfl)) rfl
theorem px_q1383 : Jvm.Cond.code ⟨"DotScreensModel", "sided", "(I)I"⟩ prog_12_method_30_code 2 (some FieldType.int) ∈ px_T := px_inT (px_ins 6 (List.mem_of_getElem? (i := 90) rfl)) rfl
theorem px_q1384 : Jvm.Cond.methodLink "DotScreensModel" 154 ⟨"DotScreensModel", "of", "(II)I"⟩ ∈ px_T := px_inT (px_ins 6 (List.mem_of_getElem? (i := 91) rfl)) rfl
theorem px_q1386 : Jvm.Cond.instanceMethod ⟨"DotScreensModel", "of", "(II)I"⟩ ∈ px_T := px_inT (px_ins 6 (List.mem_of_getElem? (i := 93) rfl)) rfl
theorem px_q1387 : Jvm.Cond.code ⟨"DotScreensModel", "of", "(II)I"⟩ prog_12_method_29_code 3 (some FieldType.int) ∈ px_T := px_inT (px_ins 6 (List.mem_of_getElem? (i := 94) rfl)) rfl
theorem px_q1388 : Jvm.Cond.methodLink "DotScreensModel" 286 ⟨"DotScreensModel", "levelOf", "(I)I"⟩ ∈ px_T := px_inT (px_ins 6 (List.mem_of_getElem? (i := 95) rfl)) rfl
theorem px_q1390 : Jvm.Cond.instanceMethod ⟨"DotScreensModel", "levelOf", "(I)I"⟩ ∈ px_T := px_inT (px_ins 6 (List.mem_of_getElem? (i := 97) rfl)) rfl
theorem px_q1391 : Jvm.Cond.code ⟨"DotScreensModel", "levelOf", "(I)I"⟩ prog_12_method_32_code 2 (some FieldType.int) ∈ px_T := px_inT (px_ins 6 (List.mem_of_getElem? (i := 98) rfl)) rfl
theorem px_q1392 : Jvm.Cond.methodLink "DotScreensLaw" 50 ⟨"DotScreensModel", "brick", "(II)I"⟩ ∈ px_T := px_inT (px_ins 6 (List.mem_of_getElem? (i := 99) rfl)) rfl
theorem px_q1393 : Jvm.Cond.instanceMethod ⟨"DotScreensModel", "brick", "(II)I"⟩ ∈ px_T := px_inT (px_ins 6 (List.mem_of_getElem? (i := 100) rfl)) rfl
theorem px_q1394 : Jvm.Cond.selects "DotScreensModel" ⟨"DotScreensModel", "brick", "(II)I"⟩ ⟨"DotScreensModel", "brick", "(II)I"⟩ ∈ px_T := px_inT (px_ins 6 (List.mem_of_getElem? (i := 101) rfl)) rfl
theorem px_q1395 : Jvm.Cond.code ⟨"DotScreensModel", "brick", "(II)I"⟩ prog_12_method_53_code 3 (some FieldType.int) ∈ px_T := px_inT (px_ins 6 (List.mem_of_getElem? (i := 102) rfl)) rfl
theorem px_q1396 : Jvm.Cond.constantLong "DotScreensModel" 184 2 ∈ px_T := px_inT (px_ins 6 (List.mem_of_getElem? (i := 103) rfl)) rfl
theorem px_q1397 : Jvm.Cond.constant "DotScreensModel" 289 (-1000000) ∈ px_T := px_inT (px_ins 6 (List.mem_of_getElem? (i := 104) rfl)) rfl
theorem px_q1398 : Jvm.Cond.methodLink "DotScreensModel" 233 ⟨"DotScreensModel", "laysBrick", "(I)V"⟩ ∈ px_T := px_inT (px_ins 6 (List.mem_of_getElem? (i := 105) rfl)) rfl
theorem px_q1400 : Jvm.Cond.instanceMethod ⟨"DotScreensModel", "laysBrick", "(I)V"⟩ ∈ px_T := px_inT (px_ins 6 (List.mem_of_getElem? (i := 107) rfl)) rfl
theorem px_q1401 : Jvm.Cond.code ⟨"DotScreensModel", "laysBrick", "(I)V"⟩ prog_12_method_33_code 16 none ∈ px_T := px_inT (px_ins 6 (List.mem_of_getElem? (i := 108) rfl)) rfl
theorem px_q1402 : Jvm.Cond.methodLink "DotScreensModel" 171 ⟨"DotScreensModel", "left", "(JJ)J"⟩ ∈ px_T := px_inT (px_ins 6 (List.mem_of_getElem? (i := 109) rfl)) rfl
theorem px_q1403 : Jvm.Cond.static ⟨"DotScreensModel", "left", "(JJ)J"⟩ ∈ px_T := px_inT (px_ins 6 (List.mem_of_getElem? (i := 110) rfl)) rfl
theorem px_q1404 : Jvm.Cond.code ⟨"DotScreensModel", "left", "(JJ)J"⟩ prog_12_method_6_code 6 (some FieldType.long) ∈ px_T := px_inT (px_ins 6 (List.mem_of_getElem? (i := 111) rfl)) rfl
theorem px_q1405 : Jvm.Cond.methodLink "DotScreensLaw" 55 ⟨"DotScreensModel", "home", "(IIII)I"⟩ ∈ px_T := px_inT (px_ins 6 (List.mem_of_getElem? (i := 112) rfl)) rfl
theorem px_q1406 : Jvm.Cond.instanceMethod ⟨"DotScreensModel", "home", "(IIII)I"⟩ ∈ px_T := px_inT (px_ins 6 (List.mem_of_getElem? (i := 113) rfl)) rfl
theorem px_q1407 : Jvm.Cond.selects "DotScreensModel" ⟨"DotScreensModel", "home", "(IIII)I"⟩ ⟨"DotScreensModel", "home", "(IIII)I"⟩ ∈ px_T := px_inT (px_ins 6 (List.mem_of_getElem? (i := 114) rfl)) rfl
theorem px_q1408 : Jvm.Cond.code ⟨"DotScreensModel", "home", "(IIII)I"⟩ prog_12_method_54_code 5 (some FieldType.int) ∈ px_T := px_inT (px_ins 6 (List.mem_of_getElem? (i := 115) rfl)) rfl
theorem px_q1409 : Jvm.Cond.methodLink "DotScreensModel" 290 ⟨"DotScreensModel", "isPixel", "(II)Z"⟩ ∈ px_T := px_inT (px_ins 6 (List.mem_of_getElem? (i := 116) rfl)) rfl
theorem px_q1410 : Jvm.Cond.static ⟨"DotScreensModel", "isPixel", "(II)Z"⟩ ∈ px_T := px_inT (px_ins 6 (List.mem_of_getElem? (i := 117) rfl)) rfl
theorem px_q1411 : Jvm.Cond.code ⟨"DotScreensModel", "isPixel", "(II)Z"⟩ prog_12_method_41_code 2 (some FieldType.boolean) ∈ px_T := px_inT (px_ins 6 (List.mem_of_getElem? (i := 118) rfl)) rfl
theorem px_q1412 : Jvm.Cond.constantLong "DotScreensModel" 215 (-9999) ∈ px_T := px_inT (px_ins 6 (List.mem_of_getElem? (i := 119) rfl)) rfl
theorem px_q1413 : Jvm.Cond.constantLong "DotScreensModel" 217 9999 ∈ px_T := px_inT (px_ins 6 (List.mem_of_getElem? (i := 120) rfl)) rfl
theorem px_q1414 : Jvm.Cond.methodLink "DotScreensModel" 224 ⟨"DotScreensModel", "laysHome", "(II)V"⟩ ∈ px_T := px_inT (px_ins 6 (List.mem_of_getElem? (i := 121) rfl)) rfl
theorem px_q1416 : Jvm.Cond.instanceMethod ⟨"DotScreensModel", "laysHome", "(II)V"⟩ ∈ px_T := px_inT (px_ins 6 (List.mem_of_getElem? (i := 123) rfl)) rfl
theorem px_q1417 : Jvm.Cond.code ⟨"DotScreensModel", "laysHome", "(II)V"⟩ prog_12_method_40_code 5 none ∈ px_T := px_inT (px_ins 6 (List.mem_of_getElem? (i := 124) rfl)) rfl
theorem px_q1418 : Jvm.Cond.methodLink "DotScreensLaw" 59 ⟨"DotScreensModel", "reduced", "(II)I"⟩ ∈ px_T := px_inT (px_ins 6 (List.mem_of_getElem? (i := 125) rfl)) rfl
theorem px_q1419 : Jvm.Cond.instanceMethod ⟨"DotScreensModel", "reduced", "(II)I"⟩ ∈ px_T := px_inT (px_ins 6 (List.mem_of_getElem? (i := 126) rfl)) rfl
theorem px_q1420 : Jvm.Cond.selects "DotScreensModel" ⟨"DotScreensModel", "reduced", "(II)I"⟩ ⟨"DotScreensModel", "reduced", "(II)I"⟩ ∈ px_T := px_inT (px_ins 6 (List.mem_of_getElem? (i := 127) rfl)) rfl
theorem px_q1421 : Jvm.Cond.code ⟨"DotScreensModel", "reduced", "(II)I"⟩ prog_12_method_55_code 3 (some FieldType.int) ∈ px_T := px_inT (px_ins 6 (List.mem_of_getElem? (i := 128) rfl)) rfl
theorem px_q1422 : Jvm.Cond.constantLong "DotScreensModel" 293 3 ∈ px_T := px_inT (px_ins 6 (List.mem_of_getElem? (i := 129) rfl)) rfl
theorem px_q1423 : Jvm.Cond.methodLink "DotScreensModel" 295 ⟨"DotScreensModel", "laysReduced", "()V"⟩ ∈ px_T := px_inT (px_ins 6 (List.mem_of_getElem? (i := 130) rfl)) rfl
theorem px_q1425 : Jvm.Cond.instanceMethod ⟨"DotScreensModel", "laysReduced", "()V"⟩ ∈ px_T := px_inT (px_ins 6 (List.mem_of_getElem? (i := 132) rfl)) rfl
theorem px_q1426 : Jvm.Cond.code ⟨"DotScreensModel", "laysReduced", "()V"⟩ prog_12_method_38_code 16 none ∈ px_T := px_inT (px_ins 6 (List.mem_of_getElem? (i := 133) rfl)) rfl
theorem px_q1427 : Jvm.Cond.methodLink "DotScreensModel" 181 ⟨"DotScreensModel", "squared", "(JJ)J"⟩ ∈ px_T := px_inT (px_ins 6 (List.mem_of_getElem? (i := 134) rfl)) rfl
theorem px_q1428 : Jvm.Cond.static ⟨"DotScreensModel", "squared", "(JJ)J"⟩ ∈ px_T := px_inT (px_ins 6 (List.mem_of_getElem? (i := 135) rfl)) rfl
theorem px_q1429 : Jvm.Cond.code ⟨"DotScreensModel", "squared", "(JJ)J"⟩ prog_12_method_35_code 4 (some FieldType.long) ∈ px_T := px_inT (px_ins 6 (List.mem_of_getElem? (i := 136) rfl)) rfl
theorem px_q1430 : Jvm.Cond.methodLink "DotScreensModel" 186 ⟨"DotScreensModel", "nearest", "(JJ)J"⟩ ∈ px_T := px_inT (px_ins 6 (List.mem_of_getElem? (i := 137) rfl)) rfl
theorem px_q1431 : Jvm.Cond.static ⟨"DotScreensModel", "nearest", "(JJ)J"⟩ ∈ px_T := px_inT (px_ins 6 (List.mem_of_getElem? (i := 138) rfl)) rfl
theorem px_q1432 : Jvm.Cond.code ⟨"DotScreensModel", "nearest", "(JJ)J"⟩ prog_12_method_37_code 8 (some FieldType.long) ∈ px_T := px_inT (px_ins 6 (List.mem_of_getElem? (i := 139) rfl)) rfl
theorem px_q1433 : Jvm.Cond.methodLink "DotScreensModel" 195 ⟨"DotScreensModel", "isAhead", "(JJJJ)Z"⟩ ∈ px_T := px_inT (px_ins 6 (List.mem_of_getElem? (i := 140) rfl)) rfl
theorem px_q1434 : Jvm.Cond.static ⟨"DotScreensModel", "isAhead", "(JJJJ)Z"⟩ ∈ px_T := px_inT (px_ins 6 (List.mem_of_getElem? (i := 141) rfl)) rfl
theorem px_q1435 : Jvm.Cond.code ⟨"DotScreensModel", "isAhead", "(JJJJ)Z"⟩ prog_12_method_36_code 10 (some FieldType.boolean) ∈ px_T := px_inT (px_ins 6 (List.mem_of_getElem? (i := 142) rfl)) rfl
theorem px_q1436 : Jvm.Cond.methodLink "DotScreensModel" 199 ⟨"DotScreensModel", "laysSecond", "(JJJJ)V"⟩ ∈ px_T := px_inT (px_ins 6 (List.mem_of_getElem? (i := 143) rfl)) rfl
theorem px_q1438 : Jvm.Cond.instanceMethod ⟨"DotScreensModel", "laysSecond", "(JJJJ)V"⟩ ∈ px_T := px_inT (px_ins 6 (List.mem_of_getElem? (i := 145) rfl)) rfl
theorem px_q1439 : Jvm.Cond.code ⟨"DotScreensModel", "laysSecond", "(JJJJ)V"⟩ prog_12_method_39_code 18 none ∈ px_T := px_inT (px_ins 6 (List.mem_of_getElem? (i := 146) rfl)) rfl
theorem px_q1440 : Jvm.Cond.methodLink "DotScreensModel" 298 ⟨"DotScreensModel", "reducedBy", "(I)J"⟩ ∈ px_T := px_inT (px_ins 6 (List.mem_of_getElem? (i := 147) rfl)) rfl
theorem px_q1442 : Jvm.Cond.instanceMethod ⟨"DotScreensModel", "reducedBy", "(I)J"⟩ ∈ px_T := px_inT (px_ins 6 (List.mem_of_getElem? (i := 149) rfl)) rfl
theorem px_q1443 : Jvm.Cond.code ⟨"DotScreensModel", "reducedBy", "(I)J"⟩ prog_12_method_56_code 2 (some FieldType.long) ∈ px_T := px_inT (px_ins 6 (List.mem_of_getElem? (i := 150) rfl)) rfl
theorem px_q1444 : Jvm.Cond.methodLink "DotScreensLaw" 64 ⟨"DotScreensModel", "spot", "(III)I"⟩ ∈ px_T := px_inT (px_ins 6 (List.mem_of_getElem? (i := 151) rfl)) rfl
theorem px_q1445 : Jvm.Cond.instanceMethod ⟨"DotScreensModel", "spot", "(III)I"⟩ ∈ px_T := px_inT (px_ins 6 (List.mem_of_getElem? (i := 152) rfl)) rfl
theorem px_q1446 : Jvm.Cond.selects "DotScreensModel" ⟨"DotScreensModel", "spot", "(III)I"⟩ ⟨"DotScreensModel", "spot", "(III)I"⟩ ∈ px_T := px_inT (px_ins 6 (List.mem_of_getElem? (i := 153) rfl)) rfl
theorem px_q1447 : Jvm.Cond.code ⟨"DotScreensModel", "spot", "(III)I"⟩ prog_12_method_57_code 4 (some FieldType.int) ∈ px_T := px_inT (px_ins 6 (List.mem_of_getElem? (i := 154) rfl)) rfl
theorem px_q1448 : Jvm.Cond.methodLink "DotScreensModel" 236 ⟨"DotScreensModel", "spotOf", "(III)I"⟩ ∈ px_T := px_inT (px_ins 6 (List.mem_of_getElem? (i := 155) rfl)) rfl
theorem px_q1450 : Jvm.Cond.instanceMethod ⟨"DotScreensModel", "spotOf", "(III)I"⟩ ∈ px_T := px_inT (px_ins 6 (List.mem_of_getElem? (i := 157) rfl)) rfl
theorem px_q1451 : Jvm.Cond.code ⟨"DotScreensModel", "spotOf", "(III)I"⟩ prog_12_method_43_code 13 (some FieldType.int) ∈ px_T := px_inT (px_ins 6 (List.mem_of_getElem? (i := 158) rfl)) rfl
theorem px_q1452 : Jvm.Cond.methodLink "DotScreensModel" 219 ⟨"java/lang/Math", "min", "(JJ)J"⟩ ∈ px_T := px_inT (px_ins 6 (List.mem_of_getElem? (i := 159) rfl)) rfl
theorem px_q1453 : Jvm.Cond.static ⟨"java/lang/Math", "min", "(JJ)J"⟩ ∈ px_T := px_inT (px_ins 6 (List.mem_of_getElem? (i := 160) rfl)) rfl
theorem px_q1454 : Jvm.Cond.code ⟨"java/lang/Math", "min", "(JJ)J"⟩ prog_16_method_70_code 4 (some FieldType.long) ∈ px_T := px_inT (px_ins 6 (List.mem_of_getElem? (i := 161) rfl)) rfl
theorem px_q1455 : Jvm.Cond.constantLong "DotScreensModel" 227 24 ∈ px_T := px_inT (px_ins 6 (List.mem_of_getElem? (i := 162) rfl)) rfl
theorem px_q1456 : Jvm.Cond.methodLink "DotScreensModel" 229 ⟨"DotScreensModel", "twoNear", "(JJIZ)I"⟩ ∈ px_T := px_inT (px_ins 6 (List.mem_of_getElem? (i := 163) rfl)) rfl
theorem px_q1457 : Jvm.Cond.static ⟨"DotScreensModel", "twoNear", "(JJIZ)I"⟩ ∈ px_T := px_inT (px_ins 6 (List.mem_of_getElem? (i := 164) rfl)) rfl
theorem px_q1458 : Jvm.Cond.code ⟨"DotScreensModel", "twoNear", "(JJIZ)I"⟩ prog_12_method_42_code 12 (some FieldType.int) ∈ px_T := px_inT (px_ins 6 (List.mem_of_getElem? (i := 165) rfl)) rfl
theorem px_q1459 : Jvm.Cond.methodLink "DotScreensLaw" 68 ⟨"DotScreensModel", "rank", "(III)I"⟩ ∈ px_T := px_inT (px_ins 6 (List.mem_of_getElem? (i := 166) rfl)) rfl
theorem px_q1460 : Jvm.Cond.instanceMethod ⟨"DotScreensModel", "rank", "(III)I"⟩ ∈ px_T := px_inT (px_ins 6 (List.mem_of_getElem? (i := 167) rfl)) rfl
theorem px_q1461 : Jvm.Cond.selects "DotScreensModel" ⟨"DotScreensModel", "rank", "(III)I"⟩ ⟨"DotScreensModel", "rank", "(III)I"⟩ ∈ px_T := px_inT (px_ins 6 (List.mem_of_getElem? (i := 168) rfl)) rfl
theorem px_q1462 : Jvm.Cond.code ⟨"DotScreensModel", "rank", "(III)I"⟩ prog_12_method_58_code 4 (some FieldType.int) ∈ px_T := px_inT (px_ins 6 (List.mem_of_getElem? (i := 169) rfl)) rfl
theorem px_q1463 : Jvm.Cond.methodLink "DotScreensModel" 275 ⟨"DotScreensModel", "laysRanks", "(I)V"⟩ ∈ px_T := px_inT (px_ins 6 (List.mem_of_getElem? (i := 170) rfl)) rfl
theorem px_q1465 : Jvm.Cond.instanceMethod ⟨"DotScreensModel", "laysRanks", "(I)V"⟩ ∈ px_T := px_inT (px_ins 6 (List.mem_of_getElem? (i := 172) rfl)) rfl
theorem px_q1466 : Jvm.Cond.code ⟨"DotScreensModel", "laysRanks", "(I)V"⟩ prog_12_method_45_code 7 none ∈ px_T := px_inT (px_ins 6 (List.mem_of_getElem? (i := 173) rfl)) rfl
theorem px_q1467 : Jvm.Cond.methodLink "DotScreensModel" 240 ⟨"DotScreensModel", "homeAt", "(II)I"⟩ ∈ px_T := px_inT (px_ins 6 (List.mem_of_getElem? (i := 174) rfl)) rfl
theorem px_q1469 : Jvm.Cond.instanceMethod ⟨"DotScreensModel", "homeAt", "(II)I"⟩ ∈ px_T := px_inT (px_ins 6 (List.mem_of_getElem? (i := 176) rfl)) rfl
theorem px_q1470 : Jvm.Cond.code ⟨"DotScreensModel", "homeAt", "(II)I"⟩ prog_12_method_44_code 3 (some FieldType.int) ∈ px_T := px_inT (px_ins 6 (List.mem_of_getElem? (i := 177) rfl)) rfl
theorem px_q1471 : Jvm.Cond.methodLink "DotScreensModel" 302 ⟨"DotScreensModel", "rankHere", "(III)I"⟩ ∈ px_T := px_inT (px_ins 6 (List.mem_of_getElem? (i := 178) rfl)) rfl
theorem px_q1473 : Jvm.Cond.instanceMethod ⟨"DotScreensModel", "rankHere", "(III)I"⟩ ∈ px_T := px_inT (px_ins 6 (List.mem_of_getElem? (i := 180) rfl)) rfl
theorem px_q1474 : Jvm.Cond.code ⟨"DotScreensModel", "rankHere", "(III)I"⟩ prog_12_method_47_code 4 (some FieldType.int) ∈ px_T := px_inT (px_ins 6 (List.mem_of_getElem? (i := 181) rfl)) rfl
theorem px_q1475 : Jvm.Cond.methodLink "DotScreensModel" 243 ⟨"DotScreensModel", "rankAt", "(II)I"⟩ ∈ px_T := px_inT (px_ins 6 (List.mem_of_getElem? (i := 182) rfl)) rfl
theorem px_q1477 : Jvm.Cond.instanceMethod ⟨"DotScreensModel", "rankAt", "(II)I"⟩ ∈ px_T := px_inT (px_ins 6 (List.mem_of_getElem? (i := 184) rfl)) rfl
theorem px_q1478 : Jvm.Cond.code ⟨"DotScreensModel", "rankAt", "(II)I"⟩ prog_12_method_46_code 3 (some FieldType.int) ∈ px_T := px_inT (px_ins 6 (List.mem_of_getElem? (i := 185) rfl)) rfl
theorem px_q1479 : Jvm.Cond.methodLink "DotScreensLaw" 72 ⟨"DotScreensModel", "ranked", "(III)I"⟩ ∈ px_T := px_inT (px_ins 6 (List.mem_of_getElem? (i := 186) rfl)) rfl
theorem px_q1480 : Jvm.Cond.instanceMethod ⟨"DotScreensModel", "ranked", "(III)I"⟩ ∈ px_T := px_inT (px_ins 6 (List.mem_of_getElem? (i := 187) rfl)) rfl
theorem px_q1481 : Jvm.Cond.selects "DotScreensModel" ⟨"DotScreensModel", "ranked", "(III)I"⟩ ⟨"DotScreensModel", "ranked", "(III)I"⟩ ∈ px_T := px_inT (px_ins 6 (List.mem_of_getElem? (i := 188) rfl)) rfl
theorem px_q1482 : Jvm.Cond.code ⟨"DotScreensModel", "ranked", "(III)I"⟩ prog_12_method_59_code 4 (some FieldType.int) ∈ px_T := px_inT (px_ins 6 (List.mem_of_getElem? (i := 189) rfl)) rfl
theorem px_q1483 : Jvm.Cond.methodLink "DotScreensLaw" 77 ⟨"DotScreensModel", "inked", "(III)Z"⟩ ∈ px_T := px_inT (px_ins 6 (List.mem_of_getElem? (i := 190) rfl)) rfl
theorem px_q1484 : Jvm.Cond.instanceMethod ⟨"DotScreensModel", "inked", "(III)Z"⟩ ∈ px_T := px_inT (px_ins 6 (List.mem_of_getElem? (i := 191) rfl)) rfl
theorem px_q1485 : Jvm.Cond.selects "DotScreensModel" ⟨"DotScreensModel", "inked", "(III)Z"⟩ ⟨"DotScreensModel", "inked", "(III)Z"⟩ ∈ px_T := px_inT (px_ins 6 (List.mem_of_getElem? (i := 192) rfl)) rfl
theorem px_q1486 : Jvm.Cond.code ⟨"DotScreensModel", "inked", "(III)Z"⟩ prog_12_method_60_code 4 (some FieldType.boolean) ∈ px_T := px_inT (px_ins 6 (List.mem_of_getElem? (i := 193) rfl)) rfl
theorem px_q1487 : Jvm.Cond.methodLink "DotScreensLaw" 81 ⟨"DotScreensModel", "dots", "(II)I"⟩ ∈ px_T := px_inT (px_ins 6 (List.mem_of_getElem? (i := 194) rfl)) rfl
theorem px_q1488 : Jvm.Cond.instanceMethod ⟨"DotScreensModel", "dots", "(II)I"⟩ ∈ px_T := px_inT (px_ins 6 (List.mem_of_getElem? (i := 195) rfl)) rfl
theorem px_q1489 : Jvm.Cond.selects "DotScreensModel" ⟨"DotScreensModel", "dots", "(II)I"⟩ ⟨"DotScreensModel", "dots", "(II)I"⟩ ∈ px_T := px_inT (px_ins 6 (List.mem_of_getElem? (i := 196) rfl)) rfl
theorem px_q1490 : Jvm.Cond.code ⟨"DotScreensModel", "dots", "(II)I"⟩ prog_12_method_61_code 3 (some FieldType.int) ∈ px_T := px_inT (px_ins 6 (List.mem_of_getElem? (i := 197) rfl)) rfl
theorem px_q1491 : Jvm.Cond.methodLink "DotScreensModel" 278 ⟨"DotScreensModel", "laysLots", "(II)V"⟩ ∈ px_T := px_inT (px_ins 6 (List.mem_of_getElem? (i := 198) rfl)) rfl
theorem px_q1493 : Jvm.Cond.instanceMethod ⟨"DotScreensModel", "laysLots", "(II)V"⟩ ∈ px_T := px_inT (px_ins 6 (List.mem_of_getElem? (i := 200) rfl)) rfl
theorem px_q1494 : Jvm.Cond.code ⟨"DotScreensModel", "laysLots", "(II)V"⟩ prog_12_method_50_code 5 none ∈ px_T := px_inT (px_ins 6 (List.mem_of_getElem? (i := 201) rfl)) rfl
theorem px_q1495 : Jvm.Cond.methodLink "DotScreensModel" 272 ⟨"DotScreensModel", "goesFrom", "(II)V"⟩ ∈ px_T := px_inT (px_ins 6 (List.mem_of_getElem? (i := 202) rfl)) rfl
theorem px_q1497 : Jvm.Cond.instanceMethod ⟨"DotScreensModel", "goesFrom", "(II)V"⟩ ∈ px_T := px_inT (px_ins 6 (List.mem_of_getElem? (i := 204) rfl)) rfl
theorem px_q1498 : Jvm.Cond.code ⟨"DotScreensModel", "goesFrom", "(II)V"⟩ prog_12_method_49_code 9 none ∈ px_T := px_inT (px_ins 6 (List.mem_of_getElem? (i := 205) rfl)) rfl
theorem px_q1499 : Jvm.Cond.fieldLink "DotScreensModel" 262 "DotScreensModel" "STEPX" "[I" ∈ px_T := px_inT (px_ins 6 (List.mem_of_getElem? (i := 206) rfl)) rfl
theorem px_q1501 : Jvm.Cond.fieldLink "DotScreensModel" 265 "DotScreensModel" "STEPY" "[I" ∈ px_T := px_inT (px_ins 6 (List.mem_of_getElem? (i := 208) rfl)) rfl
theorem px_q1503 : Jvm.Cond.methodLink "DotScreensModel" 268 ⟨"DotScreensModel", "comesAgain", "(JJ)V"⟩ ∈ px_T := px_inT (px_ins 6 (List.mem_of_getElem? (i := 210) rfl)) rfl
theorem px_q1505 : Jvm.Cond.instanceMethod ⟨"DotScreensModel", "comesAgain", "(JJ)V"⟩ ∈ px_T := px_inT (px_ins 6 (List.mem_of_getElem? (i := 212) rfl)) rfl
theorem px_q1506 : Jvm.Cond.code ⟨"DotScreensModel", "comesAgain", "(JJ)V"⟩ prog_12_method_48_code 5 none ∈ px_T := px_inT (px_ins 6 (List.mem_of_getElem? (i := 213) rfl)) rfl
theorem px_q1507 : Jvm.Cond.methodLink "DotScreensLaw" 85 ⟨"DotScreensModel", "grown", "(II)I"⟩ ∈ px_T := px_inT (px_ins 6 (List.mem_of_getElem? (i := 214) rfl)) rfl
theorem px_q1508 : Jvm.Cond.instanceMethod ⟨"DotScreensModel", "grown", "(II)I"⟩ ∈ px_T := px_inT (px_ins 6 (List.mem_of_getElem? (i := 215) rfl)) rfl
theorem px_q1509 : Jvm.Cond.selects "DotScreensModel" ⟨"DotScreensModel", "grown", "(II)I"⟩ ⟨"DotScreensModel", "grown", "(II)I"⟩ ∈ px_T := px_inT (px_ins 6 (List.mem_of_getElem? (i := 216) rfl)) rfl
theorem px_q1510 : Jvm.Cond.code ⟨"DotScreensModel", "grown", "(II)I"⟩ prog_12_method_62_code 3 (some FieldType.int) ∈ px_T := px_inT (px_ins 6 (List.mem_of_getElem? (i := 217) rfl)) rfl
theorem px_q1511 : Jvm.Cond.methodLink "DotScreensModel" 305 ⟨"DotScreensModel", "grownOf", "(IZ)I"⟩ ∈ px_T := px_inT (px_ins 6 (List.mem_of_getElem? (i := 218) rfl)) rfl
theorem px_q1513 : Jvm.Cond.instanceMethod ⟨"DotScreensModel", "grownOf", "(IZ)I"⟩ ∈ px_T := px_inT (px_ins 6 (List.mem_of_getElem? (i := 220) rfl)) rfl
theorem px_q1514 : Jvm.Cond.code ⟨"DotScreensModel", "grownOf", "(IZ)I"⟩ prog_12_method_51_code 6 (some FieldType.int) ∈ px_T := px_inT (px_ins 6 (List.mem_of_getElem? (i := 221) rfl)) rfl
theorem px_q1515 : Jvm.Cond.methodLink "DotScreensLaw" 89 ⟨"DotScreensModel", "slope", "(II)I"⟩ ∈ px_T := px_inT (px_ins 6 (List.mem_of_getElem? (i := 222) rfl)) rfl
theorem px_q1516 : Jvm.Cond.instanceMethod ⟨"DotScreensModel", "slope", "(II)I"⟩ ∈ px_T := px_inT (px_ins 6 (List.mem_of_getElem? (i := 223) rfl)) rfl
theorem px_q1517 : Jvm.Cond.selects "DotScreensModel" ⟨"DotScreensModel", "slope", "(II)I"⟩ ⟨"DotScreensModel", "slope", "(II)I"⟩ ∈ px_T := px_inT (px_ins 6 (List.mem_of_getElem? (i := 224) rfl)) rfl
theorem px_q1518 : Jvm.Cond.code ⟨"DotScreensModel", "slope", "(II)I"⟩ prog_12_method_64_code 3 (some FieldType.int) ∈ px_T := px_inT (px_ins 6 (List.mem_of_getElem? (i := 225) rfl)) rfl
theorem px_q1519 : Jvm.Cond.methodLink "DotScreensModel" 315 ⟨"DotScreensModel", "laysPair", "(JJ)V"⟩ ∈ px_T := px_inT (px_ins 6 (List.mem_of_getElem? (i := 226) rfl)) rfl
theorem px_q1521 : Jvm.Cond.instanceMethod ⟨"DotScreensModel", "laysPair", "(JJ)V"⟩ ∈ px_T := px_inT (px_ins 6 (List.mem_of_getElem? (i := 228) rfl)) rfl
theorem px_q1522 : Jvm.Cond.code ⟨"DotScreensModel", "laysPair", "(JJ)V"⟩ prog_12_method_63_code 9 none ∈ px_T := px_inT (px_ins 6 (List.mem_of_getElem? (i := 229) rfl)) rfl
theorem px_q1523 : Jvm.Cond.methodLink "DotScreensModel" 178 ⟨"DotScreensModel", "part", "(JJ)J"⟩ ∈ px_T := px_inT (px_ins 6 (List.mem_of_getElem? (i := 230) rfl)) rfl
theorem px_q1524 : Jvm.Cond.static ⟨"DotScreensModel", "part", "(JJ)J"⟩ ∈ px_T := px_inT (px_ins 6 (List.mem_of_getElem? (i := 231) rfl)) rfl
theorem px_q1525 : Jvm.Cond.code ⟨"DotScreensModel", "part", "(JJ)J"⟩ prog_12_method_5_code 10 (some FieldType.long) ∈ px_T := px_inT (px_ins 6 (List.mem_of_getElem? (i := 232) rfl)) rfl
theorem px_q1526 : Jvm.Cond.methodLink "DotScreensLaw" 93 ⟨"DotScreensModel", "turn", "(III)I"⟩ ∈ px_T := px_inT (px_ins 6 (List.mem_of_getElem? (i := 233) rfl)) rfl
theorem px_q1527 : Jvm.Cond.instanceMethod ⟨"DotScreensModel", "turn", "(III)I"⟩ ∈ px_T := px_inT (px_ins 6 (List.mem_of_getElem? (i := 234) rfl)) rfl
theorem px_q1528 : Jvm.Cond.selects "DotScreensModel" ⟨"DotScreensModel", "turn", "(III)I"⟩ ⟨"DotScreensModel", "turn", "(III)I"⟩ ∈ px_T := px_inT (px_ins 6 (List.mem_of_getElem? (i := 235) rfl)) rfl
theorem px_q1529 : Jvm.Cond.code ⟨"DotScreensModel", "turn", "(III)I"⟩ prog_12_method_65_code 4 (some FieldType.int) ∈ px_T := px_inT (px_ins 6 (List.mem_of_getElem? (i := 236) rfl)) rfl
theorem px_q1530 : Jvm.Cond.methodLink "DotScreensModel" 318 ⟨"java/lang/Math", "max", "(JJ)J"⟩ ∈ px_T := px_inT (px_ins 6 (List.mem_of_getElem? (i := 237) rfl)) rfl
theorem px_q1531 : Jvm.Cond.static ⟨"java/lang/Math", "max", "(JJ)J"⟩ ∈ px_T := px_inT (px_ins 6 (List.mem_of_getElem? (i := 238) rfl)) rfl
theorem px_q1532 : Jvm.Cond.code ⟨"java/lang/Math", "max", "(JJ)J"⟩ prog_16_method_66_code 4 (some FieldType.long) ∈ px_T := px_inT (px_ins 6 (List.mem_of_getElem? (i := 239) rfl)) rfl
theorem px_q1533 : Jvm.Cond.methodLink "DotScreensLaw" 97 ⟨"DotScreensModel", "beat", "(III)I"⟩ ∈ px_T := px_inT (px_ins 7 (List.mem_of_getElem? (i := 0) rfl)) rfl
theorem px_q1534 : Jvm.Cond.instanceMethod ⟨"DotScreensModel", "beat", "(III)I"⟩ ∈ px_T := px_inT (px_ins 7 (List.mem_of_getElem? (i := 1) rfl)) rfl
theorem px_q1535 : Jvm.Cond.selects "DotScreensModel" ⟨"DotScreensModel", "beat", "(III)I"⟩ ⟨"DotScreensModel", "beat", "(III)I"⟩ ∈ px_T := px_inT (px_ins 7 (List.mem_of_getElem? (i := 2) rfl)) rfl
theorem px_q1536 : Jvm.Cond.code ⟨"DotScreensModel", "beat", "(III)I"⟩ prog_12_method_69_code 4 (some FieldType.int) ∈ px_T := px_inT (px_ins 7 (List.mem_of_getElem? (i := 3) rfl)) rfl
theorem px_q1537 : Jvm.Cond.constantLong "DotScreensModel" 344 4 ∈ px_T := px_inT (px_ins 7 (List.mem_of_getElem? (i := 4) rfl)) rfl
theorem px_q1538 : Jvm.Cond.methodLink "DotScreensModel" 346 ⟨"DotScreensModel", "laysBeatOf", "(II)V"⟩ ∈ px_T := px_inT (px_ins 7 (List.mem_of_getElem? (i := 5) rfl)) rfl
theorem px_q1540 : Jvm.Cond.instanceMethod ⟨"DotScreensModel", "laysBeatOf", "(II)V"⟩ ∈ px_T := px_inT (px_ins 7 (List.mem_of_getElem? (i := 7) rfl)) rfl
theorem px_q1541 : Jvm.Cond.code ⟨"DotScreensModel", "laysBeatOf", "(II)V"⟩ prog_12_method_68_code 3 none ∈ px_T := px_inT (px_ins 7 (List.mem_of_getElem? (i := 8) rfl)) rfl
theorem px_q1542 : Jvm.Cond.methodLink "DotScreensModel" 340 ⟨"DotScreensModel", "laysBeat", "(IIIIIIII)V"⟩ ∈ px_T := px_inT (px_ins 7 (List.mem_of_getElem? (i := 9) rfl)) rfl
theorem px_q1544 : Jvm.Cond.instanceMethod ⟨"DotScreensModel", "laysBeat", "(IIIIIIII)V"⟩ ∈ px_T := px_inT (px_ins 7 (List.mem_of_getElem? (i := 11) rfl)) rfl
theorem px_q1545 : Jvm.Cond.code ⟨"DotScreensModel", "laysBeat", "(IIIIIIII)V"⟩ prog_12_method_67_code 20 none ∈ px_T := px_inT (px_ins 7 (List.mem_of_getElem? (i := 12) rfl)) rfl
theorem px_q1546 : Jvm.Cond.methodLink "DotScreensModel" 324 ⟨"DotScreensModel", "wave", "(IIIIIZ)J"⟩ ∈ px_T := px_inT (px_ins 7 (List.mem_of_getElem? (i := 13) rfl)) rfl
theorem px_q1547 : Jvm.Cond.static ⟨"DotScreensModel", "wave", "(IIIIIZ)J"⟩ ∈ px_T := px_inT (px_ins 7 (List.mem_of_getElem? (i := 14) rfl)) rfl
theorem px_q1548 : Jvm.Cond.code ⟨"DotScreensModel", "wave", "(IIIIIZ)J"⟩ prog_12_method_66_code 8 (some FieldType.long) ∈ px_T := px_inT (px_ins 7 (List.mem_of_getElem? (i := 15) rfl)) rfl
theorem px_q1549 : Jvm.Cond.methodLink "DotScreensLaw" 102 ⟨"DotScreensModel", "far", "(III)J"⟩ ∈ px_T := px_inT (px_ins 7 (List.mem_of_getElem? (i := 16) rfl)) rfl
theorem px_q1550 : Jvm.Cond.instanceMethod ⟨"DotScreensModel", "far", "(III)J"⟩ ∈ px_T := px_inT (px_ins 7 (List.mem_of_getElem? (i := 17) rfl)) rfl
theorem px_q1551 : Jvm.Cond.selects "DotScreensModel" ⟨"DotScreensModel", "far", "(III)J"⟩ ⟨"DotScreensModel", "far", "(III)J"⟩ ∈ px_T := px_inT (px_ins 7 (List.mem_of_getElem? (i := 18) rfl)) rfl
theorem px_q1552 : Jvm.Cond.code ⟨"DotScreensModel", "far", "(III)J"⟩ prog_12_method_72_code 10 (some FieldType.long) ∈ px_T := px_inT (px_ins 7 (List.mem_of_getElem? (i := 19) rfl)) rfl
theorem px_q1553 : Jvm.Cond.constantLong "DotScreensModel" 351 (-1000000) ∈ px_T := px_inT (px_ins 7 (List.mem_of_getElem? (i := 20) rfl)) rfl
theorem px_q1554 : Jvm.Cond.methodLink "DotScreensModel" 353 ⟨"DotScreensModel", "upperOf", "(II)J"⟩ ∈ px_T := px_inT (px_ins 7 (List.mem_of_getElem? (i := 21) rfl)) rfl
theorem px_q1556 : Jvm.Cond.instanceMethod ⟨"DotScreensModel", "upperOf", "(II)J"⟩ ∈ px_T := px_inT (px_ins 7 (List.mem_of_getElem? (i := 23) rfl)) rfl
theorem px_q1557 : Jvm.Cond.code ⟨"DotScreensModel", "upperOf", "(II)J"⟩ prog_12_method_71_code 5 (some FieldType.long) ∈ px_T := px_inT (px_ins 7 (List.mem_of_getElem? (i := 24) rfl)) rfl
theorem px_q1558 : Jvm.Cond.methodLink "DotScreensModel" 357 ⟨"DotScreensModel", "rootOf", "(J)J"⟩ ∈ px_T := px_inT (px_ins 7 (List.mem_of_getElem? (i := 25) rfl)) rfl
theorem px_q1559 : Jvm.Cond.static ⟨"DotScreensModel", "rootOf", "(J)J"⟩ ∈ px_T := px_inT (px_ins 7 (List.mem_of_getElem? (i := 26) rfl)) rfl
theorem px_q1560 : Jvm.Cond.code ⟨"DotScreensModel", "rootOf", "(J)J"⟩ prog_12_method_70_code 6 (some FieldType.long) ∈ px_T := px_inT (px_ins 7 (List.mem_of_getElem? (i := 27) rfl)) rfl
theorem px_q1561 : Jvm.Cond.constantLong "DotScreensModel" 349 1048576 ∈ px_T := px_inT (px_ins 7 (List.mem_of_getElem? (i := 28) rfl)) rfl
theorem px_q1562 : Jvm.Cond.methodLink "DotScreensLaw" 107 ⟨"DotScreensModel", "common", "(II)J"⟩ ∈ px_T := px_inT (px_ins 7 (List.mem_of_getElem? (i := 29) rfl)) rfl
theorem px_q1563 : Jvm.Cond.instanceMethod ⟨"DotScreensModel", "common", "(II)J"⟩ ∈ px_T := px_inT (px_ins 7 (List.mem_of_getElem? (i := 30) rfl)) rfl
theorem px_q1564 : Jvm.Cond.selects "DotScreensModel" ⟨"DotScreensModel", "common", "(II)J"⟩ ⟨"DotScreensModel", "common", "(II)J"⟩ ∈ px_T := px_inT (px_ins 7 (List.mem_of_getElem? (i := 31) rfl)) rfl
theorem px_q1565 : Jvm.Cond.code ⟨"DotScreensModel", "common", "(II)J"⟩ prog_12_method_76_code 3 (some FieldType.long) ∈ px_T := px_inT (px_ins 7 (List.mem_of_getElem? (i := 32) rfl)) rfl
theorem px_q1566 : Jvm.Cond.methodLink "DotScreensModel" 364 ⟨"DotScreensModel", "isSet", "(I)Z"⟩ ∈ px_T := px_inT (px_ins 7 (List.mem_of_getElem? (i := 33) rfl)) rfl
theorem px_q1568 : Jvm.Cond.instanceMethod ⟨"DotScreensModel", "isSet", "(I)Z"⟩ ∈ px_T := px_inT (px_ins 7 (List.mem_of_getElem? (i := 35) rfl)) rfl
theorem px_q1569 : Jvm.Cond.code ⟨"DotScreensModel", "isSet", "(I)Z"⟩ prog_12_method_75_code 2 (some FieldType.boolean) ∈ px_T := px_inT (px_ins 7 (List.mem_of_getElem? (i := 36) rfl)) rfl
theorem px_q1570 : Jvm.Cond.constantLong "DotScreensModel" 367 8 ∈ px_T := px_inT (px_ins 7 (List.mem_of_getElem? (i := 37) rfl)) rfl
theorem px_q1571 : Jvm.Cond.methodLink "DotScreensModel" 369 ⟨"DotScreensModel", "laysCommon", "(I)V"⟩ ∈ px_T := px_inT (px_ins 7 (List.mem_of_getElem? (i := 38) rfl)) rfl
theorem px_q1573 : Jvm.Cond.instanceMethod ⟨"DotScreensModel", "laysCommon", "(I)V"⟩ ∈ px_T := px_inT (px_ins 7 (List.mem_of_getElem? (i := 40) rfl)) rfl
theorem px_q1574 : Jvm.Cond.code ⟨"DotScreensModel", "laysCommon", "(I)V"⟩ prog_12_method_73_code 16 none ∈ px_T := px_inT (px_ins 7 (List.mem_of_getElem? (i := 41) rfl)) rfl
theorem px_q1575 : Jvm.Cond.methodLink "DotScreensModel" 360 ⟨"DotScreensModel", "meets", "(JJJ)V"⟩ ∈ px_T := px_inT (px_ins 7 (List.mem_of_getElem? (i := 42) rfl)) rfl
theorem px_q1577 : Jvm.Cond.instanceMethod ⟨"DotScreensModel", "meets", "(JJJ)V"⟩ ∈ px_T := px_inT (px_ins 7 (List.mem_of_getElem? (i := 44) rfl)) rfl
theorem px_q1578 : Jvm.Cond.code ⟨"DotScreensModel", "meets", "(JJJ)V"⟩ prog_12_method_34_code 25 none ∈ px_T := px_inT (px_ins 7 (List.mem_of_getElem? (i := 45) rfl)) rfl
theorem px_q1579 : Jvm.Cond.methodLink "DotScreensModel" 372 ⟨"DotScreensModel", "superCell", "()J"⟩ ∈ px_T := px_inT (px_ins 7 (List.mem_of_getElem? (i := 46) rfl)) rfl
theorem px_q1581 : Jvm.Cond.instanceMethod ⟨"DotScreensModel", "superCell", "()J"⟩ ∈ px_T := px_inT (px_ins 7 (List.mem_of_getElem? (i := 48) rfl)) rfl
theorem px_q1582 : Jvm.Cond.code ⟨"DotScreensModel", "superCell", "()J"⟩ prog_12_method_74_code 3 (some FieldType.long) ∈ px_T := px_inT (px_ins 7 (List.mem_of_getElem? (i := 49) rfl)) rfl
theorem px_q1583 : Jvm.Cond.methodLink "DotScreensLaw" 111 ⟨"DotScreensModel", "inCell", "(II)J"⟩ ∈ px_T := px_inT (px_ins 7 (List.mem_of_getElem? (i := 50) rfl)) rfl
theorem px_q1584 : Jvm.Cond.instanceMethod ⟨"DotScreensModel", "inCell", "(II)J"⟩ ∈ px_T := px_inT (px_ins 7 (List.mem_of_getElem? (i := 51) rfl)) rfl
theorem px_q1585 : Jvm.Cond.selects "DotScreensModel" ⟨"DotScreensModel", "inCell", "(II)J"⟩ ⟨"DotScreensModel", "inCell", "(II)J"⟩ ∈ px_T := px_inT (px_ins 7 (List.mem_of_getElem? (i := 52) rfl)) rfl
theorem px_q1586 : Jvm.Cond.code ⟨"DotScreensModel", "inCell", "(II)J"⟩ prog_12_method_77_code 5 (some FieldType.long) ∈ px_T := px_inT (px_ins 7 (List.mem_of_getElem? (i := 53) rfl)) rfl
theorem px_q1587 : Jvm.Cond.methodLink "DotScreensLaw" 115 ⟨"DotScreensModel", "overlay", "(II)I"⟩ ∈ px_T := px_inT (px_ins 7 (List.mem_of_getElem? (i := 54) rfl)) rfl
theorem px_q1588 : Jvm.Cond.instanceMethod ⟨"DotScreensModel", "overlay", "(II)I"⟩ ∈ px_T := px_inT (px_ins 7 (List.mem_of_getElem? (i := 55) rfl)) rfl
theorem px_q1589 : Jvm.Cond.selects "DotScreensModel" ⟨"DotScreensModel", "overlay", "(II)I"⟩ ⟨"DotScreensModel", "overlay", "(II)I"⟩ ∈ px_T := px_inT (px_ins 7 (List.mem_of_getElem? (i := 56) rfl)) rfl
theorem px_q1590 : Jvm.Cond.code ⟨"DotScreensModel", "overlay", "(II)I"⟩ prog_12_method_79_code 3 (some FieldType.int) ∈ px_T := px_inT (px_ins 7 (List.mem_of_getElem? (i := 57) rfl)) rfl
theorem px_q1591 : Jvm.Cond.methodLink "DotScreensModel" 376 ⟨"DotScreensModel", "laysRow", "(III)V"⟩ ∈ px_T := px_inT (px_ins 7 (List.mem_of_getElem? (i := 58) rfl)) rfl
theorem px_q1593 : Jvm.Cond.instanceMethod ⟨"DotScreensModel", "laysRow", "(III)V"⟩ ∈ px_T := px_inT (px_ins 7 (List.mem_of_getElem? (i := 60) rfl)) rfl
theorem px_q1594 : Jvm.Cond.code ⟨"DotScreensModel", "laysRow", "(III)V"⟩ prog_12_method_78_code 7 none ∈ px_T := px_inT (px_ins 7 (List.mem_of_getElem? (i := 61) rfl)) rfl
theorem px_q1595 : Jvm.Cond.methodLink "DotScreensLaw" 120 ⟨"DotScreensModel", "window", "(IIIIII)I"⟩ ∈ px_T := px_inT (px_ins 7 (List.mem_of_getElem? (i := 62) rfl)) rfl
theorem px_q1596 : Jvm.Cond.instanceMethod ⟨"DotScreensModel", "window", "(IIIIII)I"⟩ ∈ px_T := px_inT (px_ins 7 (List.mem_of_getElem? (i := 63) rfl)) rfl
theorem px_q1597 : Jvm.Cond.selects "DotScreensModel" ⟨"DotScreensModel", "window", "(IIIIII)I"⟩ ⟨"DotScreensModel", "window", "(IIIIII)I"⟩ ∈ px_T := px_inT (px_ins 7 (List.mem_of_getElem? (i := 64) rfl)) rfl
theorem px_q1598 : Jvm.Cond.code ⟨"DotScreensModel", "window", "(IIIIII)I"⟩ prog_12_method_82_code 9 (some FieldType.int) ∈ px_T := px_inT (px_ins 7 (List.mem_of_getElem? (i := 65) rfl)) rfl
theorem px_q1599 : Jvm.Cond.methodLink "DotScreensModel" 386 ⟨"DotScreensModel", "isWindow", "(IIII)Z"⟩ ∈ px_T := px_inT (px_ins 7 (List.mem_of_getElem? (i := 66) rfl)) rfl
theorem px_q1600 : Jvm.Cond.static ⟨"DotScreensModel", "isWindow", "(IIII)Z"⟩ ∈ px_T := px_inT (px_ins 7 (List.mem_of_getElem? (i := 67) rfl)) rfl
theorem px_q1601 : Jvm.Cond.code ⟨"DotScreensModel", "isWindow", "(IIII)Z"⟩ prog_12_method_80_code 4 (some FieldType.boolean) ∈ px_T := px_inT (px_ins 7 (List.mem_of_getElem? (i := 68) rfl)) rfl
theorem px_q1602 : Jvm.Cond.constantLong "DotScreensModel" 380 (-999) ∈ px_T := px_inT (px_ins 7 (List.mem_of_getElem? (i := 69) rfl)) rfl
theorem px_q1603 : Jvm.Cond.constantLong "DotScreensModel" 382 999 ∈ px_T := px_inT (px_ins 7 (List.mem_of_getElem? (i := 70) rfl)) rfl
theorem px_q1604 : Jvm.Cond.constantLong "DotScreensModel" 384 32 ∈ px_T := px_inT (px_ins 7 (List.mem_of_getElem? (i := 71) rfl)) rfl
theorem px_q1605 : Jvm.Cond.methodLink "DotScreensModel" 390 ⟨"DotScreensModel", "counts", "(IIII)V"⟩ ∈ px_T := px_inT (px_ins 7 (List.mem_of_getElem? (i := 72) rfl)) rfl
theorem px_q1607 : Jvm.Cond.instanceMethod ⟨"DotScreensModel", "counts", "(IIII)V"⟩ ∈ px_T := px_inT (px_ins 7 (List.mem_of_getElem? (i := 74) rfl)) rfl
theorem px_q1608 : Jvm.Cond.code ⟨"DotScreensModel", "counts", "(IIII)V"⟩ prog_12_method_81_code 7 none ∈ px_T := px_inT (px_ins 7 (List.mem_of_getElem? (i := 75) rfl)) rfl
theorem px_q1609 : Jvm.Cond.methodLink "DotScreensModel" 394 ⟨"DotScreensModel", "bits", "(I)I"⟩ ∈ px_T := px_inT (px_ins 7 (List.mem_of_getElem? (i := 76) rfl)) rfl
theorem px_q1610 : Jvm.Cond.static ⟨"DotScreensModel", "bits", "(I)I"⟩ ∈ px_T := px_inT (px_ins 7 (List.mem_of_getElem? (i := 77) rfl)) rfl
theorem px_q1611 : Jvm.Cond.code ⟨"DotScreensModel", "bits", "(I)I"⟩ prog_12_method_3_code 3 (some FieldType.int) ∈ px_T := px_inT (px_ins 7 (List.mem_of_getElem? (i := 78) rfl)) rfl
theorem px_q1612 : Jvm.Cond.methodLink "DotScreensLaw" 124 ⟨"DotScreensModel", "densest", "(IIII)I"⟩ ∈ px_T := px_inT (px_ins 7 (List.mem_of_getElem? (i := 79) rfl)) rfl
theorem px_q1613 : Jvm.Cond.instanceMethod ⟨"DotScreensModel", "densest", "(IIII)I"⟩ ∈ px_T := px_inT (px_ins 7 (List.mem_of_getElem? (i := 80) rfl)) rfl
theorem px_q1614 : Jvm.Cond.selects "DotScreensModel" ⟨"DotScreensModel", "densest", "(IIII)I"⟩ ⟨"DotScreensModel", "densest", "(IIII)I"⟩ ∈ px_T := px_inT (px_ins 7 (List.mem_of_getElem? (i := 81) rfl)) rfl
theorem px_q1615 : Jvm.Cond.code ⟨"DotScreensModel", "densest", "(IIII)I"⟩ prog_12_method_83_code 7 (some FieldType.int) ∈ px_T := px_inT (px_ins 7 (List.mem_of_getElem? (i := 82) rfl)) rfl
theorem px_q1616 : Jvm.Cond.methodLink "DotScreensModel" 397 ⟨"java/lang/Math", "max", "(II)I"⟩ ∈ px_T := px_inT (px_ins 7 (List.mem_of_getElem? (i := 83) rfl)) rfl
theorem px_q1617 : Jvm.Cond.methodLink "DotScreensLaw" 128 ⟨"DotScreensModel", "next", "(III)I"⟩ ∈ px_T := px_inT (px_ins 7 (List.mem_of_getElem? (i := 84) rfl)) rfl
theorem px_q1618 : Jvm.Cond.instanceMethod ⟨"DotScreensModel", "next", "(III)I"⟩ ∈ px_T := px_inT (px_ins 7 (List.mem_of_getElem? (i := 85) rfl)) rfl
theorem px_q1619 : Jvm.Cond.selects "DotScreensModel" ⟨"DotScreensModel", "next", "(III)I"⟩ ⟨"DotScreensModel", "next", "(III)I"⟩ ∈ px_T := px_inT (px_ins 7 (List.mem_of_getElem? (i := 86) rfl)) rfl
theorem px_q1620 : Jvm.Cond.code ⟨"DotScreensModel", "next", "(III)I"⟩ prog_12_method_84_code 5 (some FieldType.int) ∈ px_T := px_inT (px_ins 7 (List.mem_of_getElem? (i := 87) rfl)) rfl
theorem px_q1621 : Jvm.Cond.constantLong "DotScreensModel" 399 15 ∈ px_T := px_inT (px_ins 7 (List.mem_of_getElem? (i := 88) rfl)) rfl
theorem px_q1622 : Jvm.Cond.methodLink "DotScreensLaw" 133 ⟨"DotScreensModel", "choose", "(IIIZII)I"⟩ ∈ px_T := px_inT (px_ins 7 (List.mem_of_getElem? (i := 89) rfl)) rfl
theorem px_q1623 : Jvm.Cond.instanceMethod ⟨"DotScreensModel", "choose", "(IIIZII)I"⟩ ∈ px_T := px_inT (px_ins 7 (List.mem_of_getElem? (i := 90) rfl)) rfl
theorem px_q1624 : Jvm.Cond.selects "DotScreensModel" ⟨"DotScreensModel", "choose", "(IIIZII)I"⟩ ⟨"DotScreensModel", "choose", "(IIIZII)I"⟩ ∈ px_T := px_inT (px_ins 7 (List.mem_of_getElem? (i := 91) rfl)) rfl
theorem px_q1625 : Jvm.Cond.code ⟨"DotScreensModel", "choose", "(IIIZII)I"⟩ prog_12_method_89_code 8 (some FieldType.int) ∈ px_T := px_inT (px_ins 7 (List.mem_of_getElem? (i := 92) rfl)) rfl
theorem px_q1626 : Jvm.Cond.methodLink "DotScreensModel" 431 ⟨"DotScreensModel", "laysSquares", "(II)V"⟩ ∈ px_T := px_inT (px_ins 7 (List.mem_of_getElem? (i := 93) rfl)) rfl
theorem px_q1628 : Jvm.Cond.instanceMethod ⟨"DotScreensModel", "laysSquares", "(II)V"⟩ ∈ px_T := px_inT (px_ins 7 (List.mem_of_getElem? (i := 95) rfl)) rfl
theorem px_q1629 : Jvm.Cond.code ⟨"DotScreensModel", "laysSquares", "(II)V"⟩ prog_12_method_85_code 6 none ∈ px_T := px_inT (px_ins 7 (List.mem_of_getElem? (i := 96) rfl)) rfl
theorem px_q1630 : Jvm.Cond.constantLong "DotScreensModel" 425 (-1) ∈ px_T := px_inT (px_ins 7 (List.mem_of_getElem? (i := 97) rfl)) rfl
theorem px_q1631 : Jvm.Cond.methodLink "DotScreensModel" 427 ⟨"DotScreensModel", "tries", "([IIIJJZ)V"⟩ ∈ px_T := px_inT (px_ins 7 (List.mem_of_getElem? (i := 98) rfl)) rfl
theorem px_q1633 : Jvm.Cond.instanceMethod ⟨"DotScreensModel", "tries", "([IIIJJZ)V"⟩ ∈ px_T := px_inT (px_ins 7 (List.mem_of_getElem? (i := 100) rfl)) rfl
theorem px_q1634 : Jvm.Cond.code ⟨"DotScreensModel", "tries", "([IIIJJZ)V"⟩ prog_12_method_88_code 16 none ∈ px_T := px_inT (px_ins 7 (List.mem_of_getElem? (i := 101) rfl)) rfl
theorem px_q1635 : Jvm.Cond.methodLink "DotScreensModel" 422 ⟨"DotScreensModel", "laysFar", "(II)V"⟩ ∈ px_T := px_inT (px_ins 7 (List.mem_of_getElem? (i := 102) rfl)) rfl
theorem px_q1637 : Jvm.Cond.instanceMethod ⟨"DotScreensModel", "laysFar", "(II)V"⟩ ∈ px_T := px_inT (px_ins 7 (List.mem_of_getElem? (i := 104) rfl)) rfl
theorem px_q1638 : Jvm.Cond.code ⟨"DotScreensModel", "laysFar", "(II)V"⟩ prog_12_method_87_code 5 none ∈ px_T := px_inT (px_ins 7 (List.mem_of_getElem? (i := 105) rfl)) rfl
theorem px_q1639 : Jvm.Cond.methodLink "DotScreensModel" 404 ⟨"DotScreensModel", "cellOfSquare", "(II)I"⟩ ∈ px_T := px_inT (px_ins 7 (List.mem_of_getElem? (i := 106) rfl)) rfl
theorem px_q1640 : Jvm.Cond.static ⟨"DotScreensModel", "cellOfSquare", "(II)I"⟩ ∈ px_T := px_inT (px_ins 7 (List.mem_of_getElem? (i := 107) rfl)) rfl
theorem px_q1641 : Jvm.Cond.code ⟨"DotScreensModel", "cellOfSquare", "(II)I"⟩ prog_12_method_86_code 2 (some FieldType.int) ∈ px_T := px_inT (px_ins 7 (List.mem_of_getElem? (i := 108) rfl)) rfl
theorem px_q1642 : Jvm.Cond.methodLink "DotScreensLaw" 137 ⟨"DotScreensModel", "bestTurn", "(II)I"⟩ ∈ px_T := px_inT (px_ins 7 (List.mem_of_getElem? (i := 109) rfl)) rfl
theorem px_q1643 : Jvm.Cond.instanceMethod ⟨"DotScreensModel", "bestTurn", "(II)I"⟩ ∈ px_T := px_inT (px_ins 7 (List.mem_of_getElem? (i := 110) rfl)) rfl
theorem px_q1644 : Jvm.Cond.selects "DotScreensModel" ⟨"DotScreensModel", "bestTurn", "(II)I"⟩ ⟨"DotScreensModel", "bestTurn", "(II)I"⟩ ∈ px_T := px_inT (px_ins 7 (List.mem_of_getElem? (i := 111) rfl)) rfl
theorem px_q1645 : Jvm.Cond.code ⟨"DotScreensModel", "bestTurn", "(II)I"⟩ prog_12_method_90_code 19 (some FieldType.int) ∈ px_T := px_inT (px_ins 7 (List.mem_of_getElem? (i := 112) rfl)) rfl
theorem px_q1646 : Jvm.Cond.methodLink "DotScreensLaw" 141 ⟨"DotScreensModel", "screen", "(IIIII)I"⟩ ∈ px_T := px_inT (px_ins 7 (List.mem_of_getElem? (i := 113) rfl)) rfl
theorem px_q1647 : Jvm.Cond.instanceMethod ⟨"DotScreensModel", "screen", "(IIIII)I"⟩ ∈ px_T := px_inT (px_ins 7 (List.mem_of_getElem? (i := 114) rfl)) rfl
theorem px_q1648 : Jvm.Cond.selects "DotScreensModel" ⟨"DotScreensModel", "screen", "(IIIII)I"⟩ ⟨"DotScreensModel", "screen", "(IIIII)I"⟩ ∈ px_T := px_inT (px_ins 7 (List.mem_of_getElem? (i := 115) rfl)) rfl
theorem px_q1649 : Jvm.Cond.code ⟨"DotScreensModel", "screen", "(IIIII)I"⟩ prog_12_method_94_code 7 (some FieldType.int) ∈ px_T := px_inT (px_ins 7 (List.mem_of_getElem? (i := 116) rfl)) rfl
theorem px_q1650 : Jvm.Cond.methodLink "DotScreensModel" 438 ⟨"DotScreensModel", "refuses", "(I)I"⟩ ∈ px_T := px_inT (px_ins 7 (List.mem_of_getElem? (i := 117) rfl)) rfl
theorem px_q1652 : Jvm.Cond.instanceMethod ⟨"DotScreensModel", "refuses", "(I)I"⟩ ∈ px_T := px_inT (px_ins 7 (List.mem_of_getElem? (i := 119) rfl)) rfl
theorem px_q1653 : Jvm.Cond.code ⟨"DotScreensModel", "refuses", "(I)I"⟩ prog_12_method_91_code 2 (some FieldType.int) ∈ px_T := px_inT (px_ins 7 (List.mem_of_getElem? (i := 120) rfl)) rfl
theorem px_q1654 : Jvm.Cond.methodLink "DotScreensModel" 441 ⟨"DotScreensModel", "isSide", "(I)Z"⟩ ∈ px_T := px_inT (px_ins 7 (List.mem_of_getElem? (i := 121) rfl)) rfl
theorem px_q1655 : Jvm.Cond.static ⟨"DotScreensModel", "isSide", "(I)Z"⟩ ∈ px_T := px_inT (px_ins 7 (List.mem_of_getElem? (i := 122) rfl)) rfl
theorem px_q1656 : Jvm.Cond.code ⟨"DotScreensModel", "isSide", "(I)Z"⟩ prog_12_method_93_code 1 (some FieldType.boolean) ∈ px_T := px_inT (px_ins 7 (List.mem_of_getElem? (i := 123) rfl)) rfl
theorem px_q1657 : Jvm.Cond.constantLong "DotScreensModel" 434 (-12) ∈ px_T := px_inT (px_ins 7 (List.mem_of_getElem? (i := 124) rfl)) rfl
theorem px_q1658 : Jvm.Cond.constantLong "DotScreensModel" 436 12 ∈ px_T := px_inT (px_ins 7 (List.mem_of_getElem? (i := 125) rfl)) rfl
theorem px_q1659 : Jvm.Cond.methodLink "DotScreensModel" 444 ⟨"DotScreensModel", "put", "(III)V"⟩ ∈ px_T := px_inT (px_ins 7 (List.mem_of_getElem? (i := 126) rfl)) rfl
theorem px_q1661 : Jvm.Cond.instanceMethod ⟨"DotScreensModel", "put", "(III)V"⟩ ∈ px_T := px_inT (px_ins 7 (List.mem_of_getElem? (i := 128) rfl)) rfl
theorem px_q1662 : Jvm.Cond.code ⟨"DotScreensModel", "put", "(III)V"⟩ prog_12_method_92_code 4 none ∈ px_T := px_inT (px_ins 7 (List.mem_of_getElem? (i := 129) rfl)) rfl
theorem px_q1663 : Jvm.Cond.methodLink "DotScreensLaw" 145 ⟨"DotScreensModel", "shape", "(II)I"⟩ ∈ px_T := px_inT (px_ins 7 (List.mem_of_getElem? (i := 130) rfl)) rfl
theorem px_q1664 : Jvm.Cond.instanceMethod ⟨"DotScreensModel", "shape", "(II)I"⟩ ∈ px_T := px_inT (px_ins 7 (List.mem_of_getElem? (i := 131) rfl)) rfl
theorem px_q1665 : Jvm.Cond.selects "DotScreensModel" ⟨"DotScreensModel", "shape", "(II)I"⟩ ⟨"DotScreensModel", "shape", "(II)I"⟩ ∈ px_T := px_inT (px_ins 7 (List.mem_of_getElem? (i := 132) rfl)) rfl
theorem px_q1666 : Jvm.Cond.code ⟨"DotScreensModel", "shape", "(II)I"⟩ prog_12_method_96_code 3 (some FieldType.int) ∈ px_T := px_inT (px_ins 7 (List.mem_of_getElem? (i := 133) rfl)) rfl
theorem px_q1667 : Jvm.Cond.methodLink "DotScreensModel" 447 ⟨"DotScreensModel", "tells", "(IIII)I"⟩ ∈ px_T := px_inT (px_ins 7 (List.mem_of_getElem? (i := 134) rfl)) rfl
theorem px_q1669 : Jvm.Cond.instanceMethod ⟨"DotScreensModel", "tells", "(IIII)I"⟩ ∈ px_T := px_inT (px_ins 7 (List.mem_of_getElem? (i := 136) rfl)) rfl
theorem px_q1670 : Jvm.Cond.code ⟨"DotScreensModel", "tells", "(IIII)I"⟩ prog_12_method_95_code 6 (some FieldType.int) ∈ px_T := px_inT (px_ins 7 (List.mem_of_getElem? (i := 137) rfl)) rfl
theorem px_q1671 : Jvm.Cond.methodLink "DotScreensLaw" 149 ⟨"DotScreensModel", "tone", "(II)I"⟩ ∈ px_T := px_inT (px_ins 7 (List.mem_of_getElem? (i := 138) rfl)) rfl
theorem px_q1672 : Jvm.Cond.instanceMethod ⟨"DotScreensModel", "tone", "(II)I"⟩ ∈ px_T := px_inT (px_ins 7 (List.mem_of_getElem? (i := 139) rfl)) rfl
theorem px_q1673 : Jvm.Cond.selects "DotScreensModel" ⟨"DotScreensModel", "tone", "(II)I"⟩ ⟨"DotScreensModel", "tone", "(II)I"⟩ ∈ px_T := px_inT (px_ins 7 (List.mem_of_getElem? (i := 140) rfl)) rfl
theorem px_q1674 : Jvm.Cond.code ⟨"DotScreensModel", "tone", "(II)I"⟩ prog_12_method_97_code 3 (some FieldType.int) ∈ px_T := px_inT (px_ins 7 (List.mem_of_getElem? (i := 141) rfl)) rfl
theorem px_q1675 : Jvm.Cond.methodLink "DotScreensLaw" 153 ⟨"DotScreensModel", "offset", "(III)I"⟩ ∈ px_T := px_inT (px_ins 7 (List.mem_of_getElem? (i := 142) rfl)) rfl
theorem px_q1676 : Jvm.Cond.instanceMethod ⟨"DotScreensModel", "offset", "(III)I"⟩ ∈ px_T := px_inT (px_ins 7 (List.mem_of_getElem? (i := 143) rfl)) rfl
theorem px_q1677 : Jvm.Cond.selects "DotScreensModel" ⟨"DotScreensModel", "offset", "(III)I"⟩ ⟨"DotScreensModel", "offset", "(III)I"⟩ ∈ px_T := px_inT (px_ins 7 (List.mem_of_getElem? (i := 144) rfl)) rfl
theorem px_q1678 : Jvm.Cond.code ⟨"DotScreensModel", "offset", "(III)I"⟩ prog_12_method_98_code 5 (some FieldType.int) ∈ px_T := px_inT (px_ins 7 (List.mem_of_getElem? (i := 145) rfl)) rfl
theorem px_q1679 : Jvm.Cond.constantLong "DotScreensModel" 450 (-99) ∈ px_T := px_inT (px_ins 7 (List.mem_of_getElem? (i := 146) rfl)) rfl
theorem px_q1680 : Jvm.Cond.constantLong "DotScreensModel" 452 99 ∈ px_T := px_inT (px_ins 7 (List.mem_of_getElem? (i := 147) rfl)) rfl
theorem px_q1681 : Jvm.Cond.methodLink "DotScreensLaw" 158 ⟨"DotScreensModel", "swap", "(II)Z"⟩ ∈ px_T := px_inT (px_ins 7 (List.mem_of_getElem? (i := 148) rfl)) rfl
theorem px_q1682 : Jvm.Cond.instanceMethod ⟨"DotScreensModel", "swap", "(II)Z"⟩ ∈ px_T := px_inT (px_ins 7 (List.mem_of_getElem? (i := 149) rfl)) rfl
theorem px_q1683 : Jvm.Cond.selects "DotScreensModel" ⟨"DotScreensModel", "swap", "(II)Z"⟩ ⟨"DotScreensModel", "swap", "(II)Z"⟩ ∈ px_T := px_inT (px_ins 7 (List.mem_of_getElem? (i := 150) rfl)) rfl
theorem px_q1684 : Jvm.Cond.code ⟨"DotScreensModel", "swap", "(II)Z"⟩ prog_12_method_99_code 5 (some FieldType.boolean) ∈ px_T := px_inT (px_ins 7 (List.mem_of_getElem? (i := 151) rfl)) rfl
theorem px_q1685 : Jvm.Cond.methodLink "DotScreensLaw" 163 ⟨"DotScreensModel", "drop", "(I)I"⟩ ∈ px_T := px_inT (px_ins 7 (List.mem_of_getElem? (i := 152) rfl)) rfl
theorem px_q1686 : Jvm.Cond.instanceMethod ⟨"DotScreensModel", "drop", "(I)I"⟩ ∈ px_T := px_inT (px_ins 7 (List.mem_of_getElem? (i := 153) rfl)) rfl
theorem px_q1687 : Jvm.Cond.selects "DotScreensModel" ⟨"DotScreensModel", "drop", "(I)I"⟩ ⟨"DotScreensModel", "drop", "(I)I"⟩ ∈ px_T := px_inT (px_ins 7 (List.mem_of_getElem? (i := 154) rfl)) rfl
theorem px_q1688 : Jvm.Cond.code ⟨"DotScreensModel", "drop", "(I)I"⟩ prog_12_method_100_code 3 (some FieldType.int) ∈ px_T := px_inT (px_ins 7 (List.mem_of_getElem? (i := 155) rfl)) rfl
theorem px_q1689 : Jvm.Cond.methodLink "DotScreensLaw" 167 ⟨"DotScreensModel", "status", "(I)I"⟩ ∈ px_T := px_inT (px_ins 7 (List.mem_of_getElem? (i := 156) rfl)) rfl
theorem px_q1690 : Jvm.Cond.instanceMethod ⟨"DotScreensModel", "status", "(I)I"⟩ ∈ px_T := px_inT (px_ins 7 (List.mem_of_getElem? (i := 157) rfl)) rfl
theorem px_q1691 : Jvm.Cond.selects "DotScreensModel" ⟨"DotScreensModel", "status", "(I)I"⟩ ⟨"DotScreensModel", "status", "(I)I"⟩ ∈ px_T := px_inT (px_ins 7 (List.mem_of_getElem? (i := 158) rfl)) rfl
theorem px_q1692 : Jvm.Cond.code ⟨"DotScreensModel", "status", "(I)I"⟩ prog_12_method_101_code 2 (some FieldType.int) ∈ px_T := px_inT (px_ins 7 (List.mem_of_getElem? (i := 159) rfl)) rfl
theorem px_q1693 : Jvm.Cond.methodLink "DotScreensLaw" 171 ⟨"DotScreensModel", "most", "(I)I"⟩ ∈ px_T := px_inT (px_ins 7 (List.mem_of_getElem? (i := 160) rfl)) rfl
theorem px_q1694 : Jvm.Cond.instanceMethod ⟨"DotScreensModel", "most", "(I)I"⟩ ∈ px_T := px_inT (px_ins 7 (List.mem_of_getElem? (i := 161) rfl)) rfl
theorem px_q1695 : Jvm.Cond.selects "DotScreensModel" ⟨"DotScreensModel", "most", "(I)I"⟩ ⟨"DotScreensModel", "most", "(I)I"⟩ ∈ px_T := px_inT (px_ins 7 (List.mem_of_getElem? (i := 162) rfl)) rfl
theorem px_q1696 : Jvm.Cond.code ⟨"DotScreensModel", "most", "(I)I"⟩ prog_12_method_106_code 2 (some FieldType.int) ∈ px_T := px_inT (px_ins 7 (List.mem_of_getElem? (i := 163) rfl)) rfl
theorem px_q1697 : Jvm.Cond.methodLink "DotScreensModel" 454 ⟨"DotScreensModel", "coupleBy", "(Z)I"⟩ ∈ px_T := px_inT (px_ins 7 (List.mem_of_getElem? (i := 164) rfl)) rfl
theorem px_q1699 : Jvm.Cond.instanceMethod ⟨"DotScreensModel", "coupleBy", "(Z)I"⟩ ∈ px_T := px_inT (px_ins 7 (List.mem_of_getElem? (i := 166) rfl)) rfl
theorem px_q1700 : Jvm.Cond.code ⟨"DotScreensModel", "coupleBy", "(Z)I"⟩ prog_12_method_102_code 13 (some FieldType.int) ∈ px_T := px_inT (px_ins 7 (List.mem_of_getElem? (i := 167) rfl)) rfl
theorem px_q1701 : Jvm.Cond.methodLink "DotScreensModel" 458 ⟨"DotScreensModel", "alikes", "()I"⟩ ∈ px_T := px_inT (px_ins 7 (List.mem_of_getElem? (i := 168) rfl)) rfl
theorem px_q1703 : Jvm.Cond.instanceMethod ⟨"DotScreensModel", "alikes", "()I"⟩ ∈ px_T := px_inT (px_ins 7 (List.mem_of_getElem? (i := 170) rfl)) rfl
theorem px_q1704 : Jvm.Cond.code ⟨"DotScreensModel", "alikes", "()I"⟩ prog_12_method_103_code 4 (some FieldType.int) ∈ px_T := px_inT (px_ins 7 (List.mem_of_getElem? (i := 171) rfl)) rfl
theorem px_q1705 : Jvm.Cond.methodLink "DotScreensModel" 461 ⟨"DotScreensModel", "cells", "(Z)I"⟩ ∈ px_T := px_inT (px_ins 7 (List.mem_of_getElem? (i := 172) rfl)) rfl
theorem px_q1707 : Jvm.Cond.instanceMethod ⟨"DotScreensModel", "cells", "(Z)I"⟩ ∈ px_T := px_inT (px_ins 7 (List.mem_of_getElem? (i := 174) rfl)) rfl
theorem px_q1708 : Jvm.Cond.code ⟨"DotScreensModel", "cells", "(Z)I"⟩ prog_12_method_104_code 4 (some FieldType.int) ∈ px_T := px_inT (px_ins 7 (List.mem_of_getElem? (i := 175) rfl)) rfl
theorem px_q1709 : Jvm.Cond.methodLink "DotScreensModel" 464 ⟨"DotScreensModel", "grownOnes", "(Z)I"⟩ ∈ px_T := px_inT (px_ins 7 (List.mem_of_getElem? (i := 176) rfl)) rfl
theorem px_q1711 : Jvm.Cond.instanceMethod ⟨"DotScreensModel", "grownOnes", "(Z)I"⟩ ∈ px_T := px_inT (px_ins 7 (List.mem_of_getElem? (i := 178) rfl)) rfl
theorem px_q1712 : Jvm.Cond.code ⟨"DotScreensModel", "grownOnes", "(Z)I"⟩ prog_12_method_105_code 4 (some FieldType.int) ∈ px_T := px_inT (px_ins 7 (List.mem_of_getElem? (i := 179) rfl)) rfl
theorem px_q1713 : Jvm.Cond.methodLink "DotScreensLaw" 175 ⟨"DotScreensModel", "count", "(I)I"⟩ ∈ px_T := px_inT (px_ins 7 (List.mem_of_getElem? (i := 180) rfl)) rfl
theorem px_q1714 : Jvm.Cond.instanceMethod ⟨"DotScreensModel", "count", "(I)I"⟩ ∈ px_T := px_inT (px_ins 7 (List.mem_of_getElem? (i := 181) rfl)) rfl
theorem px_q1715 : Jvm.Cond.selects "DotScreensModel" ⟨"DotScreensModel", "count", "(I)I"⟩ ⟨"DotScreensModel", "count", "(I)I"⟩ ∈ px_T := px_inT (px_ins 7 (List.mem_of_getElem? (i := 182) rfl)) rfl
theorem px_q1716 : Jvm.Cond.code ⟨"DotScreensModel", "count", "(I)I"⟩ prog_12_method_107_code 2 (some FieldType.int) ∈ px_T := px_inT (px_ins 7 (List.mem_of_getElem? (i := 183) rfl)) rfl
