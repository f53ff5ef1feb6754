theorem mTab_13_40 : (((mTab.getD 13 []).drop 40).take 20).all (mOKl "TwoMouthsLaw") = true := by decide +kernel
theorem mTab_13_60 : (((mTab.getD 13 []).drop 60).take 20).all (mOKl "TwoMouthsLaw") = true := by decide +kernel
theorem mTab_14 : (mTab.getD 14 []).all (mOKl "java/lang/String") = true := by decide +kernel
theorem mTab_15 : (mTab.getD 15 []).all (mOKl "java/util/Arrays") = true := by decide +kernel
theorem mTab_16 : (mTab.getD 16 []).all (mOKl "java/lang/Integer") = true := by decide +kernel
theorem mTab_17 : (mTab.getD 17 []).all (mOKl "java/lang/Long") = true := by decide +kernel
theorem mTab_18 : (mTab.getD 18 []).all (mOKl "java/lang/StringLatin1") = true := by decide +kernel
theorem mTab_19 : (mTab.getD 19 []).all (mOKl "jdk/internal/util/Preconditions") = true := by decide +kernel
theorem cTab_0 : (cTab.getD 0 []).all (cOKb "TwoMouths$Law") = true := by decide +kernel
theorem cTab_1 : (cTab.getD 1 []).all (cOKb "TwoMouths$LawReader") = true := by decide +kernel
theorem cTab_2 : (cTab.getD 2 []).all (cOKb "TwoMouths$Parts") = true := by decide +kernel
theorem cTab_3 : (cTab.getD 3 []).all (cOKb "TwoMouths$RowSet") = true := by decide +kernel
theorem cTab_4 : (cTab.getD 4 []).all (cOKb "TwoMouths$Spread") = true := by decide +kernel
theorem cTab_5 : (cTab.getD 5 []).all (cOKb "TwoMouths$State") = true := by decide +kernel
theorem cTab_6 : (cTab.getD 6 []).all (cOKb "TwoMouths$Talks") = true := by decide +kernel
theorem cTab_7 : (cTab.getD 7 []).all (cOKb "TwoMouths$Tape") = true := by decide +kernel
theorem cTab_8 : (cTab.getD 8 []).all (cOKb "TwoMouths$Town") = true := by decide +kernel
theorem cTab_9 : (cTab.getD 9 []).all (cOKb "TwoMouths$TownReader") = true := by decide +kernel
theorem cTab_10 : (cTab.getD 10 []).all (cOKb "TwoMouths$WayFinder") = true := by decide +kernel
theorem cTab_11 : (cTab.getD 11 []).all (cOKb "TwoMouths") = true := by decide +kernel
