theorem fTab_13 : (fTab.getD 13 []).all (fOKb "TwoMouthsLaw") = true := by decide +kernel
theorem fTab_14 : (fTab.getD 14 []).all (fOKb "java/lang/String") = true := by decide +kernel
theorem fTab_15 : (fTab.getD 15 []).all (fOKb "java/util/Arrays") = true := by decide +kernel
theorem fTab_16 : (fTab.getD 16 []).all (fOKb "java/lang/Math") = true := by decide +kernel
theorem mTab_0 : (mTab.getD 0 []).all (mOKl "TwoMouths$Law") = true := by decide +kernel
theorem mTab_1 : (mTab.getD 1 []).all (mOKl "TwoMouths$LawReader") = true := by decide +kernel
theorem mTab_2 : (mTab.getD 2 []).all (mOKl "TwoMouths$Parts") = true := by decide +kernel
theorem mTab_3 : (mTab.getD 3 []).all (mOKl "TwoMouths$RowSet") = true := by decide +kernel
theorem mTab_4 : (mTab.getD 4 []).all (mOKl "TwoMouths$Spread") = true := by decide +kernel
theorem mTab_5 : (mTab.getD 5 []).all (mOKl "TwoMouths$State") = true := by decide +kernel
theorem mTab_6 : (mTab.getD 6 []).all (mOKl "TwoMouths$Talks") = true := by decide +kernel
theorem mTab_7 : (mTab.getD 7 []).all (mOKl "TwoMouths$Tape") = true := by decide +kernel
theorem mTab_8 : (mTab.getD 8 []).all (mOKl "TwoMouths$Town") = true := by decide +kernel
theorem mTab_9 : (mTab.getD 9 []).all (mOKl "TwoMouths$TownReader") = true := by decide +kernel
theorem mTab_10 : (mTab.getD 10 []).all (mOKl "TwoMouths$WayFinder") = true := by decide +kernel
theorem mTab_11_0 : (((mTab.getD 11 []).drop 0).take 20).all (mOKl "TwoMouths") = true := by decide +kernel
