theorem mTab_6 : (mTab.getD 6 []).all (mOKl "TwoMouths$Talks") = true := by decide +kernel
theorem mTab_7 : (mTab.getD 7 []).all (mOKl "TwoMouths$Tape") = true := by decide +kernel
theorem mTab_8 : (mTab.getD 8 []).all (mOKl "TwoMouths$Town") = true := by decide +kernel
theorem mTab_9 : (mTab.getD 9 []).all (mOKl "TwoMouths$TownReader") = true := by decide +kernel
theorem mTab_10 : (mTab.getD 10 []).all (mOKl "TwoMouths$WayFinder") = true := by decide +kernel
theorem mTab_11_0 : (((mTab.getD 11 []).drop 0).take 20).all (mOKl "TwoMouths") = true := by decide +kernel
