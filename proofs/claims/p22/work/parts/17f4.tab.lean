theorem mTab_2 : (mTab.getD 2 []).all (mOKl "TwoMouths$Parts") = true := by decide +kernel
theorem mTab_3 : (mTab.getD 3 []).all (mOKl "TwoMouths$RowSet") = true := by decide +kernel
theorem mTab_4_0 : (((mTab.getD 4 []).drop 0).take 20).all (mOKl "TwoMouths$Spread") = true := by decide +kernel
theorem mTab_4_20 : (((mTab.getD 4 []).drop 20).take 20).all (mOKl "TwoMouths$Spread") = true := by decide +kernel
theorem mTab_5 : (mTab.getD 5 []).all (mOKl "TwoMouths$State") = true := by decide +kernel
