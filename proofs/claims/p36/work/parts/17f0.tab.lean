theorem fTab_0 : (fTab.getD 0 []).all (fOKb "TwoMouths$Law") = true := by decide +kernel
theorem fTab_1 : (fTab.getD 1 []).all (fOKb "TwoMouths$LawReader") = true := by decide +kernel
theorem fTab_2 : (fTab.getD 2 []).all (fOKb "TwoMouths$Parts") = true := by decide +kernel
theorem fTab_3 : (fTab.getD 3 []).all (fOKb "TwoMouths$RowSet") = true := by decide +kernel
theorem fTab_4_0 : (((fTab.getD 4 []).drop 0).take 20).all (fOKb "TwoMouths$Spread") = true := by decide +kernel
theorem fTab_4_20 : (((fTab.getD 4 []).drop 20).take 20).all (fOKb "TwoMouths$Spread") = true := by decide +kernel
