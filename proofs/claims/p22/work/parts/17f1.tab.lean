theorem fTab_5 : (fTab.getD 5 []).all (fOKb "TwoMouths$State") = true := by decide +kernel
theorem fTab_6 : (fTab.getD 6 []).all (fOKb "TwoMouths$Talks") = true := by decide +kernel
theorem fTab_7 : (fTab.getD 7 []).all (fOKb "TwoMouths$Tape") = true := by decide +kernel
theorem fTab_8 : (fTab.getD 8 []).all (fOKb "TwoMouths$Town") = true := by decide +kernel
theorem fTab_9 : (fTab.getD 9 []).all (fOKb "TwoMouths$TownReader") = true := by decide +kernel
theorem fTab_10 : (fTab.getD 10 []).all (fOKb "TwoMouths$WayFinder") = true := by decide +kernel
theorem fTab_11_0 : (((fTab.getD 11 []).drop 0).take 20).all (fOKb "TwoMouths") = true := by decide +kernel
