theorem fTab_11_20 : (((fTab.getD 11 []).drop 20).take 20).all (fOKb "TwoMouths") = true := by decide +kernel
theorem fTab_12_0 : (((fTab.getD 12 []).drop 0).take 20).all (fOKb "TwoMouthsModel") = true := by decide +kernel
theorem fTab_12_20 : (((fTab.getD 12 []).drop 20).take 20).all (fOKb "TwoMouthsModel") = true := by decide +kernel
