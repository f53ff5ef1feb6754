theorem mTab_12_0 : (((mTab.getD 12 []).drop 0).take 20).all (mOKl "TwoMouthsModel") = true := by decide +kernel
theorem mTab_12_20 : (((mTab.getD 12 []).drop 20).take 20).all (mOKl "TwoMouthsModel") = true := by decide +kernel
theorem mTab_12_40 : (((mTab.getD 12 []).drop 40).take 20).all (mOKl "TwoMouthsModel") = true := by decide +kernel
