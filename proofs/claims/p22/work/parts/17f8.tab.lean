theorem mTab_12_60 : (((mTab.getD 12 []).drop 60).take 20).all (mOKl "TwoMouthsModel") = true := by decide +kernel
theorem mTab_13_0 : (((mTab.getD 13 []).drop 0).take 20).all (mOKl "TwoMouthsLaw") = true := by decide +kernel
theorem mTab_13_20 : (((mTab.getD 13 []).drop 20).take 20).all (mOKl "TwoMouthsLaw") = true := by decide +kernel
