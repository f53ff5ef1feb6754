theorem mTab_11_20 : (((mTab.getD 11 []).drop 20).take 20).all (mOKl "TwoMouths") = true := by decide +kernel
theorem mTab_11_40 : (((mTab.getD 11 []).drop 40).take 20).all (mOKl "TwoMouths") = true := by decide +kernel
theorem mTab_11_60 : (((mTab.getD 11 []).drop 60).take 20).all (mOKl "TwoMouths") = true := by decide +kernel
