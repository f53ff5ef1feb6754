theorem fTab_12_40 : (((fTab.getD 12 []).drop 40).take 20).all (fOKb "TwoMouthsModel") = true := by decide +kernel
theorem fTab_13 : (fTab.getD 13 []).all (fOKb "TwoMouthsLaw") = true := by decide +kernel
theorem fTab_14 : (fTab.getD 14 []).all (fOKb "java/lang/String") = true := by decide +kernel
theorem fTab_15 : (fTab.getD 15 []).all (fOKb "java/util/Arrays") = true := by decide +kernel
theorem fTab_16 : (fTab.getD 16 []).all (fOKb "java/lang/Integer") = true := by decide +kernel
theorem fTab_17 : (fTab.getD 17 []).all (fOKb "java/lang/Long") = true := by decide +kernel
theorem fTab_18 : (fTab.getD 18 []).all (fOKb "java/lang/StringLatin1") = true := by decide +kernel
theorem fTab_19 : (fTab.getD 19 []).all (fOKb "jdk/internal/util/Preconditions") = true := by decide +kernel
theorem mTab_0 : (mTab.getD 0 []).all (mOKl "TwoMouths$Law") = true := by decide +kernel
theorem mTab_1_0 : (((mTab.getD 1 []).drop 0).take 20).all (mOKl "TwoMouths$LawReader") = true := by decide +kernel
theorem mTab_1_20 : (((mTab.getD 1 []).drop 20).take 20).all (mOKl "TwoMouths$LawReader") = true := by decide +kernel
