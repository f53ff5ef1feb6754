theorem fTab_4 : (fTab.getD 4 []).all (fOKb "TwoMouths$Spread") = true := by
  have e : fTab.getD 4 [] = (((fTab.getD 4 []).drop 0).take 20) ++ ((((fTab.getD 4 []).drop 20).take 20)) := by rfl
  rw [e]
  exact all_app fTab_4_0 (fTab_4_20)
theorem fTab_11 : (fTab.getD 11 []).all (fOKb "TwoMouths") = true := by
  have e : fTab.getD 11 [] = (((fTab.getD 11 []).drop 0).take 20) ++ ((((fTab.getD 11 []).drop 20).take 20)) := by rfl
  rw [e]
  exact all_app fTab_11_0 (fTab_11_20)
theorem fTab_12 : (fTab.getD 12 []).all (fOKb "TwoMouthsModel") = true := by
  have e : fTab.getD 12 [] = (((fTab.getD 12 []).drop 0).take 20) ++ ((((fTab.getD 12 []).drop 20).take 20) ++ ((((fTab.getD 12 []).drop 40).take 20))) := by rfl
  rw [e]
  exact all_app fTab_12_0 (all_app fTab_12_20 (fTab_12_40))
theorem mTab_1 : (mTab.getD 1 []).all (mOKl "TwoMouths$LawReader") = true := by
  have e : mTab.getD 1 [] = (((mTab.getD 1 []).drop 0).take 20) ++ ((((mTab.getD 1 []).drop 20).take 20)) := by rfl
  rw [e]
  exact all_app mTab_1_0 (mTab_1_20)
theorem mTab_4 : (mTab.getD 4 []).all (mOKl "TwoMouths$Spread") = true := by
  have e : mTab.getD 4 [] = (((mTab.getD 4 []).drop 0).take 20) ++ ((((mTab.getD 4 []).drop 20).take 20)) := by rfl
  rw [e]
  exact all_app mTab_4_0 (mTab_4_20)
theorem mTab_11 : (mTab.getD 11 []).all (mOKl "TwoMouths") = true := by
  have e : mTab.getD 11 [] = (((mTab.getD 11 []).drop 0).take 20) ++ ((((mTab.getD 11 []).drop 20).take 20) ++ ((((mTab.getD 11 []).drop 40).take 20) ++ ((((mTab.getD 11 []).drop 60).take 20)))) := by rfl
  rw [e]
  exact all_app mTab_11_0 (all_app mTab_11_20 (all_app mTab_11_40 (mTab_11_60)))
theorem mTab_12 : (mTab.getD 12 []).all (mOKl "TwoMouthsModel") = true := by
  have e : mTab.getD 12 [] = (((mTab.getD 12 []).drop 0).take 20) ++ ((((mTab.getD 12 []).drop 20).take 20) ++ ((((mTab.getD 12 []).drop 40).take 20) ++ ((((mTab.getD 12 []).drop 60).take 20)))) := by rfl
  rw [e]
  exact all_app mTab_12_0 (all_app mTab_12_20 (all_app mTab_12_40 (mTab_12_60)))
theorem mTab_13 : (mTab.getD 13 []).all (mOKl "TwoMouthsLaw") = true := by
  have e : mTab.getD 13 [] = (((mTab.getD 13 []).drop 0).take 20) ++ ((((mTab.getD 13 []).drop 20).take 20) ++ ((((mTab.getD 13 []).drop 40).take 20) ++ ((((mTab.getD 13 []).drop 60).take 20)))) := by rfl
  rw [e]
  exact all_app mTab_13_0 (all_app mTab_13_20 (all_app mTab_13_40 (mTab_13_60)))
theorem jTab_12 : (jTab.getD 12 []).all (jOKb "TwoMouthsModel") = true := by
  have e : jTab.getD 12 [] = (((jTab.getD 12 []).drop 0).take 20) ++ ((((jTab.getD 12 []).drop 20).take 20)) := by rfl
  rw [e]
  exact all_app jTab_12_0 (jTab_12_20)
theorem fTab_ok (oc : Nat) (own : String) (h : oNm[oc]? = some own) : (fTab.getD oc []).all (fOKb own) = true := by
  match oc, h with
  | 0, h => cases h; exact fTab_0
  | 1, h => cases h; exact fTab_1
  | 2, h => cases h; exact fTab_2
  | 3, h => cases h; exact fTab_3
  | 4, h => cases h; exact fTab_4
  | 5, h => cases h; exact fTab_5
  | 6, h => cases h; exact fTab_6
  | 7, h => cases h; exact fTab_7
  | 8, h => cases h; exact fTab_8
  | 9, h => cases h; exact fTab_9
  | 10, h => cases h; exact fTab_10
  | 11, h => cases h; exact fTab_11
  | 12, h => cases h; exact fTab_12
  | 13, h => cases h; exact fTab_13
  | 14, h => cases h; exact fTab_14
  | 15, h => cases h; exact fTab_15
  | 16, h => cases h; exact fTab_16
  | 17, h => cases h; exact fTab_17
  | 18, h => cases h; exact fTab_18
  | 19, h => cases h; exact fTab_19
  | n + 20, h => simp [oNm] at h
theorem mTab_ok (oc : Nat) (own : String) (h : oNm[oc]? = some own) : (mTab.getD oc []).all (mOKl own) = true := by
  match oc, h with
  | 0, h => cases h; exact mTab_0
  | 1, h => cases h; exact mTab_1
  | 2, h => cases h; exact mTab_2
  | 3, h => cases h; exact mTab_3
  | 4, h => cases h; exact mTab_4
  | 5, h => cases h; exact mTab_5
  | 6, h => cases h; exact mTab_6
  | 7, h => cases h; exact mTab_7
  | 8, h => cases h; exact mTab_8
  | 9, h => cases h; exact mTab_9
  | 10, h => cases h; exact mTab_10
  | 11, h => cases h; exact mTab_11
  | 12, h => cases h; exact mTab_12
  | 13, h => cases h; exact mTab_13
  | 14, h => cases h; exact mTab_14
  | 15, h => cases h; exact mTab_15
  | 16, h => cases h; exact mTab_16
  | 17, h => cases h; exact mTab_17
  | 18, h => cases h; exact mTab_18
  | 19, h => cases h; exact mTab_19
  | n + 20, h => simp [oNm] at h
theorem cTab_ok (oc : Nat) (own : String) (h : oNm[oc]? = some own) : (cTab.getD oc []).all (cOKb own) = true := by
  match oc, h with
  | 0, h => cases h; exact cTab_0
  | 1, h => cases h; exact cTab_1
  | 2, h => cases h; exact cTab_2
  | 3, h => cases h; exact cTab_3
  | 4, h => cases h; exact cTab_4
  | 5, h => cases h; exact cTab_5
  | 6, h => cases h; exact cTab_6
  | 7, h => cases h; exact cTab_7
  | 8, h => cases h; exact cTab_8
  | 9, h => cases h; exact cTab_9
  | 10, h => cases h; exact cTab_10
  | 11, h => cases h; exact cTab_11
  | 12, h => cases h; exact cTab_12
  | 13, h => cases h; exact cTab_13
  | 14, h => cases h; exact cTab_14
  | 15, h => cases h; exact cTab_15
  | 16, h => cases h; exact cTab_16
  | 17, h => cases h; exact cTab_17
  | 18, h => cases h; exact cTab_18
  | 19, h => cases h; exact cTab_19
  | n + 20, h => simp [oNm] at h
theorem jTab_ok (oc : Nat) (own : String) (h : oNm[oc]? = some own) : (jTab.getD oc []).all (jOKb own) = true := by
  match oc, h with
  | 0, h => cases h; exact jTab_0
  | 1, h => cases h; exact jTab_1
  | 2, h => cases h; exact jTab_2
  | 3, h => cases h; exact jTab_3
  | 4, h => cases h; exact jTab_4
  | 5, h => cases h; exact jTab_5
  | 6, h => cases h; exact jTab_6
  | 7, h => cases h; exact jTab_7
  | 8, h => cases h; exact jTab_8
  | 9, h => cases h; exact jTab_9
  | 10, h => cases h; exact jTab_10
  | 11, h => cases h; exact jTab_11
  | 12, h => cases h; exact jTab_12
  | 13, h => cases h; exact jTab_13
  | 14, h => cases h; exact jTab_14
  | 15, h => cases h; exact jTab_15
  | 16, h => cases h; exact jTab_16
  | 17, h => cases h; exact jTab_17
  | 18, h => cases h; exact jTab_18
  | 19, h => cases h; exact jTab_19
  | n + 20, h => simp [oNm] at h
theorem iTab_ok (oc : Nat) (own : String) (h : oNm[oc]? = some own) : (iTab.getD oc []).all (iOKb own) = true := by
  match oc, h with
  | 0, h => cases h; exact iTab_0
  | 1, h => cases h; exact iTab_1
  | 2, h => cases h; exact iTab_2
  | 3, h => cases h; exact iTab_3
  | 4, h => cases h; exact iTab_4
  | 5, h => cases h; exact iTab_5
  | 6, h => cases h; exact iTab_6
  | 7, h => cases h; exact iTab_7
  | 8, h => cases h; exact iTab_8
  | 9, h => cases h; exact iTab_9
  | 10, h => cases h; exact iTab_10
  | 11, h => cases h; exact iTab_11
  | 12, h => cases h; exact iTab_12
  | 13, h => cases h; exact iTab_13
  | 14, h => cases h; exact iTab_14
  | 15, h => cases h; exact iTab_15
  | 16, h => cases h; exact iTab_16
  | 17, h => cases h; exact iTab_17
  | 18, h => cases h; exact iTab_18
  | 19, h => cases h; exact iTab_19
  | n + 20, h => simp [oNm] at h
theorem glb_ok : Cond.instanceMethod Lib.objectInit ∈ lw_tbl ∧ Cond.code Lib.objectInit ⟨#[0xb1]⟩ 1 none ∈ lw_tbl ∧ Cond.native arraycopyName ∈ lw_tbl ∧ Cond.static arraycopyName ∈ lw_tbl ∧ Cond.initialized "java/lang/System" ∈ lw_tbl ∧ Cond.arrayClass .int ∈ lw_tbl ∧ Cond.arrayClass .byte ∈ lw_tbl ∧ Cond.arrayClass .boolean ∈ lw_tbl ∧ Cond.arrayClass .long ∈ lw_tbl := by decide +kernel
theorem glb_ok2 : Cond.initialized "java/lang/Math" ∈ lw_tbl ∧ Cond.static Lib.Math.max.name ∈ lw_tbl ∧ Cond.code Lib.Math.max.name Lib.Math.max.code 2 (some .int) ∈ lw_tbl ∧ Cond.static Lib.Math.min.name ∈ lw_tbl ∧ Cond.code Lib.Math.min.name Lib.Math.min.code 2 (some .int) ∈ lw_tbl := by decide +kernel
theorem sTab_lt (oc : Nat) (own : String) (h : oNm[oc]? = some own) : ∀ q ∈ sTab.getD oc [], q.2.2 < nS := by
  have h1 : ∀ oc, oc < 20 → ∀ q ∈ sTab.getD oc [], q.2.2 < nS := by decide +kernel
  exact h1 oc (List.getElem?_eq_some_iff.mp h).1
theorem fTab_fm {own : String} {oc idx fi : Nat} (hoc : oNm[oc]? = some own) (hf : fnd (fTab.getD oc []) idx = some (3, 0, fi)) : Cond.fieldLink own idx "jdk/internal/util/Preconditions" "SIOOBE_FORMATTER" "Ljava/util/function/BiFunction;" ∈ lw_tbl := by
  have h1 := List.all_eq_true.mp (fTab_ok _ _ hoc) _ (fnd_mem hf)
  unfold fOKb at h1
  simp only [decide_eq_true_eq] at h1
  exact h1
