theorem eMT_ok : ∀ M ∈ eMT, mOKb M = true := sorry
theorem mLk_ok : ilOK mL = true ∧ oNm[m_o mL]? = some (m_y mL).cls := sorry
theorem fTab_ok (oc : Nat) (own : String) (h : oNm[oc]? = some own) : (fTab.getD oc []).all (fOKb own) = true := sorry
theorem mTab_ok (oc : Nat) (own : String) (h : oNm[oc]? = some own) : (mTab.getD oc []).all (mOKl own) = true := sorry
theorem cTab_ok (oc : Nat) (own : String) (h : oNm[oc]? = some own) : (cTab.getD oc []).all (cOKb own) = true := sorry
theorem jTab_ok (oc : Nat) (own : String) (h : oNm[oc]? = some own) : (jTab.getD oc []).all (jOKb own) = true := sorry
theorem glb_ok : Cond.instanceMethod Lib.objectInit ∈ lw_tbl ∧ Cond.code Lib.objectInit ⟨#[0xb1]⟩ 1 none ∈ lw_tbl ∧ Cond.native arraycopyName ∈ lw_tbl ∧ Cond.static arraycopyName ∈ lw_tbl ∧ Cond.initialized "java/lang/System" ∈ lw_tbl ∧ Cond.arrayClass .int ∈ lw_tbl ∧ Cond.arrayClass .byte ∈ lw_tbl ∧ Cond.arrayClass .boolean ∈ lw_tbl ∧ Cond.arrayClass .long ∈ lw_tbl := sorry
theorem glb_ok2 : Cond.initialized "java/lang/Math" ∈ lw_tbl ∧ Cond.static Lib.Math.max.name ∈ lw_tbl ∧ Cond.code Lib.Math.max.name Lib.Math.max.code 2 (some .int) ∈ lw_tbl ∧ Cond.static Lib.Math.min.name ∈ lw_tbl ∧ Cond.code Lib.Math.min.name Lib.Math.min.code 2 (some .int) ∈ lw_tbl := sorry
