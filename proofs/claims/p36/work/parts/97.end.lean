/-! THE END -/
theorem i_vc : Claimed_1_1 ∧ Claimed_1_2 := i_vc_of ow_law ⟨ow_way, ow_town, ow_talk⟩
