/-! BY HAND, 11: tried of the class puts x back (p36) -/
def fn_tried : aN := (148, [.inl [0], .inr (.inl (.inr (0, 1, 0))), .inr (.inl (.inr (0, 1, 1))), .inr (.inl (.inr (0, 1, 2))), .inr (.inl (.inr (0, 1, 3))), .inr (.inl (.inr (0, 1, 4))), .inr (.inl (.inr (0, 1, 5)))], [(12, 4, .inr (.inl (.inr (0, 1, 6))))], [((-2147483648), 2147483647), ((-2147483648), 2147483647), ((-2147483648), 2147483647), ((-2147483648), 2147483647), ((-2147483648), 2147483647), ((-2147483648), 2147483647), ((-2147483648), 2147483647)], [], [(12, 4), (84, 1000), (89, 1000), (94, 1000), (99, 1000), (104, 1000), (109, 1000), (111, 1), (112, 1000), (113, 1000), (114, 0), (114, 1), (114, 2), (114, 3), (114, 4), (114, 5), (114, 15), (114, 16), (114, 17), (114, 18), (114, 19), (117, 1000), (118, 1000), (119, 1000), (120, 1000), (121, 1000), (122, 1000), (124, 1000), (126, 1000), (128, 1000), (130, 1000), (132, 1000), (134, 1000), (136, 1000), (138, 1000), (140, 1000), (142, 1000), (144, 1000), (146, 1000), (148, 1000), (150, 1000), (152, 1000), (154, 1000), (156, 1000), (158, 1000), (160, 1000), (162, 1000)], [(some (.inr (.inl (.inr (0, 1, 7)))), [(12, 4, .inr (.inl (.inr (0, 1, 6))))], [((-2147483648), 2147483647), ((-2147483648), 2147483647), ((-2147483648), 2147483647), ((-2147483648), 2147483647), ((-2147483648), 2147483647), ((-2147483648), 2147483647), ((-2147483648), 2147483647), ((-2147483648), 2147483647)], [])])
set_option maxRecDepth 1000000 in
theorem fk_tried : chkM P39 (mkQ P39 fn_tried.2.2.2.2.2.1 [zn91, zn98, zn121] 3000 2) fn_tried (.inl 42, .inl 0, .inl 0) zl150 3000 = true := by decide +kernel
theorem ft_tried : Con P9 14 fn_tried := con_of J9_ok (d := 11) (n := 2) (cs_cons (Con_le (by decide) (zt91)) (cs_cons (Con_le (by decide) (zt98)) (cs_cons (Con_le (by decide) (zt121)) (cs_nil)))) fk_tried
theorem INV_keep3 {W : aW} {h h2 : List cC} (hi : INV h) (hG : HG TT [] h2) (hJ : J9 h2) (hf : Fr PT9 W h h2) (hx : ∀ w : Int32, fI h 12 4 = some w → fI h2 12 4 = some w) (n2 : ∀ k : Nat, k < 4 → inW W (26 + 13 * k) 4 = false) (n3 : inW W 78 1000 = false) (n4 : inW W 204 1000 = false) : INV h2 := by
  obtain ⟨_, _, ⟨w, w1, w2⟩, hk⟩ := hi
  refine ⟨hG, hJ, ⟨w, hx w w1, rE_stay hf (List.mem_of_getElem? (i := 0) rfl : ((183, (6, 1, 1, (0, 0))) : Nat × sG) ∈ PT9) ⟨0, by decide, rfl⟩ w2⟩, fun k hk4 => ?_⟩
  obtain ⟨b, b1, b2, b3⟩ := hk k hk4
  refine ⟨b, rE_keep hf n3 b1, rE_keep hf n4 b2, ?_⟩
  rcases b3 with b3 | ⟨b3, v, v1, v2⟩
  · exact Or.inl b3
  · exact Or.inr ⟨b3, v, fI_keep hf (n2 k hk4) v1, rE_stay hf (List.mem_of_getElem? (i := 1) rfl : ((203, (6, 230, 4, (0, 0))) : Nat × sG) ∈ PT9) ⟨k, hk4, by show 230 * k + 6 = 6 + 230 * k; omega⟩ v2⟩
theorem tr_x35 {h : List cC} (hi : INV h) {as : List Int32} (hl : as.length = 6) : ∃ (r : Int32) (h2 : List cC), Trm 14 148 (cR 0 :: as.map (fun x => cI x)) h (some (cI r)) h2 ∧ INV h2 ∧ Fr PT9 fn_tried.2.2.2.2.2.1 h h2 := by
  match as, hl with
  | [a1, a2, a3, a4, a5, a6], _ =>
    obtain ⟨w, w1, w2⟩ := hi.2.2.1
    obtain ⟨ci, vs, f1, f2⟩ := fI_inv w1
    obtain ⟨r, h2, t1, t2, t3, t4, o, o1, ρ', o2, o3, o4, o5, o6⟩ := ft_tried [a1.toInt, a2.toInt, a3.toInt, a4.toInt, a5.toInt, a6.toInt, w.toInt] [cR 0, cI a1, cI a2, cI a3, cI a4, cI a5, cI a6] h hi.1 (bcons (in_f32 a1) (bcons (in_f32 a2) (bcons (in_f32 a3) (bcons (in_f32 a4) (bcons (in_f32 a5) (bcons (in_f32 a6) (bcons (in_f32 w) bnil))))))) (fun q hq => by cases hq) ⟨⟨0, List.mem_singleton.mpr rfl, rfl⟩, vxs rfl, vxs rfl, vxs rfl, vxs rfl, vxs rfl, vxs rfl, trivial⟩ (fun q hq => by
      have e := List.mem_singleton.mp hq
      subst e
      exact ⟨ci, vs, _, f1, f2, vxs rfl⟩) hi.2.1
    have e := List.mem_singleton.mp o1
    subst e
    have r6 : ρ'[6]? = some w.toInt := at_mono o2 rfl
    cases r with
    | none => exact o6.elim
    | some v =>
      obtain ⟨x, ex, _⟩ := o6
      subst ex
      refine ⟨x, h2, t1, INV_keep3 hi t2 t4 t3 (fun w' hw' => ?_) (fun k hk => ?_) rfl rfl, t3⟩
      · rw [w1] at hw'
        cases hw'
        exact okF_fI o5 (List.mem_of_getElem? (i := 0) rfl) r6
      · have : k = 0 ∨ k = 1 ∨ k = 2 ∨ k = 3 := by omega
        rcases this with rfl | rfl | rfl | rfl <;> rfl
theorem pu_x35 {h : List cC} (hi : INV h) {as : List Int32} (hl : as.length = 6) : ∃ (r : Int32) (h2 : List cC), Trm 14 148 (cR 0 :: as.map (fun x => cI x)) h (some (cI r)) h2 ∧ INV h2 := by
  obtain ⟨r, h2, t1, t2, _⟩ := tr_x35 hi hl
  exact ⟨r, h2, t1, t2⟩
