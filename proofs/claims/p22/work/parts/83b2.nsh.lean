/-! NOBODY TALKS TO HIMSELF: in what the reference holds, and in its images -/
/-- what the reference holds and has held is left alone -/
def SM (h h1 : List cC) : Prop := (∀ f : Nat → Int32, h[183]? = some (.inr (.inl (0, 230, f))) → h1[183]? = some (.inr (.inl (0, 230, f)))) ∧ (∀ g : Nat → Int32, h[203]? = some (.inr (.inl (0, 920, g))) → h1[203]? = some (.inr (.inl (0, 920, g))))
theorem SM_of {PT : List (Nat × sG)} {W : aW} {h h1 : List cC} (hf : Fr PT W h h1) (w1 : inW W 183 1000 = false) (w2 : inW W 203 1000 = false) : SM h h1 := ⟨fun _ hk => Fr_row hf w1 hk, fun _ hk => Fr_row hf w2 hk⟩
def NSr (f : Nat → Int32) : Prop := ∀ t : Nat, (t : Int) < (f 0).toInt → f (80 + 3 * t) ≠ f (80 + 3 * t + 1)
def NSh (h : List cC) : Prop := (∀ f : Nat → Int32, h[183]? = some (.inr (.inl (0, 230, f))) → NSr f) ∧ (∀ g : Nat → Int32, h[203]? = some (.inr (.inl (0, 920, g))) → ∀ k : Nat, k < 4 → NSr (fun i => g (230 * k + i)))
theorem NSh_sm {h h2 : List cC} (hG : HG TT [] h) (hs : SM h h2) (hn : NSh h) : NSh h2 := by
  obtain ⟨f, f1, _⟩ := HG_sa hG
  obtain ⟨g, g1, _⟩ := HG_im hG
  refine ⟨fun f' hf' => ?_, fun g' hg' => ?_⟩
  · rw [hs.1 f f1] at hf'
    cases hf'
    exact hn.1 f f1
  · rw [hs.2 g g1] at hg'
    cases hg'
    exact hn.2 g g1
theorem NSr_eq {f f2 : Nat → Int32} (h30 : (f2 0).toInt ≤ 30) (h0 : f2 0 = f 0) (he : ∀ i : Nat, 80 ≤ i → i < 170 → f2 i = f i) (hn : NSr f) : NSr f2 := fun t ht => by
  rw [he (80 + 3 * t) (by omega) (by omega), he (80 + 3 * t + 1) (by omega) (by omega)]
  exact hn t (by rw [← h0]; exact ht)
theorem sa_30 {f : Nat → Int32} (hr : rI 230 (-2147483648, 2147483647) saST f) : (f 0).toInt ≤ 30 := ((hr 0 (by decide)).2 (0, 1, 1, (0, 30)) (by decide) ⟨0, by decide, rfl⟩).2
theorem im_30 {g : Nat → Int32} (hr : rI 920 (-2147483648, 2147483647) imST g) {k : Nat} (hk : k < 4) : (g (230 * k + 0)).toInt ≤ 30 := ((hr (230 * k + 0) (by omega)).2 (shS k (0, 1, 1, (0, 30))) (in_im hk (by decide)) ⟨0, (by decide : (0 : Nat) < 1), by show 230 * k + 0 = 0 + 230 * k + 1 * 0; omega⟩).2
/-- an image is made -/
theorem NSh_im {h : List cC} (hG : HG TT [] h) {f g gg : Nat → Int32} (g1 : h[183]? = some (.inr (.inl (0, 230, f)))) (g3 : h[203]? = some (.inr (.inl (0, 920, g)))) {a : Nat} (w4 : ∀ m : Nat, m < 230 → gg (230 * a + m) = f m) (w5 : ∀ m : Nat, (∀ p : Nat, p < 230 → m ≠ 230 * a + p) → gg m = g m) (hn : NSh h) : NSh (h.set 203 (.inr (.inl (0, 920, gg)))) := by
  refine ⟨fun f' hf' => hn.1 f' ?_, fun g' hg' k hk => ?_⟩
  · rw [List.getElem?_set_ne (by decide)] at hf'
    exact hf'
  · rw [List.getElem?_set_self (List.getElem?_eq_some_iff.mp g3).1] at hg'
    cases hg'
    obtain ⟨f2, x1, x2⟩ := HG_sa hG
    rw [g1] at x1
    cases x1
    obtain ⟨g2, x3, x4⟩ := HG_im hG
    rw [g3] at x3
    cases x3
    by_cases e : k = a
    · subst e
      exact NSr_eq (f := f) (by rw [w4 0 (by decide)]; exact sa_30 x2) (w4 0 (by decide)) (fun i _ hi => w4 i (by omega)) (hn.1 f g1)
    · have e0 : gg (230 * k + 0) = g (230 * k + 0) := w5 _ (fun p hp => by omega)
      exact NSr_eq (f := fun i => g (230 * k + i)) (by rw [e0]; exact im_30 x4 hk) e0 (fun i _ hi => w5 _ (fun p hp => by omega)) (hn.2 g g3 k hk)
/-- an image is gone back to -/
theorem NSh_bk {h : List cC} {f g ff : Nat → Int32} (g1 : h[183]? = some (.inr (.inl (0, 230, f)))) (g3 : h[203]? = some (.inr (.inl (0, 920, g)))) (hG2 : HG TT [] (h.set 183 (.inr (.inl (0, 230, ff))))) {a : Nat} (ha : a < 4) (w4 : ∀ m : Nat, m < 230 → ff m = g (230 * a + m)) (hn : NSh h) : NSh (h.set 183 (.inr (.inl (0, 230, ff)))) := by
  refine ⟨fun f' hf' => ?_, fun g' hg' => hn.2 g' ?_⟩
  · obtain ⟨f2, x1, x2⟩ := HG_sa hG2
    rw [hf'] at x1
    cases x1
    rw [List.getElem?_set_self (List.getElem?_eq_some_iff.mp g1).1] at hf'
    cases hf'
    exact NSr_eq (f := fun i => g (230 * a + i)) (sa_30 x2) (w4 0 (by decide)) (fun i _ hi => w4 i (by omega)) (hn.2 g g3 a ha)
  · rw [List.getElem?_set_ne (by decide)] at hg'
    exact hg'
/-- the places of the talks stay -/
def PTn : List (Nat × sG) := [(183, 0, 1, 1, (0, 0)), (183, 80, 1, 90, (0, 0))]
def P39n : aP3 := (TT, PTn, IR9)
def P9n : aP := (TT, PTn, IR9, J9)
theorem J9_okn : pJ P9n := J9_ok
theorem NSh_st {W : aW} {h h2 : List cC} (hG : HG TT [] h) (hf : Fr PTn W h h2) (w3 : inW W 203 1000 = false) (hn : NSh h) : NSh h2 := by
  obtain ⟨f, f1, f2⟩ := HG_sa hG
  obtain ⟨g, g1, _⟩ := HG_im hG
  obtain ⟨c2, x1, fx, x2, _, x4⟩ := hf 183 _ f1
  subst x2
  have e0 : fx 0 = f 0 := x4 _ (List.mem_of_getElem? (i := 0) rfl : ((183, 0, 1, 1, (0, 0)) : Nat × sG) ∈ PTn) rfl 0 ⟨0, by decide, rfl⟩
  refine ⟨fun f' hf' => ?_, fun g' hg' => ?_⟩
  · rw [x1] at hf'
    cases hf'
    exact NSr_eq (f := f) (by rw [e0]; exact sa_30 f2) e0 (fun i h1 h2 => x4 _ (List.mem_of_getElem? (i := 1) rfl : ((183, 80, 1, 90, (0, 0)) : Nat × sG) ∈ PTn) rfl i ⟨i - 80, by show i - 80 < 90; omega, by show i = 80 + 1 * (i - 80); omega⟩) (hn.1 f f1)
  · rw [Fr_row hf w3 g1] at hg'
    cases hg'
    exact hn.2 g g1
theorem ns_of {d mi n : Nat} {W : aW} {outs : List aU} (hc : Con P9n d (mi, .inl [170] :: syL9 0 n, [], List.replicate n (-2147483648, 2147483647), [], W, outs)) (hw3 : inW W 203 1000 = false) {h h2 : List cC} {d2 : Nat} {r : Option cV} (hG : HG TT [] h) (hJ : J9 h) (as : List Int32) (hl : as.length = n) (u : Trm d2 mi (cR 170 :: as.map (fun x => cI x)) h r h2) (hn : NSh h) : NSh h2 := by
  subst hl
  obtain ⟨r', h2', t1, t2, t3, t4, _⟩ := hc (as.map Int32.toInt) (cR 170 :: as.map (fun x => cI x)) h hG (b_f32 as) (fun q hq => by cases hq) ⟨⟨170, List.mem_singleton.mpr rfl, rfl⟩, syL9_ok as.length 0 _ as rfl (fun j hj => by rw [Nat.zero_add, List.getElem?_map, List.getElem?_eq_getElem hj]; rfl)⟩ (fun q hq => by cases hq) hJ
  have e := (Trm_det (Trm_le (Nat.le_max_left d d2) t1) (Trm_le (Nat.le_max_right d d2) u)).2
  subst e
  exact NSh_st hG t3 hw3 hn
set_option maxRecDepth 1000000 in
theorem nk_entry : chkM P39n (mkQ P39n zn169.2.2.2.2.2.1 [] 3000 2) zn169 (.inl 0, .inl 0, .inl 0) zl169 3000 = true := by decide +kernel
theorem nt_entry : Con P9n 3 zn169 := con_of J9_okn (d := 0) (n := 2) (fun _ hc => by cases hc) nk_entry
set_option maxRecDepth 1000000 in
theorem nk_seed : chkM P39n (mkQ P39n zn170.2.2.2.2.2.1 [] 3000 0) zn170 (.inl 0, .inl 0, .inl 0) zl170 3000 = true := by decide +kernel
theorem nt_seed : Con P9n 1 zn170 := con_of J9_okn (d := 0) (n := 0) (fun _ hc => by cases hc) nk_seed
set_option maxRecDepth 1000000 in
theorem nk_silent : chkM P39n (mkQ P39n zn171.2.2.2.2.2.1 [] 3000 1) zn171 (.inl 0, .inl 0, .inl 0) zl171 3000 = true := by decide +kernel
theorem nt_silent : Con P9n 2 zn171 := con_of J9_okn (d := 0) (n := 1) (fun _ hc => by cases hc) nk_silent
def nn_first : aN := (174, [.inl [170], .inr (.inl (.inr (0, 1, 0))), .inr (.inl (.inr (0, 1, 1))), .inr (.inl (.inr (0, 1, 2)))], [], [((-2147483648), 2147483647), ((-2147483648), 2147483647), ((-2147483648), 2147483647)], [], [(183, 1000)], [(some (.inr (.inl (.inr (0, 1, 3)))), [], [((-2147483648), 2147483647), ((-2147483648), 2147483647), ((-2147483648), 2147483647), ((-2), 20)], [])])
set_option maxRecDepth 1000000 in
theorem nk_first : chkM P39n (mkQ P39n nn_first.2.2.2.2.2.1 [] 3000 2) nn_first (.inl 0, .inl 0, .inl 0) [] 3000 = true := by decide +kernel
theorem nt_first : Con P9n 3 nn_first := con_of J9_okn (d := 0) (n := 2) (fun _ hc => by cases hc) nk_first
