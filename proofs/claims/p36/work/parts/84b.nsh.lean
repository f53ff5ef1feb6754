/-! WHAT HOLDS BETWEEN THE CALLS, 2: nobody talks to himself (the public methods: printed by wip/hand/gen84b.py) -/
def IV2 (h : List cC) : Prop := HG TT [] h ∧ INV h ∧ NSh h
theorem pub_of2 {d mi k n : Nat} {W : aW} {outs : List aU} (hc : Con P9 d (mi, .inl [k] :: syL9 0 n, [], List.replicate n (-2147483648, 2147483647), [], W, outs)) (hw : noT W = true) (hw2 : inW W 183 1000 = false) (hw3 : inW W 203 1000 = false) (hr : retI outs = true) {h : List cC} (hi : IV2 h) {as : List Int32} (hl : as.length = n) : ∃ (r : Int32) (h2 : List cC), Trm d mi (cR k :: as.map (fun x => cI x)) h (some (cI r)) h2 ∧ IV2 h2 := by
  subst hl
  obtain ⟨r, h2, t1, t2, t3, t4, o, o1, ρ', o2, o3, o4, o5, o6⟩ := hc (as.map Int32.toInt) (cR k :: as.map (fun x => cI x)) h hi.1 (b_f32 as) (fun q hq => by cases hq) ⟨⟨k, List.mem_singleton.mpr rfl, rfl⟩, syL9_ok as.length 0 _ as rfl (fun j hj => by rw [Nat.zero_add, List.getElem?_map, List.getElem?_eq_getElem hj]; rfl)⟩ (fun q hq => by cases hq) hi.2.1.2.1
  have hro := List.all_eq_true.mp hr o o1
  split at hro
  · rename_i e he
    rw [he] at o6
    cases r with
    | none => exact o6.elim
    | some v =>
      obtain ⟨x, ex, _⟩ := o6
      subst ex
      exact ⟨x, h2, t1, t2, INV_keep hi.2.1 t2 t4 t3 hw, NSh_sm hi.1 (SM_of t3 hw2 hw3) hi.2.2⟩
  · cases hro
theorem qu_x0 {h : List cC} (hi : IV2 h) {as : List Int32} (hl : as.length = 5) : ∃ (r : Int32) (h2 : List cC), Trm 2 108 (cR 0 :: as.map (fun x => cI x)) h (some (cI r)) h2 ∧ IV2 h2 := pub_of2 (k := 0) (n := 5) (zt26) rfl rfl rfl rfl hi hl
theorem qu_m0 {h : List cC} (hi : IV2 h) {as : List Int32} (hl : as.length = 5) : ∃ (r : Int32) (h2 : List cC), Trm 2 177 (cR 170 :: as.map (fun x => cI x)) h (some (cI r)) h2 ∧ IV2 h2 := pub_of2 (k := 170) (n := 5) (zt165) rfl rfl rfl rfl hi hl
theorem qu_x1 {h : List cC} (hi : IV2 h) {as : List Int32} (hl : as.length = 1) : ∃ (r : Int32) (h2 : List cC), Trm 1 106 (cR 0 :: as.map (fun x => cI x)) h (some (cI r)) h2 ∧ IV2 h2 := pub_of2 (k := 0) (n := 1) (zt27) rfl rfl rfl rfl hi hl
theorem qu_m1 {h : List cC} (hi : IV2 h) {as : List Int32} (hl : as.length = 1) : ∃ (r : Int32) (h2 : List cC), Trm 1 173 (cR 170 :: as.map (fun x => cI x)) h (some (cI r)) h2 ∧ IV2 h2 := pub_of2 (k := 170) (n := 1) (zt166) rfl rfl rfl rfl hi hl
theorem qu_x2 {h : List cC} (hi : IV2 h) {as : List Int32} (hl : as.length = 0) : ∃ (r : Int32) (h2 : List cC), Trm 16 147 (cR 0 :: as.map (fun x => cI x)) h (some (cI r)) h2 ∧ IV2 h2 := pub_of2 (k := 0) (n := 0) (zt25) rfl rfl rfl rfl hi hl
theorem qu_x3 {h : List cC} (hi : IV2 h) {as : List Int32} (hl : as.length = 0) : ∃ (r : Int32) (h2 : List cC), Trm 58 124 (cR 0 :: as.map (fun x => cI x)) h (some (cI r)) h2 ∧ IV2 h2 := pub_of2 (k := 0) (n := 0) (zt63) rfl rfl rfl rfl hi hl
theorem qu_x4 {h : List cC} (hi : IV2 h) {as : List Int32} (hl : as.length = 3) : ∃ (r : Int32) (h2 : List cC), Trm 3 144 (cR 0 :: as.map (fun x => cI x)) h (some (cI r)) h2 ∧ IV2 h2 := pub_of2 (k := 0) (n := 3) (zt147) rfl rfl rfl rfl hi hl
theorem qu_x5 {h : List cC} (hi : IV2 h) {as : List Int32} (hl : as.length = 2) : ∃ (r : Int32) (h2 : List cC), Trm 2 145 (cR 0 :: as.map (fun x => cI x)) h (some (cI r)) h2 ∧ IV2 h2 := pub_of2 (k := 0) (n := 2) (zt148) rfl rfl rfl rfl hi hl
theorem qu_m5 {h : List cC} (hi : IV2 h) {as : List Int32} (hl : as.length = 2) : ∃ (r : Int32) (h2 : List cC), Trm 2 243 (cR 170 :: as.map (fun x => cI x)) h (some (cI r)) h2 ∧ IV2 h2 := pub_of2 (k := 170) (n := 2) (zt168) rfl rfl rfl rfl hi hl
theorem qu_x6 {h : List cC} (hi : IV2 h) {as : List Int32} (hl : as.length = 2) : ∃ (r : Int32) (h2 : List cC), Trm 2 134 (cR 0 :: as.map (fun x => cI x)) h (some (cI r)) h2 ∧ IV2 h2 := pub_of2 (k := 0) (n := 2) (zt139) rfl rfl rfl rfl hi hl
theorem qu_m6 {h : List cC} (hi : IV2 h) {as : List Int32} (hl : as.length = 2) : ∃ (r : Int32) (h2 : List cC), Trm 4 223 (cR 170 :: as.map (fun x => cI x)) h (some (cI r)) h2 ∧ IV2 h2 := pub_of2 (k := 170) (n := 2) (zt175) rfl rfl rfl rfl hi hl
theorem qu_x8 {h : List cC} (hi : IV2 h) {as : List Int32} (hl : as.length = 1) : ∃ (r : Int32) (h2 : List cC), Trm 2 142 (cR 0 :: as.map (fun x => cI x)) h (some (cI r)) h2 ∧ IV2 h2 := pub_of2 (k := 0) (n := 1) (zt145) rfl rfl rfl rfl hi hl
theorem qu_x9 {h : List cC} (hi : IV2 h) {as : List Int32} (hl : as.length = 2) : ∃ (r : Int32) (h2 : List cC), Trm 15 98 (cR 0 :: as.map (fun x => cI x)) h (some (cI r)) h2 ∧ IV2 h2 := pub_of2 (k := 0) (n := 2) (zt124) rfl rfl rfl rfl hi hl
theorem qu_m9 {h : List cC} (hi : IV2 h) {as : List Int32} (hl : as.length = 2) : ∃ (r : Int32) (h2 : List cC), Trm 9 157 (cR 170 :: as.map (fun x => cI x)) h (some (cI r)) h2 ∧ IV2 h2 := pub_of2 (k := 170) (n := 2) (zt190) rfl rfl rfl rfl hi hl
theorem qu_x10 {h : List cC} (hi : IV2 h) {as : List Int32} (hl : as.length = 2) : ∃ (r : Int32) (h2 : List cC), Trm 15 112 (cR 0 :: as.map (fun x => cI x)) h (some (cI r)) h2 ∧ IV2 h2 := pub_of2 (k := 0) (n := 2) (zt132) rfl rfl rfl rfl hi hl
theorem qu_m10 {h : List cC} (hi : IV2 h) {as : List Int32} (hl : as.length = 2) : ∃ (r : Int32) (h2 : List cC), Trm 9 186 (cR 170 :: as.map (fun x => cI x)) h (some (cI r)) h2 ∧ IV2 h2 := pub_of2 (k := 170) (n := 2) (zt196) rfl rfl rfl rfl hi hl
theorem qu_x11 {h : List cC} (hi : IV2 h) {as : List Int32} (hl : as.length = 4) : ∃ (r : Int32) (h2 : List cC), Trm 15 122 (cR 0 :: as.map (fun x => cI x)) h (some (cI r)) h2 ∧ IV2 h2 := pub_of2 (k := 0) (n := 4) (zt133) rfl rfl rfl rfl hi hl
theorem qu_m11 {h : List cC} (hi : IV2 h) {as : List Int32} (hl : as.length = 4) : ∃ (r : Int32) (h2 : List cC), Trm 10 210 (cR 170 :: as.map (fun x => cI x)) h (some (cI r)) h2 ∧ IV2 h2 := pub_of2 (k := 170) (n := 4) (zt197) rfl rfl rfl rfl hi hl
theorem qu_x12 {h : List cC} (hi : IV2 h) {as : List Int32} (hl : as.length = 4) : ∃ (r : Int32) (h2 : List cC), Trm 15 136 (cR 0 :: as.map (fun x => cI x)) h (some (cI r)) h2 ∧ IV2 h2 := pub_of2 (k := 0) (n := 4) (zt141) rfl rfl rfl rfl hi hl
theorem qu_m12 {h : List cC} (hi : IV2 h) {as : List Int32} (hl : as.length = 4) : ∃ (r : Int32) (h2 : List cC), Trm 10 230 (cR 170 :: as.map (fun x => cI x)) h (some (cI r)) h2 ∧ IV2 h2 := pub_of2 (k := 170) (n := 4) (zt204) rfl rfl rfl rfl hi hl
theorem qu_x13 {h : List cC} (hi : IV2 h) {as : List Int32} (hl : as.length = 2) : ∃ (r : Int32) (h2 : List cC), Trm 15 146 (cR 0 :: as.map (fun x => cI x)) h (some (cI r)) h2 ∧ IV2 h2 := pub_of2 (k := 0) (n := 2) (zt149) rfl rfl rfl rfl hi hl
theorem qu_m13 {h : List cC} (hi : IV2 h) {as : List Int32} (hl : as.length = 2) : ∃ (r : Int32) (h2 : List cC), Trm 9 244 (cR 170 :: as.map (fun x => cI x)) h (some (cI r)) h2 ∧ IV2 h2 := pub_of2 (k := 170) (n := 2) (zt208) rfl rfl rfl rfl hi hl
theorem qu_x14 {h : List cC} (hi : IV2 h) {as : List Int32} (hl : as.length = 3) : ∃ (r : Int32) (h2 : List cC), Trm 15 143 (cR 0 :: as.map (fun x => cI x)) h (some (cI r)) h2 ∧ IV2 h2 := pub_of2 (k := 0) (n := 3) (zt146) rfl rfl rfl rfl hi hl
theorem qu_m14 {h : List cC} (hi : IV2 h) {as : List Int32} (hl : as.length = 3) : ∃ (r : Int32) (h2 : List cC), Trm 9 238 (cR 170 :: as.map (fun x => cI x)) h (some (cI r)) h2 ∧ IV2 h2 := pub_of2 (k := 170) (n := 3) (zt207) rfl rfl rfl rfl hi hl
theorem qu_x15 {h : List cC} (hi : IV2 h) {as : List Int32} (hl : as.length = 1) : ∃ (r : Int32) (h2 : List cC), Trm 15 123 (cR 0 :: as.map (fun x => cI x)) h (some (cI r)) h2 ∧ IV2 h2 := pub_of2 (k := 0) (n := 1) (zt134) rfl rfl rfl rfl hi hl
theorem qu_m15 {h : List cC} (hi : IV2 h) {as : List Int32} (hl : as.length = 1) : ∃ (r : Int32) (h2 : List cC), Trm 9 211 (cR 170 :: as.map (fun x => cI x)) h (some (cI r)) h2 ∧ IV2 h2 := pub_of2 (k := 170) (n := 1) (zt198) rfl rfl rfl rfl hi hl
theorem qu_x16 {h : List cC} (hi : IV2 h) {as : List Int32} (hl : as.length = 4) : ∃ (r : Int32) (h2 : List cC), Trm 16 109 (cR 0 :: as.map (fun x => cI x)) h (some (cI r)) h2 ∧ IV2 h2 := pub_of2 (k := 0) (n := 4) (zt131) rfl rfl rfl rfl hi hl
theorem qu_m16 {h : List cC} (hi : IV2 h) {as : List Int32} (hl : as.length = 4) : ∃ (r : Int32) (h2 : List cC), Trm 9 178 (cR 170 :: as.map (fun x => cI x)) h (some (cI r)) h2 ∧ IV2 h2 := pub_of2 (k := 170) (n := 4) (zt195) rfl rfl rfl rfl hi hl
theorem qu_x17 {h : List cC} (hi : IV2 h) {as : List Int32} (hl : as.length = 2) : ∃ (r : Int32) (h2 : List cC), Trm 16 141 (cR 0 :: as.map (fun x => cI x)) h (some (cI r)) h2 ∧ IV2 h2 := pub_of2 (k := 0) (n := 2) (zt144) rfl rfl rfl rfl hi hl
theorem qu_m17 {h : List cC} (hi : IV2 h) {as : List Int32} (hl : as.length = 2) : ∃ (r : Int32) (h2 : List cC), Trm 9 236 (cR 170 :: as.map (fun x => cI x)) h (some (cI r)) h2 ∧ IV2 h2 := pub_of2 (k := 170) (n := 2) (zt206) rfl rfl rfl rfl hi hl
theorem qu_x18 {h : List cC} (hi : IV2 h) {as : List Int32} (hl : as.length = 3) : ∃ (r : Int32) (h2 : List cC), Trm 14 103 (cR 0 :: as.map (fun x => cI x)) h (some (cI r)) h2 ∧ IV2 h2 := pub_of2 (k := 0) (n := 3) (zt128) rfl rfl rfl rfl hi hl
theorem qu_m18 {h : List cC} (hi : IV2 h) {as : List Int32} (hl : as.length = 3) : ∃ (r : Int32) (h2 : List cC), Trm 9 171 (cR 170 :: as.map (fun x => cI x)) h (some (cI r)) h2 ∧ IV2 h2 := pub_of2 (k := 170) (n := 3) (zt193) rfl rfl rfl rfl hi hl
theorem qu_x19 {h : List cC} (hi : IV2 h) {as : List Int32} (hl : as.length = 3) : ∃ (r : Int32) (h2 : List cC), Trm 17 128 (cR 0 :: as.map (fun x => cI x)) h (some (cI r)) h2 ∧ IV2 h2 := pub_of2 (k := 0) (n := 3) (zt135) rfl rfl rfl rfl hi hl
theorem qu_m19 {h : List cC} (hi : IV2 h) {as : List Int32} (hl : as.length = 3) : ∃ (r : Int32) (h2 : List cC), Trm 9 213 (cR 170 :: as.map (fun x => cI x)) h (some (cI r)) h2 ∧ IV2 h2 := pub_of2 (k := 170) (n := 3) (zt199) rfl rfl rfl rfl hi hl
theorem qu_x20 {h : List cC} (hi : IV2 h) {as : List Int32} (hl : as.length = 3) : ∃ (r : Int32) (h2 : List cC), Trm 3 107 (cR 0 :: as.map (fun x => cI x)) h (some (cI r)) h2 ∧ IV2 h2 := pub_of2 (k := 0) (n := 3) (zt130) rfl rfl rfl rfl hi hl
theorem qu_x21 {h : List cC} (hi : IV2 h) {as : List Int32} (hl : as.length = 1) : ∃ (r : Int32) (h2 : List cC), Trm 7 100 (cR 0 :: as.map (fun x => cI x)) h (some (cI r)) h2 ∧ IV2 h2 := pub_of2 (k := 0) (n := 1) (zt125) rfl rfl rfl rfl hi hl
theorem qu_m21 {h : List cC} (hi : IV2 h) {as : List Int32} (hl : as.length = 1) : ∃ (r : Int32) (h2 : List cC), Trm 8 159 (cR 170 :: as.map (fun x => cI x)) h (some (cI r)) h2 ∧ IV2 h2 := pub_of2 (k := 170) (n := 1) (zt191) rfl rfl rfl rfl hi hl
theorem qu_x22 {h : List cC} (hi : IV2 h) {as : List Int32} (hl : as.length = 4) : ∃ (r : Int32) (h2 : List cC), Trm 15 137 (cR 0 :: as.map (fun x => cI x)) h (some (cI r)) h2 ∧ IV2 h2 := pub_of2 (k := 0) (n := 4) (zt142) rfl rfl rfl rfl hi hl
theorem qu_m22 {h : List cC} (hi : IV2 h) {as : List Int32} (hl : as.length = 4) : ∃ (r : Int32) (h2 : List cC), Trm 10 231 (cR 170 :: as.map (fun x => cI x)) h (some (cI r)) h2 ∧ IV2 h2 := pub_of2 (k := 170) (n := 4) (zt205) rfl rfl rfl rfl hi hl
theorem qu_x23 {h : List cC} (hi : IV2 h) {as : List Int32} (hl : as.length = 4) : ∃ (r : Int32) (h2 : List cC), Trm 15 131 (cR 0 :: as.map (fun x => cI x)) h (some (cI r)) h2 ∧ IV2 h2 := pub_of2 (k := 0) (n := 4) (zt137) rfl rfl rfl rfl hi hl
theorem qu_m23 {h : List cC} (hi : IV2 h) {as : List Int32} (hl : as.length = 4) : ∃ (r : Int32) (h2 : List cC), Trm 10 216 (cR 170 :: as.map (fun x => cI x)) h (some (cI r)) h2 ∧ IV2 h2 := pub_of2 (k := 170) (n := 4) (zt201) rfl rfl rfl rfl hi hl
theorem qu_x24 {h : List cC} (hi : IV2 h) {as : List Int32} (hl : as.length = 2) : ∃ (r : Int32) (h2 : List cC), Trm 15 149 (cR 0 :: as.map (fun x => cI x)) h (some (cI r)) h2 ∧ IV2 h2 := pub_of2 (k := 0) (n := 2) (zt151) rfl rfl rfl rfl hi hl
theorem qu_m24 {h : List cC} (hi : IV2 h) {as : List Int32} (hl : as.length = 2) : ∃ (r : Int32) (h2 : List cC), Trm 9 250 (cR 170 :: as.map (fun x => cI x)) h (some (cI r)) h2 ∧ IV2 h2 := pub_of2 (k := 170) (n := 2) (zt210) rfl rfl rfl rfl hi hl
theorem qu_x25 {h : List cC} (hi : IV2 h) {as : List Int32} (hl : as.length = 2) : ∃ (r : Int32) (h2 : List cC), Trm 14 101 (cR 0 :: as.map (fun x => cI x)) h (some (cI r)) h2 ∧ IV2 h2 := pub_of2 (k := 0) (n := 2) (zt126) rfl rfl rfl rfl hi hl
theorem qu_m25 {h : List cC} (hi : IV2 h) {as : List Int32} (hl : as.length = 2) : ∃ (r : Int32) (h2 : List cC), Trm 9 160 (cR 170 :: as.map (fun x => cI x)) h (some (cI r)) h2 ∧ IV2 h2 := pub_of2 (k := 170) (n := 2) (zt192) rfl rfl rfl rfl hi hl
theorem qu_x26 {h : List cC} (hi : IV2 h) {as : List Int32} (hl : as.length = 1) : ∃ (r : Int32) (h2 : List cC), Trm 15 130 (cR 0 :: as.map (fun x => cI x)) h (some (cI r)) h2 ∧ IV2 h2 := pub_of2 (k := 0) (n := 1) (zt136) rfl rfl rfl rfl hi hl
theorem qu_m26 {h : List cC} (hi : IV2 h) {as : List Int32} (hl : as.length = 1) : ∃ (r : Int32) (h2 : List cC), Trm 9 214 (cR 170 :: as.map (fun x => cI x)) h (some (cI r)) h2 ∧ IV2 h2 := pub_of2 (k := 170) (n := 1) (zt200) rfl rfl rfl rfl hi hl
theorem qu_x27 {h : List cC} (hi : IV2 h) {as : List Int32} (hl : as.length = 2) : ∃ (r : Int32) (h2 : List cC), Trm 15 104 (cR 0 :: as.map (fun x => cI x)) h (some (cI r)) h2 ∧ IV2 h2 := pub_of2 (k := 0) (n := 2) (zt129) rfl rfl rfl rfl hi hl
theorem qu_m27 {h : List cC} (hi : IV2 h) {as : List Int32} (hl : as.length = 2) : ∃ (r : Int32) (h2 : List cC), Trm 9 172 (cR 170 :: as.map (fun x => cI x)) h (some (cI r)) h2 ∧ IV2 h2 := pub_of2 (k := 170) (n := 2) (zt194) rfl rfl rfl rfl hi hl
theorem qu_x28 {h : List cC} (hi : IV2 h) {as : List Int32} (hl : as.length = 3) : ∃ (r : Int32) (h2 : List cC), Trm 15 96 (cR 0 :: as.map (fun x => cI x)) h (some (cI r)) h2 ∧ IV2 h2 := pub_of2 (k := 0) (n := 3) (zt123) rfl rfl rfl rfl hi hl
theorem qu_m28 {h : List cC} (hi : IV2 h) {as : List Int32} (hl : as.length = 3) : ∃ (r : Int32) (h2 : List cC), Trm 10 154 (cR 170 :: as.map (fun x => cI x)) h (some (cI r)) h2 ∧ IV2 h2 := pub_of2 (k := 170) (n := 3) (zt189) rfl rfl rfl rfl hi hl
theorem qu_x29 {h : List cC} (hi : IV2 h) {as : List Int32} (hl : as.length = 3) : ∃ (r : Int32) (h2 : List cC), Trm 15 152 (cR 0 :: as.map (fun x => cI x)) h (some (cI r)) h2 ∧ IV2 h2 := pub_of2 (k := 0) (n := 3) (zt154) rfl rfl rfl rfl hi hl
theorem qu_m29 {h : List cC} (hi : IV2 h) {as : List Int32} (hl : as.length = 3) : ∃ (r : Int32) (h2 : List cC), Trm 10 255 (cR 170 :: as.map (fun x => cI x)) h (some (cI r)) h2 ∧ IV2 h2 := pub_of2 (k := 170) (n := 3) (zt212) rfl rfl rfl rfl hi hl
theorem qu_x30 {h : List cC} (hi : IV2 h) {as : List Int32} (hl : as.length = 2) : ∃ (r : Int32) (h2 : List cC), Trm 5 135 (cR 0 :: as.map (fun x => cI x)) h (some (cI r)) h2 ∧ IV2 h2 := pub_of2 (k := 0) (n := 2) (zt140) rfl rfl rfl rfl hi hl
theorem qu_m30 {h : List cC} (hi : IV2 h) {as : List Int32} (hl : as.length = 2) : ∃ (r : Int32) (h2 : List cC), Trm 4 227 (cR 170 :: as.map (fun x => cI x)) h (some (cI r)) h2 ∧ IV2 h2 := pub_of2 (k := 170) (n := 2) (zt203) rfl rfl rfl rfl hi hl
theorem qu_x31 {h : List cC} (hi : IV2 h) {as : List Int32} (hl : as.length = 4) : ∃ (r : Int32) (h2 : List cC), Trm 44 151 (cR 0 :: as.map (fun x => cI x)) h (some (cI r)) h2 ∧ IV2 h2 := pub_of2 (k := 0) (n := 4) (zt153) rfl rfl rfl rfl hi hl
theorem qu_x32 {h : List cC} (hi : IV2 h) {as : List Int32} (hl : as.length = 4) : ∃ (r : Int32) (h2 : List cC), Trm 14 132 (cR 0 :: as.map (fun x => cI x)) h (some (cI r)) h2 ∧ IV2 h2 := pub_of2 (k := 0) (n := 4) (zt138) rfl rfl rfl rfl hi hl
theorem qu_m32 {h : List cC} (hi : IV2 h) {as : List Int32} (hl : as.length = 4) : ∃ (r : Int32) (h2 : List cC), Trm 9 217 (cR 170 :: as.map (fun x => cI x)) h (some (cI r)) h2 ∧ IV2 h2 := pub_of2 (k := 170) (n := 4) (zt202) rfl rfl rfl rfl hi hl
theorem qu_x33 {h : List cC} (hi : IV2 h) {as : List Int32} (hl : as.length = 4) : ∃ (r : Int32) (h2 : List cC), Trm 15 150 (cR 0 :: as.map (fun x => cI x)) h (some (cI r)) h2 ∧ IV2 h2 := pub_of2 (k := 0) (n := 4) (zt152) rfl rfl rfl rfl hi hl
theorem qu_m33 {h : List cC} (hi : IV2 h) {as : List Int32} (hl : as.length = 4) : ∃ (r : Int32) (h2 : List cC), Trm 9 251 (cR 170 :: as.map (fun x => cI x)) h (some (cI r)) h2 ∧ IV2 h2 := pub_of2 (k := 170) (n := 4) (zt211) rfl rfl rfl rfl hi hl
theorem qu_x7 {h : List cC} (hi : IV2 h) {as : List Int32} (hl : as.length = 1) : ∃ (r : Int32) (h2 : List cC), Trm 2 110 (cR 0 :: as.map (fun x => cI x)) h (some (cI r)) h2 ∧ IV2 h2 := pub_of2 (k := 0) (n := 1) (zt143) rfl rfl rfl rfl hi hl
theorem qu_x35 {h : List cC} (hi : IV2 h) {as : List Int32} (hl : as.length = 6) : ∃ (r : Int32) (h2 : List cC), Trm 14 148 (cR 0 :: as.map (fun x => cI x)) h (some (cI r)) h2 ∧ IV2 h2 := by
  obtain ⟨r, h2, t1, t2, t3⟩ := tr_x35 hi.2.1 hl
  exact ⟨r, h2, t1, t2.1, t2, NSh_sm hi.1 (SM_of t3 rfl rfl) hi.2.2⟩
theorem qu_m35 {h : List cC} (hi : IV2 h) {as : List Int32} (hl : as.length = 6) : ∃ (r : Int32) (h2 : List cC), Trm 10 249 (cR 170 :: as.map (fun x => cI x)) h (some (cI r)) h2 ∧ IV2 h2 := pub_of2 (k := 170) (n := 6) (zt209) rfl rfl rfl rfl hi hl
theorem qu_x36 {h : List cC} (hi : IV2 h) {as : List Int32} (hl : as.length = 1) : ∃ (r : Int32) (h2 : List cC), Trm 1 102 (cR 0 :: as.map (fun x => cI x)) h (some (cI r)) h2 ∧ IV2 h2 := pub_of2 (k := 0) (n := 1) (zt127) rfl rfl rfl rfl hi hl
theorem qu_m36 {h : List cC} (hi : IV2 h) {as : List Int32} (hl : as.length = 1) : ∃ (r : Int32) (h2 : List cC), Trm 1 170 (cR 170 :: as.map (fun x => cI x)) h (some (cI r)) h2 ∧ IV2 h2 := pub_of2 (k := 170) (n := 1) (zt172) rfl rfl rfl rfl hi hl
theorem qu_m8 {h : List cC} (hi : IV2 h) {as : List Int32} (hl : as.length = 1) : ∃ (r : Int32) (h2 : List cC), Trm 2 237 (cR 170 :: as.map (fun x => cI x)) h (some (cI r)) h2 ∧ IV2 h2 := by
  obtain ⟨r, h2, t1, t2⟩ := pu_m8 hi.2.1 hl
  exact ⟨r, h2, t1, t2.1, t2, ns_of (n := 1) nt_silent rfl hi.1 hi.2.1.2.1 as hl t1 hi.2.2⟩
theorem qu_m20 {h : List cC} (hi : IV2 h) {as : List Int32} (hl : as.length = 3) : ∃ (r : Int32) (h2 : List cC), Trm 3 174 (cR 170 :: as.map (fun x => cI x)) h (some (cI r)) h2 ∧ IV2 h2 := by
  obtain ⟨r, h2, t1, t2⟩ := pu_m20 hi.2.1 hl
  exact ⟨r, h2, t1, t2.1, t2, ns_of (n := 3) nt_entry rfl hi.1 hi.2.1.2.1 as hl t1 hi.2.2⟩
theorem qu_m7 {h : List cC} (hi : IV2 h) {as : List Int32} (hl : as.length = 1) : ∃ (r : Int32) (h2 : List cC), Trm 2 180 (cR 170 :: as.map (fun x => cI x)) h (some (cI r)) h2 ∧ IV2 h2 := by
  obtain ⟨r, h2, t1, t2⟩ := pu_m7 hi.2.1 hl
  exact ⟨r, h2, t1, t2.1, t2, ns_of (n := 1) nt_seed rfl hi.1 hi.2.1.2.1 as hl t1 hi.2.2⟩
