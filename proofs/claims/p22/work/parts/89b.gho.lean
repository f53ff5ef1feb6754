/-! GHOSTS, 2: what holds while a clause of a LAW is read -/
abbrev kWa : aW := [(170, 14), (170, 15), (170, 16), (170, 18), (170, 19), (170, 22), (172, 1000), (173, 1000), (180, 1000)]
abbrev kSg : aW := [(170, 14), (170, 15), (170, 16)]
abbrev kTw : aW := [(170, 19), (170, 22), (172, 1000), (173, 1000)]
def fv (h : List cC) (j : Nat) (z : Int) : Prop := ∃ x : Int32, fI h 170 j = some x ∧ x.toInt = z
theorem fv_det {h : List cC} {j : Nat} {z y : Int} (h1 : fv h j z) (h2 : fv h j y) : z = y := by
  obtain ⟨x, a1, a2⟩ := h1
  obtain ⟨w, b1, b2⟩ := h2
  rw [a1] at b1
  cases b1
  omega
theorem fv_keep {W : aW} {h h2 : List cC} (hf : Fr PT9 W h h2) {j : Nat} (hw : inW W 170 j = false) {z : Int} (h1 : fv h j z) : fv h2 j z := by
  obtain ⟨x, a1, a2⟩ := h1
  exact ⟨x, fI_keep hf hw a1, a2⟩
theorem fv_at {h : List cC} {vs : List cV} (hm : h[170]? = some (.inl (12, vs))) {j : Nat} {z : Int} (h1 : fv h j z) : ∃ x : Int32, vs[j]? = some (cI x) ∧ x.toInt = z := by
  obtain ⟨x, a1, a2⟩ := h1
  obtain ⟨ci, vs', b1, b2⟩ := fI_inv a1
  rw [hm] at b1
  cases b1
  exact ⟨x, b2, a2⟩
theorem fv_of {h : List cC} {vs : List cV} (hm : h[170]? = some (.inl (12, vs))) {j : Nat} {x : Int32} (h1 : vs[j]? = some (cI x)) : fv h j x.toInt := ⟨x, fI_at hm h1, rfl⟩
theorem fv_row {h : List cC} {k : Nat} {c : cC} (hk : k ≠ 170) {j : Nat} {z : Int} (h1 : fv h j z) : fv (h.set k c) j z := by
  obtain ⟨x, a1, a2⟩ := h1
  obtain ⟨ci, vs, b1, b2⟩ := fI_inv a1
  exact ⟨x, fI_at (by rw [List.getElem?_set_ne hk]; exact b1) b2, a2⟩
theorem fv_ne {h : List cC} {vs : List cV} (hm : h[170]? = some (.inl (12, vs))) {i : Nat} {v : cV} {j : Nat} (hij : i ≠ j) {z : Int} (h1 : fv h j z) : fv (h.set 170 (.inl (12, vs.set i v))) j z := by
  obtain ⟨x, a1, a2⟩ := fv_at hm h1
  refine ⟨x, fI_at (List.getElem?_set_self (List.getElem?_eq_some_iff.mp hm).1) ?_, a2⟩
  rw [List.getElem?_set_ne hij]
  exact a1
theorem fv_eq {h : List cC} {vs : List cV} (hm : h[170]? = some (.inl (12, vs))) {i : Nat} (hi : i < vs.length) (x : Int32) : fv (h.set 170 (.inl (12, vs.set i (cI x)))) i x.toInt :=
  ⟨x, fI_at (List.getElem?_set_self (List.getElem?_eq_some_iff.mp hm).1) (List.getElem?_set_self hi), rfl⟩
/-- the reference's rows -/
theorem mo_at {h : List cC} (hG : HG TT [] h) : ∃ vs : List cV, h[170]? = some (.inl (12, vs)) ∧ vs[3]? = some (cR 172) ∧ vs[4]? = some (cR 173) ∧ vs[5]? = some (cR 174) ∧ vs[6]? = some (cR 175) ∧ vs[21]? = some (cR 180) := by
  obtain ⟨vs, a1, a2⟩ := mod_at hG (j := 3) (k := 172) rfl
  obtain ⟨v4, b1, b2⟩ := mod_at hG (j := 4) (k := 173) rfl
  obtain ⟨v5, c1, c2⟩ := mod_at hG (j := 5) (k := 174) rfl
  obtain ⟨v6, d1, d2⟩ := mod_at hG (j := 6) (k := 175) rfl
  obtain ⟨v7, e1, e2⟩ := mod_at hG (j := 21) (k := 180) rfl
  rw [a1] at b1 c1 d1 e1
  cases b1
  cases c1
  cases d1
  cases e1
  exact ⟨vs, a1, a2, b2, c2, d2, e2⟩
/-- of the open ones the binary; each is one of four -/
def oB (o : Nat → Int32) : Nat → Nat
  | 0 => 0
  | n + 1 => oB o n + (if o n = 12 ∨ o n = 13 then 1 else 0)
def oOK (o : Nat → Int32) (n : Nat) : Prop := ∀ k : Nat, k < n → o k = 11 ∨ o k = 12 ∨ o k = 13 ∨ o k = 91
theorem oB_congr {o o2 : Nat → Int32} : ∀ {n : Nat}, (∀ k : Nat, k < n → o2 k = o k) → oB o2 n = oB o n
  | 0, _ => rfl
  | n + 1, h => by
    unfold oB
    rw [oB_congr (n := n) (fun k hk => h k (by omega)), h n (by omega)]
theorem dep_snoc (f : Nat → Int32) : ∀ (n p d : Nat), dep f p (n + 1) d = (match dep f p n d with
    | some d2 => sOp (f (p + n)) d2
    | none => none)
  | 0, p, d => by
    show (match sOp (f p) d with
      | some d2 => some d2
      | none => none) = sOp (f p) d
    cases sOp (f p) d <;> rfl
  | n + 1, p, d => by
    have e : dep f p (n + 1 + 1) d = (match sOp (f p) d with
      | some d2 => dep f (p + 1) (n + 1) d2
      | none => none) := rfl
    have e2 : dep f p (n + 1) d = (match sOp (f p) d with
      | some d2 => dep f (p + 1) n d2
      | none => none) := rfl
    rw [e, e2]
    cases sOp (f p) d with
    | none => rfl
    | some d2 =>
      dsimp only
      rw [dep_snoc f n (p + 1) d2, show p + 1 + n = p + (n + 1) by omega]
theorem dep_congr {f f2 : Nat → Int32} : ∀ (n p d : Nat), (∀ i : Nat, p ≤ i → i < p + n → f2 i = f i) → dep f2 p n d = dep f p n d
  | 0, p, d, _ => rfl
  | n + 1, p, d, h => by
    show (match sOp (f2 p) d with
      | some d2 => dep f2 (p + 1) n d2
      | none => none) = (match sOp (f p) d with
      | some d2 => dep f (p + 1) n d2
      | none => none)
    rw [h p (by omega) (by omega)]
    cases sOp (f p) d with
    | none => rfl
    | some d2 => exact dep_congr n (p + 1) d2 (fun i h1 h2 => h i (by omega) (by omega))
/-- the pure half: b where the clause begins, op how many are open, md made, dp deep, L signs; e numbers lie on the stack besides those that open binaries wait for; κ and s: what is left -/
def KP (t b op md dp L : Nat) (o f gc cc : Nat → Int32) (e : Nat) (κ : Int) (s : Nat) : Prop := b ≤ L ∧ md ≤ 60 ∧ dp ≤ 10 ∧ oOK o op ∧ oB o op + dp = op ∧ dep f (400 * t + b) (L - b) 0 = some (oB o op + e) ∧ oB o op + e + s ≤ md ∧ (L : Int) + op ≤ 5 * md + κ ∧ ∀ j : Nat, j < 12 → (j : Int) < (cc t).toInt → (gc (36 * t + 3 * j + 2)).toInt ≤ b
def KZ (t b op md dp L : Nat) (o : Nat → Int32) (e : Nat) (κ : Int) (s : Nat) (h : List cC) : Prop := h[180]? = some (.inr (.inl (0, 400, o))) ∧ ∃ f g gc cc : Nat → Int32, h[172]? = some (.inr (.inl (0, 2400, f))) ∧ h[173]? = some (.inr (.inl (0, 7, g))) ∧ h[174]? = some (.inr (.inl (0, 216, gc))) ∧ h[175]? = some (.inr (.inl (0, 6, cc))) ∧ (g t).toInt = L ∧ KP t b op md dp L o f gc cc e κ s
def KX (t b op md dp L : Nat) (o : Nat → Int32) (e : Nat) (κ : Int) (s : Nat) (h : List cC) : Prop := fv h 17 t ∧ fv h 22 op ∧ fv h 18 md ∧ fv h 19 dp ∧ KZ t b op md dp L o e κ s h
theorem KZ_mo {t b op md dp L : Nat} {o : Nat → Int32} {e : Nat} {κ : Int} {s : Nat} {h : List cC} {c : cC} (hk : KZ t b op md dp L o e κ s h) : KZ t b op md dp L o e κ s (h.set 170 c) := by
  obtain ⟨k5, f, g, gc, cc, k6, k7, k8, k9, k10⟩ := hk
  exact ⟨by rw [List.getElem?_set_ne (by decide)]; exact k5, f, g, gc, cc, by rw [List.getElem?_set_ne (by decide)]; exact k6, by rw [List.getElem?_set_ne (by decide)]; exact k7, by rw [List.getElem?_set_ne (by decide)]; exact k8, by rw [List.getElem?_set_ne (by decide)]; exact k9, k10⟩
def KS (t b m : Nat) (e : Nat) (κ : Int) (s : Nat) (h : List cC) : Prop := ∃ (op md dp L : Nat) (o : Nat → Int32), m ≤ md ∧ KX t b op md dp L o e κ s h
theorem KX_keep {W : aW} {t b op md dp L : Nat} {o : Nat → Int32} {e : Nat} {κ : Int} {s : Nat} {h h2 : List cC} (hf : Fr PT9 W h h2) (hw : inW W 170 17 = false ∧ inW W 170 22 = false ∧ inW W 170 18 = false ∧ inW W 170 19 = false ∧ inW W 180 1000 = false ∧ inW W 172 1000 = false ∧ inW W 173 1000 = false ∧ inW W 174 1000 = false ∧ inW W 175 1000 = false) (hk : KX t b op md dp L o e κ s h) : KX t b op md dp L o e κ s h2 := by
  obtain ⟨w1, w2, w3, w4, w5, w6, w7, w8, w9⟩ := hw
  obtain ⟨k1, k2, k3, k4, k5, f, g, gc, cc, k6, k7, k8, k9, k10⟩ := hk
  exact ⟨fv_keep hf w1 k1, fv_keep hf w2 k2, fv_keep hf w3 k3, fv_keep hf w4 k4, Fr_row hf w5 k5, f, g, gc, cc, Fr_row hf w6 k6, Fr_row hf w7 k7, Fr_row hf w8 k8, Fr_row hf w9 k9, k10⟩
theorem KX_kS {t b op md dp L : Nat} {o : Nat → Int32} {e : Nat} {κ : Int} {s : Nat} {h h2 : List cC} (hf : Fr PT9 kSg h h2) (hk : KX t b op md dp L o e κ s h) : KX t b op md dp L o e κ s h2 := KX_keep hf ⟨rfl, rfl, rfl, rfl, rfl, rfl, rfl, rfl, rfl⟩ hk
theorem KX_le {t b op md dp L : Nat} {o : Nat → Int32} {e : Nat} {κ κ2 : Int} {s s2 : Nat} (h1 : κ ≤ κ2) (h2 : s2 ≤ s) {h : List cC} (hk : KX t b op md dp L o e κ s h) : KX t b op md dp L o e κ2 s2 h := by
  obtain ⟨k1, k2, k3, k4, k5, f, g, gc, cc, k6, k7, k8, k9, k10, p1, p2, p3, p4, p5, p6, p7, p8, p9⟩ := hk
  exact ⟨k1, k2, k3, k4, k5, f, g, gc, cc, k6, k7, k8, k9, k10, p1, p2, p3, p4, p5, p6, by omega, by omega, p9⟩
theorem KS_kS {t b m : Nat} {e : Nat} {κ : Int} {s : Nat} {h h2 : List cC} (hf : Fr PT9 kSg h h2) (hk : KS t b m e κ s h) : KS t b m e κ s h2 := by
  obtain ⟨op, md, dp, L, o, h1, h3⟩ := hk
  exact ⟨op, md, dp, L, o, h1, KX_kS hf h3⟩
theorem KS_le {t b m m2 : Nat} {e : Nat} {κ κ2 : Int} {s s2 : Nat} (h1 : κ ≤ κ2) (h2 : s2 ≤ s) (h3 : m2 ≤ m) {h : List cC} (hk : KS t b m e κ s h) : KS t b m2 e κ2 s2 h := by
  obtain ⟨op, md, dp, L, o, k1, k2⟩ := hk
  exact ⟨op, md, dp, L, o, by omega, KX_le h1 h2 k2⟩
/-- made, deep, as numbers -/
def fN (h : List cC) (j : Nat) : Nat := match fI h 170 j with
  | some x => x.toInt.toNat
  | none => 0
theorem fN_of {h : List cC} {j n : Nat} (h1 : fv h j n) : fN h j = n := by
  obtain ⟨x, a1, a2⟩ := h1
  unfold fN
  rw [a1]
  dsimp only
  omega
theorem fN_keep {W : aW} {h h2 : List cC} (hG : HG TT [] h) (hf : Fr PT9 W h h2) {j : Nat} (hj : ∃ b : eP, mT j = some (.inl b)) (hw : inW W 170 j = false) : fN h2 j = fN h j := by
  obtain ⟨b, hb⟩ := hj
  obtain ⟨ts, ht⟩ := mod_t
  unfold mT at hb
  rw [ht] at hb
  obtain ⟨x, x1, _⟩ := HG_f hG ht hb
  unfold fN
  rw [x1, fI_keep hf hw x1]
theorem i32_add {x y : Int32} (h1 : -2147483648 ≤ x.toInt + y.toInt) (h2 : x.toInt + y.toInt ≤ 2147483647) : (x + y).toInt = x.toInt + y.toInt := by
  rw [Int32.toInt_add]
  exact bmod32 h1 h2
theorem i32_sub {x y : Int32} (h1 : -2147483648 ≤ x.toInt - y.toInt) (h2 : x.toInt - y.toInt ≤ 2147483647) : (x - y).toInt = x.toInt - y.toInt := by
  rw [Int32.toInt_sub]
  exact bmod32 h1 h2
theorem i32_mul {x y : Int32} (h1 : -2147483648 ≤ x.toInt * y.toInt) (h2 : x.toInt * y.toInt ≤ 2147483647) : (x * y).toInt = x.toInt * y.toInt := by
  rw [Int32.toInt_mul]
  exact bmod32 h1 h2
theorem in_B {x : Int32} {n k : Nat} (h1 : x.toInt = k) (h2 : k < n) : inB x n = true ∧ x.toNatClampNeg = k := by
  have h3 : vp_in x n := vp_in_iff.mpr ⟨by omega, by omega⟩
  refine ⟨decide_eq_true h3, ?_⟩
  show x.toInt.toNat = k
  omega
/-- one sign more -/
theorem pt_trm {h : List cC} {vs : List cV} {f g : Nat → Int32} {t s v : Int32} {T L : Nat} (hm : h[170]? = some (.inl (12, vs))) (v3 : vs[3]? = some (cR 172)) (v4 : vs[4]? = some (cR 173)) (v17 : vs[17]? = some (cI t)) (r1 : h[172]? = some (.inr (.inl (0, 2400, f)))) (r2 : h[173]? = some (.inr (.inl (0, 7, g)))) (ht : t.toInt = T) (hT : T < 6) (hL : (g T).toInt = L) (hL4 : L < 400) : Trm 1 226 [cR 170, cI s, cI v] h none ((h.set 172 (.inr (.inl (0, 2400, upd f (400 * T + L) (s + (Int8.ofInt 16).toInt32 * v))))).set 173 (.inr (.inl (0, 7, upd g T (g T + Int32.ofInt 1))))) := by
  have e400 : ((Int16.ofInt 400).toInt32).toInt = 400 := rfl
  have m1 : ((Int16.ofInt 400).toInt32 * t).toInt = 400 * t.toInt := by
    rw [i32_mul (by rw [e400]; omega) (by rw [e400]; omega), e400]
  have m2 : ((Int16.ofInt 400).toInt32 * t + g T).toInt = ((400 * T + L : Nat) : Int) := by
    rw [i32_add (by omega) (by omega), m1]
    omega
  obtain ⟨b1, b2⟩ := in_B (n := 2400) m2 (by omega)
  obtain ⟨c1, c2⟩ := in_B (n := 7) ht (by omega)
  have hm2 : ∀ c : cC, (h.set 172 c)[170]? = some (.inl (12, vs)) := fun c => by
    rw [List.getElem?_set_ne (by decide)]
    exact hm
  have r3 : ∀ c : cC, (h.set 172 c)[173]? = some (.inr (.inl (0, 7, g))) := fun c => by
    rw [List.getElem?_set_ne (by decide)]
    exact r2
  have s20 : ∀ (ls : List (Nat × cV)) (st : List cV), cOne (calF (Trm 0)) eM226 none (20, ls, cI t :: cR 173 :: st, h) = some (21, ls, cI (g T) :: st, h) := fun ls st => by
    have := o_iald (call := calF (Trm 0)) (M := eM226) (sc := none) (pc := 20) (ls := ls) (st := st) (i := t) rfl r2 c1
    rw [c2] at this
    exact this
  have s28 : ∀ (ls : List (Nat × cV)) (st : List cV) (x : Int32), cOne (calF (Trm 0)) eM226 none (28, ls, cI x :: cI ((Int16.ofInt 400).toInt32 * t + g T) :: cR 172 :: st, h) = some (29, ls, st, h.set 172 (.inr (.inl (0, 2400, upd f (400 * T + L) x)))) := fun ls st x => by
    have := o_iast (call := calF (Trm 0)) (M := eM226) (sc := none) (pc := 28) (ls := ls) (st := st) (x := x) rfl r1 b1
    rw [b2] at this
    exact this
  have s38 : ∀ (ls : List (Nat × cV)) (st : List cV) (c : cC), cOne (calF (Trm 0)) eM226 none (38, ls, cI t :: cR 173 :: st, h.set 172 c) = some (39, ls, cI (g T) :: st, h.set 172 c) := fun ls st c => by
    have := o_iald (call := calF (Trm 0)) (M := eM226) (sc := none) (pc := 38) (ls := ls) (st := st) (i := t) rfl (r3 c) c1
    rw [c2] at this
    exact this
  have s41 : ∀ (ls : List (Nat × cV)) (st : List cV) (c : cC) (x : Int32), cOne (calF (Trm 0)) eM226 none (41, ls, cI x :: cI t :: cR 173 :: st, h.set 172 c) = some (42, ls, st, (h.set 172 c).set 173 (.inr (.inl (0, 7, upd g T x)))) := fun ls st c x => by
    have := o_iast (call := calF (Trm 0)) (M := eM226) (sc := none) (pc := 41) (ls := ls) (st := st) (x := x) rfl (r3 c) c1
    rw [c2] at this
    exact this
  refine Trm_succ.mpr ⟨eM226, (42, [(0, cR 170), (1, cI s), (2, cI v)], [], _), rfl, Nat.le_of_ble_eq_true rfl, ?_, rfl⟩
  exact Go.step (o_aload_n (i := 0) rfl rfl) (Go.step (o_get rfl rfl rfl hm v3) (Go.step (o_step rfl rfl) (Go.step (o_aload_n (i := 0) rfl rfl) (Go.step (o_get rfl rfl rfl hm v17) (Go.step (o_step rfl rfl) (Go.step (o_aload_n (i := 0) rfl rfl) (Go.step (o_get rfl rfl rfl hm v4) (Go.step (o_aload_n (i := 0) rfl rfl) (Go.step (o_get rfl rfl rfl hm v17) (Go.step (s20 _ _) (Go.step (o_step rfl rfl) (Go.step (o_iload_n (i := 1) rfl rfl) (Go.step (o_step rfl rfl) (Go.step (o_iload_n (i := 2) rfl rfl) (Go.step (o_step rfl rfl) (Go.step (o_step rfl rfl) (Go.step (s28 _ _ _) (Go.step (o_aload_n (i := 0) rfl rfl) (Go.step (o_get rfl rfl rfl (hm2 _) v4) (Go.step (o_aload_n (i := 0) rfl rfl) (Go.step (o_get rfl rfl rfl (hm2 _) v17) (Go.step (o_step rfl rfl) (Go.step (s38 _ _ _) (Go.step (o_step rfl rfl) (Go.step (o_step rfl rfl) (Go.step (s41 _ _ _ _) Go.rf))))))))))))))))))))))))))
theorem WFs_put {h : List cC} {f f2 gc cc : Nat → Int32} {t b L : Nat} (hw : WFs h) (r1 : h[172]? = some (.inr (.inl (0, 2400, f)))) (r2 : h[174]? = some (.inr (.inl (0, 216, gc)))) (r3 : h[175]? = some (.inr (.inl (0, 6, cc)))) (hb : b ≤ L) (hL : L < 400) (ht : t < 6) (he : ∀ j : Nat, j < 12 → (j : Int) < (cc t).toInt → (gc (36 * t + 3 * j + 2)).toInt ≤ b) (hf : ∀ i : Nat, i ≠ 400 * t + L → f2 i = f i) {h2 : List cC} (q1 : h2[172]? = some (.inr (.inl (0, 2400, f2)))) (q2 : h2[174]? = h[174]?) (q3 : h2[175]? = h[175]?) : WFs h2 := by
  intro f3 g3 c3 e1 e2 e3 t' j ht' hj hc
  rw [q1] at e1
  rw [q2, r2] at e2
  rw [q3, r3] at e3
  cases e1
  cases e2
  cases e3
  obtain ⟨b', e', a1, a2, a3, a4, a5⟩ := hw f gc cc r1 r2 r3 t' j ht' hj hc
  refine ⟨b', e', a1, a2, a3, a4, ?_⟩
  rw [← a5]
  refine dep_congr _ _ _ (fun i h1 h3 => hf i ?_)
  by_cases e : t' = t
  · subst e
    have := he j hj hc
    omega
  · omega
/-- the sign x is put: what lies on the stack goes from e to e2 -/
theorem pt_ok {t b op md dp L : Nat} {o : Nat → Int32} {e e2 : Nat} {κ : Int} {s s2 : Nat} {h : List cC} (hG : HG TT [] h) (hJ : J9 h) (k1 : fv h 17 t) (hk : KZ t b op md dp L o e κ s h) (ht : t < 6) (hκ : κ ≤ 90) (hs : e2 + s2 ≤ e + s) {a v : Int32} (hx : ∀ q : Nat, q + e ≤ 60 → sOp (a + (Int8.ofInt 16).toInt32 * v) (q + e) = some (q + e2)) : ∃ h2 : List cC, Trm 1 226 [cR 170, cI a, cI v] h none h2 ∧ HG TT [] h2 ∧ Fr PT9 kTw h h2 ∧ J9 h2 ∧ KZ t b op md dp (L + 1) o e2 (κ + 1) s2 h2 ∧ ∀ (j : Nat) (z : Int), fv h j z → fv h2 j z := by
  obtain ⟨k5, f, g, gc, cc, k6, k7, k8, k9, k10, p1, p2, p3, p4, p5, p6, p7, p8, p9⟩ := hk
  obtain ⟨vs, m1, m3, m4, m5, m6, m7⟩ := mo_at hG
  obtain ⟨tx, t1, t2⟩ := fv_at m1 k1
  have hL : L < 400 := by omega
  refine ⟨_, pt_trm m1 m3 m4 t1 k6 k7 t2 ht k10 hL, ?_, ?_, ?_, ?_, fun j z hz => fv_row (by decide) (fv_row (by decide) hz)⟩
  · refine HG_putI (k := 173) (kd := 0) (n := 7) (d := (0, 400)) (gs := []) (i := t) (x := g t + Int32.ofInt 1) (f := g) (HG_putI (k := 172) (kd := 0) (n := 2400) (d := f32) (gs := []) (f := f) (i := 400 * t + L) (x := a + (Int8.ofInt 16).toInt32 * v) hG rfl k6 (in_f32 _) (fun q hq => by cases hq) (fun j => ?_)) rfl (by rw [List.getElem?_set_ne (by decide)]; exact k7) ?_ (fun q hq => by cases hq) (fun j => ?_)
    · by_cases hj : j = 400 * t + L
      · exact Or.inr ⟨hj, by rw [hj, pk_us]⟩
      · exact Or.inl (pk_un hj)
    · have e1 : (Int32.ofInt 1).toInt = 1 := rfl
      have := i32_add (x := g t) (y := Int32.ofInt 1) (by omega) (by omega)
      exact ⟨by show (0 : Int) ≤ _; omega, by show _ ≤ (400 : Int); omega⟩
    · by_cases hj : j = t
      · exact Or.inr ⟨hj, by rw [hj, pk_us]⟩
      · exact Or.inl (pk_un hj)
  · exact (Fr.rf.set k6 ⟨_, rfl, fun z => inW_ne (W := kTw) (k := 172) (j := 1000) rfl z, pNo_stay rfl _ _⟩).set (c := .inr (.inl (0, 7, g))) (by rw [List.getElem?_set_ne (by decide)]; exact k7) ⟨_, rfl, fun z => inW_ne (W := kTw) (k := 173) (j := 1000) rfl z, pNo_stay rfl _ _⟩
  · refine ⟨fun k hk kd n f' hf' => hJ.1 k hk kd n f' ?_, WFs_put hJ.2 k6 k8 k9 p1 hL ht p9 (fun i hi => pk_un hi) (by rw [List.getElem?_set_ne (by decide), List.getElem?_set_self (List.getElem?_eq_some_iff.mp k6).1]) (by rw [List.getElem?_set_ne (by decide), List.getElem?_set_ne (by decide)]) (by rw [List.getElem?_set_ne (by decide), List.getElem?_set_ne (by decide)])⟩
    unfold lawK at hk
    simp only [List.mem_cons, List.not_mem_nil, or_false] at hk
    rw [List.getElem?_set_ne (by omega), List.getElem?_set_ne (by omega)] at hf'
    exact hf'
  · have e1 : (Int32.ofInt 1).toInt = 1 := rfl
    have e2 := i32_add (x := g t) (y := Int32.ofInt 1) (by omega) (by omega)
    refine ⟨by rw [List.getElem?_set_ne (by decide), List.getElem?_set_ne (by decide)]; exact k5, _, _, gc, cc, by rw [List.getElem?_set_ne (by decide)]; exact List.getElem?_set_self (List.getElem?_eq_some_iff.mp k6).1, List.getElem?_set_self (by rw [List.length_set]; exact (List.getElem?_eq_some_iff.mp k7).1), by rw [List.getElem?_set_ne (by decide), List.getElem?_set_ne (by decide)]; exact k8, by rw [List.getElem?_set_ne (by decide), List.getElem?_set_ne (by decide)]; exact k9, by rw [pk_us]; omega, by omega, p2, p3, p4, p5, ?_, by omega, by omega, p9⟩
    rw [show L + 1 - b = (L - b) + 1 by omega, dep_snoc, dep_congr (f := f) _ _ _ (fun i h1 h3 => pk_un (by omega)), p6]
    dsimp only
    rw [show 400 * t + b + (L - b) = 400 * t + L by omega, pk_us]
    exact hx _ (by omega)
