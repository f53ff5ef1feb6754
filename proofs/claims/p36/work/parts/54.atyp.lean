/-! THE CHECKER, 5: types of the cells, good at every point of a run -/
/-- a field: an int between bounds, an int that is a ghost, a long, one of these places, something outside -/
abbrev fT : Type := eP ⊕ (Nat ⊕ (Unit ⊕ (List Nat ⊕ Nat)))
/-- a strip of a row: start, stride, count, bounds -/
abbrev sG : Type := Nat × Nat × Nat × eP
def inS (q : sG) (j : Nat) : Prop := ∃ i : Nat, i < q.2.2.1 ∧ j = q.1 + q.2.1 * i
abbrev tT : Type := (Nat × List fT) ⊕ ((Nat × Nat × eP × List sG) ⊕ (Nat ⊕ (Nat × Nat × List (Option Nat))))
def fV (w : List Int) (t : fT) (v : cV) : Prop := match t with
  | .inl b => ∃ x : Int32, v = cI x ∧ bt2 b x.toInt
  | .inr (.inl i) => ∃ x : Int32, v = cI x ∧ w[i]? = some x.toInt
  | .inr (.inr (.inl _)) => ∃ x : Int64, v = cJ x
  | .inr (.inr (.inr (.inl ks))) => ∃ k : Nat, k ∈ ks ∧ v = cR k
  | .inr (.inr (.inr (.inr n))) => v = cO n
def fsV (w : List Int) : List fT → List cV → Prop
  | [], [] => True
  | t :: ts, v :: vs => fV w t v ∧ fsV w ts vs
  | _, _ => False
def rI (n : Nat) (d : eP) (gs : List sG) (f : Nat → Int32) : Prop := ∀ j : Nat, j < n → bt2 d (f j).toInt ∧ ∀ q ∈ gs, inS q j → bt2 q.2.2.2 (f j).toInt
def tC (w : List Int) (t : tT) (c : cC) : Prop := match t with
  | .inl (ci, ts) => ∃ vs : List cV, c = .inl (ci, vs) ∧ fsV w ts vs
  | .inr (.inl (kd, n, d, gs)) => ∃ f : Nat → Int32, c = .inr (.inl (kd, n, f)) ∧ rI n d gs f
  | .inr (.inr (.inl n)) => ∃ f : Nat → Int64, c = .inr (.inr (.inl (n, f)))
  | .inr (.inr (.inr (ci, n, rs))) => c = .inr (.inr (.inr (ci, n, rs)))
def HG (T : List tT) (w : List Int) (h : List cC) : Prop := h.length = T.length ∧ ∀ (k : Nat) (t : tT), T[k]? = some t → ∃ c : cC, h[k]? = some c ∧ tC w t c
theorem fsV_at {w : List Int} : ∀ {ts : List fT} {vs : List cV} {j : Nat} {t : fT}, fsV w ts vs → ts[j]? = some t → ∃ v : cV, vs[j]? = some v ∧ fV w t v
  | [], [], j, t, _, h => by cases h
  | t0 :: ts, v0 :: vs, 0, t, g, h => by
    cases h
    exact ⟨v0, rfl, g.1⟩
  | t0 :: ts, v0 :: vs, j + 1, t, g, h => fsV_at (ts := ts) (vs := vs) (j := j) g.2 h
  | [], _ :: _, _, _, g, _ => g.elim
  | _ :: _, [], _, _, g, _ => g.elim
theorem fsV_set {w : List Int} : ∀ {ts : List fT} {vs : List cV} {j : Nat} {t : fT} {v : cV}, fsV w ts vs → ts[j]? = some t → fV w t v → fsV w ts (vs.set j v)
  | [], [], j, t, v, _, h, _ => by cases h
  | t0 :: ts, v0 :: vs, 0, t, v, g, h, hv => by
    cases h
    exact ⟨hv, g.2⟩
  | t0 :: ts, v0 :: vs, j + 1, t, v, g, h, hv => ⟨g.1, fsV_set (ts := ts) (vs := vs) (j := j) g.2 h hv⟩
  | [], _ :: _, _, _, _, g, _, _ => g.elim
  | _ :: _, [], _, _, _, g, _, _ => g.elim
theorem HG_set {T : List tT} {w : List Int} {h : List cC} (g : HG T w h) {k : Nat} {t : tT} {c : cC} (ht : T[k]? = some t) (hc : tC w t c) : HG T w (h.set k c) := by
  refine ⟨by rw [List.length_set]; exact g.1, fun j t' hj => ?_⟩
  by_cases hjk : j = k
  · subst hjk
    rw [ht] at hj
    cases hj
    have hl := (List.getElem?_eq_some_iff.mp ht).1
    exact ⟨c, List.getElem?_set_self (by rw [g.1]; exact hl), hc⟩
  · obtain ⟨c', h1, h2⟩ := g.2 j t' hj
    exact ⟨c', by rw [List.getElem?_set_ne (Ne.symm hjk)]; exact h1, h2⟩
/-- a field is read -/
theorem HG_get {T : List tT} {w : List Int} {h : List cC} (g : HG T w h) {k j ci : Nat} {ts : List fT} {t : fT} (ht : T[k]? = some (.inl (ci, ts))) (hj : ts[j]? = some t) : ∃ (vs : List cV) (v : cV), h[k]? = some (.inl (ci, vs)) ∧ vs[j]? = some v ∧ fV w t v := by
  obtain ⟨c, h1, vs, h2, h3⟩ := g.2 k _ ht
  obtain ⟨v, h4, h5⟩ := fsV_at h3 hj
  exact ⟨vs, v, by rw [h1, h2], h4, h5⟩
/-- a field is written -/
theorem HG_put {T : List tT} {w : List Int} {h : List cC} (g : HG T w h) {k j ci : Nat} {ts : List fT} {t : fT} {v : cV} {vs : List cV} (ht : T[k]? = some (.inl (ci, ts))) (hj : ts[j]? = some t) (hk : h[k]? = some (.inl (ci, vs))) (hv : fV w t v) : HG T w (h.set k (.inl (ci, vs.set j v))) := by
  obtain ⟨c, h1, vs', h2, h3⟩ := g.2 k _ ht
  rw [hk, h2] at h1
  cases h1
  exact HG_set g ht ⟨_, rfl, fsV_set h3 hj hv⟩
/-- a number of a row is written -/
theorem HG_putI {T : List tT} {w : List Int} {h : List cC} (g : HG T w h) {k kd n : Nat} {d : eP} {gs : List sG} {f : Nat → Int32} {i : Nat} {x : Int32} {f2 : Nat → Int32} (ht : T[k]? = some (.inr (.inl (kd, n, d, gs)))) (hk : h[k]? = some (.inr (.inl (kd, n, f)))) (hd : bt2 d x.toInt) (hq : ∀ q ∈ gs, inS q i → bt2 q.2.2.2 x.toInt) (hf : ∀ j : Nat, f2 j = f j ∨ (j = i ∧ f2 j = x)) : HG T w (h.set k (.inr (.inl (kd, n, f2)))) := by
  obtain ⟨c, h1, f', h2, h3⟩ := g.2 k _ ht
  rw [hk, h2] at h1
  cases h1
  refine HG_set g ht ⟨f2, rfl, fun j hj => ?_⟩
  rcases hf j with e | ⟨e1, e2⟩
  · rw [e]
    exact h3 j hj
  · subst e1
    rw [e2]
    exact ⟨hd, hq⟩
/-- a place of a row that is an expression: surely in a strip, surely out of one -/
def segIn (B : List eP) (e : aX) (q : sG) : Bool := match e with
  | .inl c => iLe q.1 c && iLt c (q.1 + q.2.1 * q.2.2.1) && iLe 1 q.2.1 && Nat.beq ((c - q.1).toNat % q.2.1) 0
  | .inr (c, k, i) => match B[i]? with
    | some b => iLe 0 b.1 && iLe q.1 (c + k * b.1) && iLe 1 q.2.1 && iLt (c + k * b.2) (q.1 + q.2.1 * q.2.2.1) && iLe q.1 c && iLe 0 k && Nat.beq ((c - q.1).toNat % q.2.1) 0 && Nat.beq (k.toNat % q.2.1) 0
    | none => false
def segOut (B : List eP) (e : aX) (q : sG) : Bool := iLt (xb B e).2 q.1 || (iLe 1 q.2.1 && iLe (q.1 + q.2.1 * q.2.2.1) (xb B e).1) || (match e with
  | .inl c => iLe q.1 c && iLe 1 q.2.1 && Nat.ble 1 ((c - q.1).toNat % q.2.1)
  | .inr (c, k, i) => match B[i]? with
    | some b => iLe 0 b.1 && iLe q.1 c && iLe 0 k && iLe 1 q.2.1 && Nat.ble 1 ((c - q.1).toNat % q.2.1) && Nat.beq (k.toNat % q.2.1) 0
    | none => false)
