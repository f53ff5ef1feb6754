/-! RUNS OF THE MACHINE AS A PURE FUNCTION, 1: values and cells by their places (printed by wip/engine2/gen40.py) -/
abbrev cV : Type := Option Nat ⊕ (Int32 ⊕ (Int64 ⊕ Nat))
abbrev cI (x : Int32) : cV := .inr (.inl x)
abbrev cJ (x : Int64) : cV := .inr (.inr (.inl x))
abbrev cR (k : Nat) : cV := .inl (some k)
abbrev cO (n : Nat) : cV := .inr (.inr (.inr n))
abbrev cN : cV := .inl none
/-- an object (its kind, its fields), a row of ints (kind, length, contents), of longs (length, contents), of references (kind, length, contents) -/
abbrev cC : Type := (Nat × List cV) ⊕ ((Nat × Nat × (Nat → Int32)) ⊕ ((Nat × (Nat → Int64)) ⊕ (Nat × Nat × List (Option Nat))))
abbrev cS : Type := Nat × List (Nat × cV) × List cV × List cC
/-- what lies outside; 99 is a reference or null, by 98 -/
def ov (oe : Nat → Nat) (n : Nat) : Value := match Nat.beq n 99 && Nat.beq (oe 98) 0 with
  | true => .null
  | false => .ref (oe n)
def tv (al : List Nat) (oe : Nat → Nat) : cV → Value
  | .inl none => .null
  | .inl (some k) => .ref (al.getD k 0)
  | .inr (.inl x) => .int x
  | .inr (.inr (.inl x)) => .long x
  | .inr (.inr (.inr n)) => ov oe n
theorem tv_O {al : List Nat} {oe : Nat → Nat} {n : Nat} (h : Nat.beq n 99 = false) : tv al oe (.inr (.inr (.inr n))) = .ref (oe n) := by
  show ov oe n = _
  unfold ov
  rw [h]
  rfl
def tl (al : List Nat) (oe : Nat → Nat) (ls : List (Nat × cV)) : List (Nat × Value) := ls.map (fun q => (q.1, tv al oe q.2))
def tr (al : List Nat) (o : Option Nat) : Option Nat := o.map (fun k => al.getD k 0)
def hC (tys : List (ClassId × FieldType)) (al : List Nat) (oe : Nat → Nat) (c : cC) (e : va_E) : Prop := match c with
  | .inl (ci, fs) => e = .inr (ci, fs.map (tv al oe))
  | .inr (.inl (kd, n, f)) => kd < 3 ∧ n < 2147483648 ∧ ∃ (cA : ClassId) (t0 : Nat), tys[t0]? = some (cA, kT kd) ∧ e = .inl (cA, n, .inl f)
  | .inr (.inr (.inl (n, f))) => n < 2147483648 ∧ ∃ (cA : ClassId) (t0 : Nat), tys[t0]? = some (cA, .long) ∧ e = .inl (cA, n, .inr (.inl f))
  | .inr (.inr (.inr (ci, n, rs))) => n < 2147483648 ∧ ∃ (cA : ClassId) (t0 : Nat) (r : vw_C) (f : Nat → Option Nat), classes[ci]? = some r ∧ tys[t0]? = some (cA, .object r.1) ∧ e = .inl (cA, n, .inr (.inr (.inr (.inr f)))) ∧ ∀ j, j < n → f j = tr al (rs.getD j none)
def hW (tys : List (ClassId × FieldType)) (al : List Nat) (oe : Nat → Nat) (h : List cC) (ws : va_W) : Prop := h.length = ws.length ∧ ∀ (k : Nat) (c : cC), h[k]? = some c → ∃ e : va_E, ws[k]? = some (al.getD k 0, e) ∧ hC tys al oe c e
def cG (s : State) (D : va_G) (A : Nat → Prop) (al : List Nat) (oe : Nat → Nat) (h : List cC) (H : Heap) (locs : List Loc) : Prop :=
  ∃ (ws : va_W) (tys : List (ClassId × FieldType)), va_K D classes tys s ∧ va_P D classes ws H ∧ va_D A ws ∧ va_S A s.heap H locs ∧ adr ws = al ∧ hW tys al oe h ws
def cK (p : Program) (l : Launch) (e : Env) (R : Room) (s : State) (m : MethodId) (args : Array Value) (below : List Frame) (meth : Method) (c : Code) (cl sl : Nat) (Q : State → Prop) (D : va_G) (A : Nat → Prop) (al : List Nat) (oe : Nat → Nat) (nL : Nat) (pc : Nat) (ls : List (Nat × cV)) (st : List cV) (h : List cC) : Prop :=
  ∀ (H : Heap) (locs : List Loc) (lsC : Array Slot), cG s D A al oe h H locs → lv_has lsC nL (tl al oe ls) → W p l e R s m args below meth c H locs cl sl Q (F0 m pc lsC (st.map (tv al oe)))
theorem hW_set {tys : List (ClassId × FieldType)} {al : List Nat} {oe : Nat → Nat} {h : List cC} {ws : va_W} (g : hW tys al oe h ws) {k : Nat} {e0 e : va_E} {c : cC} (hk : ws[k]? = some (al.getD k 0, e0)) (hc : hC tys al oe c e) : hW tys al oe (h.set k c) (ws.set k (al.getD k 0, e)) := by
  refine ⟨by rw [List.length_set, List.length_set]; exact g.1, fun j c' hj => ?_⟩
  by_cases hjk : j = k
  · subst hjk
    have hl := (List.getElem?_eq_some_iff.mp hk).1
    rw [List.getElem?_set_self (by rw [g.1]; exact hl)] at hj
    cases hj
    exact ⟨e, List.getElem?_set_self hl, hc⟩
  · rw [List.getElem?_set_ne (Ne.symm hjk)] at hj
    obtain ⟨e', h1, h2⟩ := g.2 j c' hj
    exact ⟨e', by rw [List.getElem?_set_ne (Ne.symm hjk)]; exact h1, h2⟩
def clk : List (Nat × cV) → Nat → Option cV
  | [], _ => none
  | (k, v) :: r, i => match Nat.beq k i with
    | true => some v
    | false => clk r i
theorem clk_mem : ∀ {ls : List (Nat × cV)} {i : Nat} {a : cV}, clk ls i = some a → (i, a) ∈ ls
  | [], i, a, h => by cases h
  | (k, v) :: r, i, a, h => by
    unfold clk at h
    cases hk : Nat.beq k i with
    | true =>
      rw [hk] at h
      cases h
      rw [← nbeq_t hk]
      exact List.mem_cons_self
    | false =>
      rw [hk] at h
      exact List.mem_cons_of_mem _ (clk_mem h)
theorem tl_at {al : List Nat} {oe : Nat → Nat} {ls : List (Nat × cV)} {lsC : Array Slot} {nL i : Nat} {a : cV} (hl : lv_has lsC nL (tl al oe ls)) (hk : clk ls i = some a) : lsC[i]? = some (.val (tv al oe a)) := hl.2.2 (i, tv al oe a) (List.mem_map.mpr ⟨(i, a), clk_mem hk, rfl⟩)
def wide : cV → Bool
  | .inr (.inr (.inl _)) => true
  | _ => false
theorem wide_cat (al : List Nat) (oe : Nat → Nat) (a : cV) : (tv al oe a).category = (match wide a with
  | true => 2
  | false => 1) := by
  match a with
  | .inl none => rfl
  | .inl (some k) => rfl
  | .inr (.inl x) => rfl
  | .inr (.inr (.inl x)) => rfl
  | .inr (.inr (.inr n)) =>
    show (ov oe n).category = 1
    unfold ov
    cases Nat.beq n 99 && Nat.beq (oe 98) 0 <;> rfl
theorem wide_f {al : List Nat} {oe : Nat → Nat} {a : cV} (h : wide a = false) : (tv al oe a).category = 1 := by rw [wide_cat, h]
def ckI (i : Nat) (q : Nat × cV) : Bool := !(Nat.beq q.1 i) && !(Nat.beq (q.1 + 1) i && wide q.2)
def ckJ (i : Nat) (q : Nat × cV) : Bool := !(Nat.beq q.1 i) && (!(Nat.beq q.1 (i + 1)) && !(Nat.beq (q.1 + 1) i && wide q.2))
theorem cat_b (al : List Nat) (oe : Nat → Nat) (a : cV) : ((tv al oe a).category == 2) = wide a := by
  rw [wide_cat]
  cases wide a <;> rfl
theorem tl_I (al : List Nat) (oe : Nat → Nat) (i : Nat) : ∀ ls : List (Nat × cV), (tl al oe ls).filter (fun q => !(q.1 == i) && !(q.1 + 1 == i && q.2.category == 2)) = tl al oe (ls.filter (ckI i))
  | [] => rfl
  | q :: r => by
    have ih := tl_I al oe i r
    unfold tl at ih ⊢
    rw [List.map_cons, List.filter_cons, List.filter_cons]
    have e : (!((q.1, tv al oe q.2).1 == i) && !((q.1, tv al oe q.2).1 + 1 == i && (q.1, tv al oe q.2).2.category == 2)) = ckI i q := by
      unfold ckI
      dsimp only
      rw [cat_b, nbeq_b, nbeq_b]
    rw [e]
    cases ckI i q with
    | true => simp only [if_true, List.map_cons, ih]
    | false => simp only [Bool.false_eq_true, if_false, ih]
theorem tl_J (al : List Nat) (oe : Nat → Nat) (i : Nat) : ∀ ls : List (Nat × cV), (tl al oe ls).filter (fun q => !(q.1 == i) && (!(q.1 == i + 1) && !(q.1 + 1 == i && q.2.category == 2))) = tl al oe (ls.filter (ckJ i))
  | [] => rfl
  | q :: r => by
    have ih := tl_J al oe i r
    unfold tl at ih ⊢
    rw [List.map_cons, List.filter_cons, List.filter_cons]
    have e : (!((q.1, tv al oe q.2).1 == i) && (!((q.1, tv al oe q.2).1 == i + 1) && !((q.1, tv al oe q.2).1 + 1 == i && (q.1, tv al oe q.2).2.category == 2))) = ckJ i q := by
      unfold ckJ
      dsimp only
      rw [cat_b, nbeq_b, nbeq_b, nbeq_b]
    rw [e]
    cases ckJ i q with
    | true => simp only [if_true, List.map_cons, ih]
    | false => simp only [Bool.false_eq_true, if_false, ih]
