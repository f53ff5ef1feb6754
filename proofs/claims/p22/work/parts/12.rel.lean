/-! THE ENGINE, 2: what an abstract state says of the machine's -/
def gV (al : List Nat) (oe : Nat → Nat) (a : eV) (v : Value) : Prop := match a with
  | .inl none => v = .null
  | .inl (some k) => ∃ x : Nat, al[k]? = some x ∧ v = .ref x
  | .inr (.inl q) => ∃ x : Int32, v = .int x ∧ bt2 q x.toInt
  | .inr (.inr (.inl q)) => ∃ x : Int64, v = .long x ∧ bt2 q x.toInt
  | .inr (.inr (.inr k)) => v = .ref (oe k)
def gS (al : List Nat) (oe : Nat → Nat) : List eV → List Value → Prop
  | [], [] => True
  | a :: as, v :: vs => gV al oe a v ∧ gS al oe as vs
  | _, _ => False
def gR (al : List Nat) (r : Option Nat) (o : Option Nat) : Prop := match r with
  | none => o = none
  | some k => ∃ x : Nat, al[k]? = some x ∧ o = some x
def kT : Nat → FieldType
  | 0 => .int
  | 1 => .byte
  | 2 => .boolean
  | _ => .long
def gC (tys : List (ClassId × FieldType)) (al : List Nat) (oe : Nat → Nat) (c : eC) (e : va_E) : Prop := match c with
  | .inl (ci, fs) => ∃ vs : List Value, e = .inr (ci, vs) ∧ gS al oe fs vs
  | .inr (.inl (kd, n, q)) => ∃ cA : ClassId, (∃ t0 : Nat, tys[t0]? = some (cA, kT kd)) ∧ n < 2147483648 ∧ ((kd < 3 ∧ ∃ f : Nat → Int32, e = .inl (cA, n, .inl f) ∧ ∀ j, j < n → bt2 (aLook q.2 q.1 j) (f j).toInt) ∨ (kd = 3 ∧ ∃ f : Nat → Int64, e = .inl (cA, n, .inr (.inl f)) ∧ ∀ j, j < n → bt2 (aLook q.2 q.1 j) (f j).toInt))
  | .inr (.inr (ci, n, rs)) => ∃ (cA : ClassId) (r : vw_C) (f : Nat → Option Nat), classes[ci]? = some r ∧ (∃ t0 : Nat, tys[t0]? = some (cA, .object r.1)) ∧ n < 2147483648 ∧ e = .inl (cA, n, .inr (.inr (.inr (.inr f)))) ∧ ∀ j, j < n → gR al (rs.getD j none) (f j)
def adr (ws : va_W) : List Nat := ws.map (fun q => q.1)
def gW (tys : List (ClassId × FieldType)) (oe : Nat → Nat) (h : List eC) (ws : va_W) : Prop := h.length = ws.length ∧ ∀ (k : Nat) (c : eC), h[k]? = some c → ∃ (a : Nat) (e : va_E), ws[k]? = some (a, e) ∧ gC tys (adr ws) oe c e
def gL (al : List Nat) (oe : Nat → Nat) (ls : List (Nat × eV)) (lv : List (Nat × Value)) : Prop := ∀ q ∈ ls, ∃ v : Value, (q.1, v) ∈ lv ∧ gV al oe q.2 v
theorem pre_get {al al' : List Nat} (h : al <+: al') {k x : Nat} (hk : al[k]? = some x) : al'[k]? = some x := by
  obtain ⟨t, rfl⟩ := h
  have hl := (List.getElem?_eq_some_iff.mp hk).1
  rw [List.getElem?_append_left hl]
  exact hk
theorem gV_mono {al al' : List Nat} (h : al <+: al') {oe : Nat → Nat} {a : eV} {v : Value} (g : gV al oe a v) : gV al' oe a v := by
  match a, g with
  | .inl none, g => exact g
  | .inl (some k), ⟨x, hx, hv⟩ => exact ⟨x, pre_get h hx, hv⟩
  | .inr (.inl q), g => exact g
  | .inr (.inr (.inl q)), g => exact g
  | .inr (.inr (.inr k)), g => exact g
theorem gS_mono {al al' : List Nat} (h : al <+: al') {oe : Nat → Nat} : ∀ {as : List eV} {vs : List Value}, gS al oe as vs → gS al' oe as vs
  | [], [], _ => trivial
  | a :: as, v :: vs, g => ⟨gV_mono h g.1, gS_mono h g.2⟩
  | [], _ :: _, g => g.elim
  | _ :: _, [], g => g.elim
theorem gR_mono {al al' : List Nat} (h : al <+: al') {r o : Option Nat} (g : gR al r o) : gR al' r o := by
  match r, g with
  | none, g => exact g
  | some k, ⟨x, hx, ho⟩ => exact ⟨x, pre_get h hx, ho⟩
theorem pre_ty {tys tys' : List (ClassId × FieldType)} (h : tys <+: tys') {cA : ClassId} {ty : FieldType} (g : ∃ t0 : Nat, tys[t0]? = some (cA, ty)) : ∃ t0 : Nat, tys'[t0]? = some (cA, ty) := by
  obtain ⟨t0, ht⟩ := g
  obtain ⟨t, rfl⟩ := h
  refine ⟨t0, ?_⟩
  have hl := (List.getElem?_eq_some_iff.mp ht).1
  rw [List.getElem?_append_left hl]
  exact ht
theorem gC_mono {al al' : List Nat} (h : al <+: al') {tys tys' : List (ClassId × FieldType)} (ht : tys <+: tys') {oe : Nat → Nat} {c : eC} {e : va_E} (g : gC tys al oe c e) : gC tys' al' oe c e := by
  match c, g with
  | .inl (ci, fs), ⟨vs, he, hs⟩ => exact ⟨vs, he, gS_mono h hs⟩
  | .inr (.inl (kd, n, q)), ⟨cA, h1, h2⟩ => exact ⟨cA, pre_ty ht h1, h2⟩
  | .inr (.inr (ci, n, rs)), ⟨cA, r, f, h1, h2, h3, h4, h5⟩ => exact ⟨cA, r, f, h1, pre_ty ht h2, h3, h4, fun j hj => gR_mono h (h5 j hj)⟩
theorem gL_mono {al al' : List Nat} (h : al <+: al') {oe : Nat → Nat} {ls : List (Nat × eV)} {lv : List (Nat × Value)} (g : gL al oe ls lv) : gL al' oe ls lv := fun q hq => by
  obtain ⟨v, h1, h2⟩ := g q hq
  exact ⟨v, h1, gV_mono h h2⟩
theorem adr_set {ws : va_W} {k a : Nat} {e0 e : va_E} (h : ws[k]? = some (a, e0)) : adr (ws.set k (a, e)) = adr ws := by
  unfold adr
  apply List.ext_getElem?
  intro j
  rw [List.getElem?_map, List.getElem?_map]
  by_cases hj : j = k
  · subst hj
    rw [List.getElem?_set_self (List.getElem?_eq_some_iff.mp h).1, h]
    rfl
  · rw [List.getElem?_set_ne (Ne.symm hj)]
theorem adr_at {ws : va_W} {k a : Nat} {e : va_E} (h : ws[k]? = some (a, e)) : (adr ws)[k]? = some a := by
  unfold adr
  rw [List.getElem?_map, h]
  rfl
theorem gW_set {tys : List (ClassId × FieldType)} {oe : Nat → Nat} {h : List eC} {ws : va_W} (g : gW tys oe h ws) {k a : Nat} {e0 e : va_E} {c : eC} (hk : ws[k]? = some (a, e0)) (hc : gC tys (adr ws) oe c e) : gW tys oe (h.set k c) (ws.set k (a, e)) := by
  refine ⟨by rw [List.length_set, List.length_set]; exact g.1, fun j c' hj => ?_⟩
  rw [adr_set hk]
  by_cases hjk : j = k
  · subst hjk
    have hl := (List.getElem?_eq_some_iff.mp hk).1
    rw [List.getElem?_set_self (by rw [g.1]; exact hl)] at hj
    cases hj
    exact ⟨a, e, List.getElem?_set_self hl, hc⟩
  · rw [List.getElem?_set_ne (Ne.symm hjk)] at hj
    obtain ⟨a', e', h1, h2⟩ := g.2 j c' hj
    exact ⟨a', e', by rw [List.getElem?_set_ne (Ne.symm hjk)]; exact h1, h2⟩
theorem adr_push (ws : va_W) (q : Nat) (e : va_E) : adr (ws ++ [(q, e)]) = adr ws ++ [q] := by
  unfold adr
  rw [List.map_append]
  rfl
theorem adr_pre (ws : va_W) (q : Nat) (e : va_E) : adr ws <+: adr (ws ++ [(q, e)]) := by
  rw [adr_push]
  exact List.prefix_append _ _
theorem adr_new (ws : va_W) (q : Nat) (e : va_E) : (adr (ws ++ [(q, e)]))[ws.length]? = some q := by
  rw [adr_push, List.getElem?_append_right (by unfold adr; rw [List.length_map]; exact Nat.le_refl _)]
  unfold adr
  rw [List.length_map, Nat.sub_self]
  rfl
theorem gW_push {tys tys' : List (ClassId × FieldType)} {oe : Nat → Nat} {h : List eC} {ws : va_W} (g : gW tys oe h ws) (ht : tys <+: tys') {q : Nat} {e : va_E} {c : eC} (hc : gC tys' (adr (ws ++ [(q, e)])) oe c e) : gW tys' oe (h ++ [c]) (ws ++ [(q, e)]) := by
  refine ⟨by rw [List.length_append, List.length_append, g.1]; rfl, fun j c' hj => ?_⟩
  by_cases hl : j < h.length
  · rw [List.getElem?_append_left hl] at hj
    obtain ⟨a', e', h1, h2⟩ := g.2 j c' hj
    refine ⟨a', e', ?_, gC_mono (adr_pre ws q e) ht h2⟩
    rw [List.getElem?_append_left (by rw [← g.1]; exact hl)]
    exact h1
  · rw [List.getElem?_append_right (by omega)] at hj
    have hz : j - h.length < 1 := (List.getElem?_eq_some_iff.mp hj).1
    have hj0 : j = h.length := by omega
    subst hj0
    rw [Nat.sub_self] at hj
    cases hj
    refine ⟨q, e, ?_, hc⟩
    rw [g.1, List.getElem?_append_right (Nat.le_refl _), Nat.sub_self]
    rfl
/-- the frame of a method: its world, its numbers and its stack are as the abstract state says -/
def eG (s : State) (D : va_G) (A : Nat → Prop) (al0 : List Nat) (oe : Nat → Nat) (nL : Nat) (ls : List (Nat × eV)) (st : List eV) (h : List eC) (H : Heap) (locs : List Loc) (lsC : Array Slot) (stC : List Value) : Prop :=
  ∃ (ws : va_W) (tys : List (ClassId × FieldType)), va_K D classes tys s ∧ va_P D classes ws H ∧ va_D A ws ∧ va_S A s.heap H locs ∧ al0 <+: adr ws ∧ gW tys oe h ws ∧ (∃ lv : List (Nat × Value), lv_has lsC nL lv ∧ gL (adr ws) oe ls lv) ∧ gS (adr ws) oe st stC
def eK (p : Program) (l : Launch) (e : Env) (R : Room) (s : State) (m : MethodId) (args : Array Value) (below : List Frame) (meth : Method) (c : Code) (Q : State → Prop) (D : va_G) (A : Nat → Prop) (al0 : List Nat) (oe : Nat → Nat) (nL : Nat) (pc : Nat) (ls : List (Nat × eV)) (st : List eV) (h : List eC) (cl sl : Nat) : Prop :=
  ∀ (H : Heap) (locs : List Loc) (lsC : Array Slot) (stC : List Value), eG s D A al0 oe nL ls st h H locs lsC stC → W p l e R s m args below meth c H locs cl sl Q (F0 m pc lsC stC)
