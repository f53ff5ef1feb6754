/-! THE LAW: its end, its scripts by boxes -/
def eFin (S : eS) : Bool := Nat.ble S.2.2.2.2.1 600000 && (Nat.ble S.2.2.2.2.2 7302250 && (match fnd (m_il mL) S.1 with
  | some (.ireturn, 1) => (match S.2.2.1 with
    | [.inr (.inl q)] => iLe 1 q.1 && iLe q.2 1
    | _ => false)
  | _ => false))
theorem mL_b : m_b mL = code := rfl
theorem mL_dec : ∀ q ∈ m_il mL, decode (m_b mL) q.1 = .ok q.2 := fun q hq => of_decide_eq_true (List.all_eq_true.mp mLk_ok.1 q hq)
section
variable {p : Program} {l : Launch} {e : Env} {s : State} {m : MethodId} {b : Nat} {below : List Frame} {meth : Method} {c : Code} {D : va_G} {A : Nat → Prop} {al0 : List Nat} {oe : Nat → Nat}
theorem eFin_ok (hx : p.tables.exec = Jvm.exec) (hb : c.code = code) (hr : meth.sig.returnType = ret) (hlocks : meth.locks = false) (hA : ∀ q, A q → s.heap.size ≤ q) {S : eS} (hs : eFin S = true) : eK p l e room_1 s m #[Value.ref b] below meth c (lw_Z below #[Value.ref b] s) D A al0 oe 4 S.1 S.2.1 S.2.2.1 S.2.2.2.1 S.2.2.2.2.1 S.2.2.2.2.2 := by
  obtain ⟨pc, ls, st, h, cl, sl⟩ := S
  unfold eFin at hs
  obtain ⟨h1, h2⟩ := and_inv hs
  obtain ⟨h2, h3⟩ := and_inv h2
  have r1 : cl ≤ 600000 := Nat.le_of_ble_eq_true h1
  have r2 : sl ≤ 7302250 := Nat.le_of_ble_eq_true h2
  intro H locs lsC stC g
  obtain ⟨ws, tys, hK, hP, hD, hS, ha, hW, ⟨lv, hl, hL⟩, hst⟩ := g
  dsimp only at h3 hst ⊢
  split at h3
  · rename_i hf
    split at h3
    · obtain ⟨z1, z2⟩ := and_inv h3
      rw [iLe_ok] at z1 z2
      match stC, hst with
      | [_], ⟨⟨x, rfl, hq⟩, _⟩ =>
        have q1 := hq.1
        have q2 := hq.2
        have e1 : x = 1 := Int32.toInt_inj.mp (show x.toInt = 1 by omega)
        subst e1
        refine va_forget (fun q hq => hA _ (hS.2.2 q hq)) ?_
        refine W.widen r1 r2 ?_
        have hd : decode (m_b mL) pc = .ok (.ireturn, 1) := mL_dec (pc, (.ireturn, 1)) (fnd_mem hf)
        rw [mL_b] at hd
        exact lw_ret hx hb hr hlocks hd
    · cases h3
  · cases h3
end
/-- the law at its switch, with an op on the stack, and a script of a box: it comes to its end -/
def gdB (op : eP) (bx : List eP) : Prop := ∀ (p : Program) (l : Launch) (e : Env) (s : State) (m : MethodId) (b : Nat) (below : List Frame) (meth : Method) (c : Code) (D : va_G) (A : Nat → Prop) (oe : Nat → Nat), eCx p l room_1 s m #[Value.ref b] meth c D A oe mL (eCall 8) 8 (some bx) → meth.sig.returnType = ret → meth.locks = false → (∀ q, A q → s.heap.size ≤ q) → eK p l e room_1 s m #[Value.ref b] below meth c (lw_Z below #[Value.ref b] s) D A [] oe 4 33 S0.2.1 [eI op] S0.2.2.2.1 205 23799
noncomputable def bxRun (op : eP) (bx : List eP) : Bool := match eLoop (eCall 8) mL (some bx) 999999 4000 (33, S0.2.1, [eI op], S0.2.2.2.1, 205, 23799) with
  | some S => eFin S
  | none => false
theorem gdB_run {op : eP} {bx : List eP} (h : bxRun op bx = true) : gdB op bx := by
  intro p l e s m b below meth c D A oe X hr hlocks hA
  unfold bxRun at h
  split at h
  · rename_i S hS
    exact eLoop_ok X mL_dec (eFin_ok X.1 (by rw [← mL_b]; exact X.2.1) hr hlocks hA h) 4000 _ hS
  · cases h
theorem gdB_split {op : eP} {bx bx1 bx2 : List eP} (a : Nat) (lo t hi : Int) (h0 : bx[a]? = some (lo, hi)) (h1 : bx1 = bx.set a (lo, t - 1)) (h2 : bx2 = bx.set a (t, hi)) (g1 : gdB op bx1) (g2 : gdB op bx2) : gdB op bx := by
  intro p l e s m b below meth c D A oe X hr hlocks hA
  obtain ⟨x1, x2, x3, x4, x5, x6, x7, x8, x9, x10, x11, x12, x13, x14, x15⟩ := X
  obtain ⟨b0, xs, y1, y2, y3, y4, y5, y6⟩ := x14 bx rfl
  have hq := y6 a _ h0
  have q1 := hq.1
  have q2 := hq.2
  have hal := (List.getElem?_eq_some_iff.mp h0).1
  have key : ∀ (lo2 hi2 : Int), lo2 ≤ (xs a).toInt → (xs a).toInt ≤ hi2 → eScr A oe s (some (bx.set a (lo2, hi2))) := by
    intro lo2 hi2 z1 z2 bx9 hb9
    cases hb9
    refine ⟨b0, xs, by rw [List.length_set]; exact y1, y2, y3, y4, by rw [List.length_set]; exact y5, fun j q hj => ?_⟩
    by_cases hja : j = a
    · subst hja
      rw [List.getElem?_set_self hal] at hj
      cases hj
      exact ⟨z1, z2⟩
    · rw [List.getElem?_set_ne (Ne.symm hja)] at hj
      exact y6 j q hj
  by_cases hx : (xs a).toInt < t
  · subst h1
    exact g1 p l e s m b below meth c D A oe ⟨x1, x2, x3, x4, x5, x6, x7, x8, x9, x10, x11, x12, x13, key lo (t - 1) q1 (by omega), x15⟩ hr hlocks hA
  · subst h2
    exact g2 p l e s m b below meth c D A oe ⟨x1, x2, x3, x4, x5, x6, x7, x8, x9, x10, x11, x12, x13, key t hi (by omega) q2, x15⟩ hr hlocks hA
/-- more ops, one by one -/
theorem gdB_op {bx : List eP} (lo mid hi : Int) (g1 : gdB (lo, mid) bx) (g2 : gdB (mid + 1, hi) bx) : gdB (lo, hi) bx := by
  intro p l e s m b below meth c D A oe X hr hlocks hA H locs lsC stC g
  obtain ⟨ws, tys, hK, hP, hD, hS, ha, hW, hll, hst⟩ := g
  match stC, hst with
  | [_], ⟨⟨x, rfl, hq⟩, _⟩ =>
    have q1 := hq.1
    have q2 := hq.2
    by_cases hx : x.toInt ≤ mid
    · exact g1 p l e s m b below meth c D A oe X hr hlocks hA H locs lsC _ ⟨ws, tys, hK, hP, hD, hS, ha, hW, hll, ⟨x, rfl, q1, hx⟩, trivial⟩
    · exact g2 p l e s m b below meth c D A oe X hr hlocks hA H locs lsC _ ⟨ws, tys, hK, hP, hD, hS, ha, hW, hll, ⟨x, rfl, by show mid + 1 ≤ x.toInt; omega, q2⟩, trivial⟩
abbrev fBx : List eP := [f32, f32, f32, f32, f32, f32, f32]
