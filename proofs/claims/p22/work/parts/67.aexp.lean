/-! THE CHECKER, 18: along all ways up to the places where it stops -/
def lift (f : aS → Option (List aS)) : List aS → Option (List aS)
  | [] => some []
  | a :: as => match f a, lift f as with
    | some x, some y => some (x ++ y)
    | _, _ => none
theorem lift_mem {f : aS → Option (List aS)} : ∀ {as l : List aS}, lift f as = some l → ∀ a ∈ as, ∃ x : List aS, f a = some x ∧ ∀ b ∈ x, b ∈ l
  | [], l, h, a, ha => by cases ha
  | a0 :: as, l, h, a, ha => by
    unfold lift at h
    split at h
    · rename_i x y hx hy
      cases h
      rcases List.mem_cons.mp ha with e | ha2
      · subst e
        exact ⟨x, hx, fun b hb => List.mem_append_left _ hb⟩
      · obtain ⟨z, h1, h2⟩ := lift_mem hy a ha2
        exact ⟨z, h1, fun b hb => List.mem_append_right _ (h2 b hb)⟩
    · cases h
def qStp (T : List tT) (M : eM) (a : aS) : Option (List aS) := match fnd (m_il M) a.1 with
  | some (ins, len) => qOne T M ins len a
  | none => none
def expl (T : List tT) (M : eM) (stop : Nat → Bool) : Nat → aS → Option (List aS)
  | 0, _ => none
  | n + 1, a => match stop a.1 with
    | true => some [a]
    | false => (match qStp T M a with
      | some as => lift (expl T M stop n) as
      | none => none)
theorem qStp_ok {T : List tT} {w : List Int} {call : cCl} {M : eM} {sc : Option (Nat × (Nat → Int32))} {a : aS} {as : List aS} (h : qStp T M a = some as) {S : cS} (hS : aM T w a S) : ∃ S2 : cS, cOne call M sc S = some S2 ∧ ∃ a2 ∈ as, aM T w a2 S2 := by
  unfold qStp at h
  split at h
  · rename_i ins len hf
    obtain ⟨S2, h1, h2⟩ := qOne_ok (w := w) (call := call) (sc := sc) h S hS
    refine ⟨S2, ?_, h2⟩
    unfold cOne
    rw [hS.1, hf]
    rw [hS.1] at h1
    exact h1
  · cases h
theorem expl_ok {T : List tT} {w : List Int} {call : cCl} {M : eM} {sc : Option (Nat × (Nat → Int32))} {stop : Nat → Bool} : ∀ {n : Nat} {a : aS} {l : List aS}, expl T M stop n a = some l → ∀ {S : cS}, aM T w a S → ∃ S2 : cS, Go call M sc S S2 ∧ ∃ b ∈ l, aM T w b S2
  | 0, a, l, h, S, hS => by cases h
  | n + 1, a, l, h, S, hS => by
    unfold expl at h
    split at h
    · cases h
      exact ⟨S, Go.rf, a, List.mem_singleton.mpr rfl, hS⟩
    · split at h
      · rename_i as has
        obtain ⟨S1, h1, a1, h2, h3⟩ := qStp_ok (call := call) (sc := sc) has hS
        obtain ⟨x, h4, h5⟩ := lift_mem h a1 h2
        obtain ⟨S2, h6, b, h7, h8⟩ := expl_ok h4 h3
        exact ⟨S2, Go.step h1 h6, b, h5 b h7, h8⟩
      · cases h
