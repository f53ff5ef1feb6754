/-! THE CHECKER, 23: calls run in their place; depths -/
def aArgs : Nat → List aV → List (Nat × aV)
  | _, [] => []
  | i, a :: r => (i, a) :: aArgs (match awide a with
    | true => i + 2
    | false => i + 1) r
theorem aArgs_le : ∀ {as : List aV} {i : Nat}, ∀ q ∈ aArgs i as, i ≤ q.1
  | [], i, q, hq => by cases hq
  | a :: r, i, q, hq => by
    unfold aArgs at hq
    rcases List.mem_cons.mp hq with e | hq
    · subst e
      exact Nat.le_refl _
    · have := aArgs_le (as := r) q hq
      split at this <;> omega
theorem okL_args {ρ : List Int} : ∀ {as : List aV} {vs : List cV} {i : Nat}, okS ρ as vs → okL ρ (aArgs i as) (cArgs i vs)
  | [], [], i, _ => fun q hq => by cases hq
  | a :: as, v :: vs, i, g => fun q hq => by
    unfold aArgs at hq
    unfold cArgs
    have hw := awide_ok g.1
    rcases List.mem_cons.mp hq with e | hq
    · subst e
      refine ⟨v, ?_, g.1⟩
      unfold clk
      rw [Nat.beq_refl]
    · rw [hw]
      obtain ⟨u, h1, h2⟩ := okL_args (as := as) (vs := vs) g.2 q hq
      refine ⟨u, ?_, h2⟩
      have hle := aArgs_le q hq
      unfold clk
      have hb : Nat.beq i q.1 = false := by
        cases hb : Nat.beq i q.1 with
        | false => rfl
        | true =>
          have := nbeq_t hb
          split at hle <;> omega
      rw [hb]
      exact h1
  | [], _ :: _, _, g => g.elim
  | _ :: _, [], _, g => g.elim
def mapO (f : aS → Option aU) : List aS → Option (List aU)
  | [] => some []
  | a :: as => match f a, mapO f as with
    | some x, some y => some (x :: y)
    | _, _ => none
theorem mapO_mem {f : aS → Option aU} : ∀ {as : List aS} {l : List aU}, mapO f as = some l → ∀ a ∈ as, ∃ x : aU, f a = some x ∧ x ∈ l
  | [], l, h, a, ha => by cases ha
  | a0 :: as, l, h, a, ha => by
    unfold mapO at h
    split at h
    · rename_i x y hx hy
      cases h
      rcases List.mem_cons.mp ha with e | ha2
      · subst e
        exact ⟨x, hx, List.mem_cons_self⟩
      · obtain ⟨z, h1, h2⟩ := mapO_mem hy a ha2
        exact ⟨z, h1, List.mem_cons_of_mem _ h2⟩
    · cases h
def inlQ (P : aP3) (W : aW) (qc : aQ) (fuel : Nat) : aQ := fun mi as F B R => match eMT[mi]? with
  | some N => (match Nat.ble (acat as) (m_L N) with
    | true => (match explF P W qc N (isRt N) fuel (0, aArgs 0 as, [], F, B, R) with
      | some l => mapO (aEnd N) l
      | none => none)
    | false => none)
  | none => none
theorem inlQ_ok {P : aP} {W : aW} (hJ : pJ P) {d : Nat} {qc : aQ} (hQ : Qok P W d qc) (fuel : Nat) : Qok P W (d + 1) (inlQ (p3 P) W qc fuel) := by
  intro mi as F B R outs h w ρ vs h0 hh hG hB hR hA hF g
  unfold inlQ at h
  split at h
  · rename_i N hN
    split at h
    · rename_i hc
      split at h
      · rename_i l hl
        have hS : aM P.1 ρ (0, aArgs 0 as, [], F, B, R) (0, cArgs 0 vs, [], hh) := ⟨rfl, hG, ρ, hB, ⟨List.prefix_rfl, hR.2⟩, okL_args hA, trivial, hF⟩
        obtain ⟨S2, h1, b, h2, h3, h4, _⟩ := explF_ok hJ hQ hl hS g
        obtain ⟨o, h5, h6⟩ := mapO_mem h b h2
        obtain ⟨r, h7, ρ', h8, h9, h10, h11⟩ := aEnd_ok h5 h3
        have hcat : catC vs ≤ m_L N := by
          rw [acat_ok hA]
          exact Nat.le_of_ble_eq_true hc
        exact ⟨r, S2.2.2.2, Trm_succ.mpr ⟨N, S2, hN, hcat, h1, h7⟩, h3.2.1, h4, o, h6, ρ', h9.1, h8, ⟨hR.1.trans h9.1, h9.2⟩, h10, h11⟩
      · cases h
    · cases h
  · cases h
def noQ : aQ := fun _ _ _ _ _ => none
theorem noQ_ok {P : aP} {W : aW} {d : Nat} : Qok P W d noQ := fun mi as F B R outs h => by cases h
def orQ (q1 q2 : aQ) : aQ := fun mi as F B R => match q1 mi as F B R with
  | some o => some o
  | none => q2 mi as F B R
theorem orQ_ok {P : aP} {W : aW} {d : Nat} {q1 q2 : aQ} (h1 : Qok P W d q1) (h2 : Qok P W d q2) : Qok P W d (orQ q1 q2) := by
  intro mi as F B R outs h
  unfold orQ at h
  split at h
  · rename_i o ho
    cases h
    exact h1 mi as F B R outs ho
  · exact h2 mi as F B R outs h
/-- what ends at a depth ends at a greater one -/
theorem cStep_mono {c1 c2 : cCl} (hc : ∀ mi as h q, c1 mi as h = some q → c2 mi as h = some q) {M : eM} {sc : Option (Nat × (Nat → Int32))} {ins : Instr} {len pc : Nat} {ls : List (Nat × cV)} {st : List cV} {h : List cC} {S : cS} (hs : cStep c1 M sc ins len pc ls st h = some S) : cStep c2 M sc ins len pc ls st h = some S := by
  have hk : ∀ k i : Nat, kInv c1 M k i len pc ls st h = some S → kInv c2 M k i len pc ls st h = some S := fun k i hs => by
    unfold kInv at hs ⊢
    split at hs
    · rename_i kd mi hf
      try rw [hf]
      try dsimp only
      split at hs
      · exact hs
      · rename_i z
        try rw [z]
        try dsimp only
        split at hs
        · exact hs
        · rename_i z
          try rw [z]
          try dsimp only
          split at hs
          · exact hs
          · rename_i z
            try rw [z]
            try dsimp only
            split at hs
            · rename_i N hN
              try rw [hN]
              try dsimp only
              split at hs
              · rename_i z
                try rw [z]
                try dsimp only
                split at hs
                · rename_i r h2 hcall
                  rw [hc _ _ _ _ hcall]
                  exact hs
                · cases hs
              · cases hs
            · cases hs
    · cases hs
  unfold cStep at hs ⊢
  split at hs <;> first | exact hk _ _ hs | exact hs | cases hs
theorem Go_mono {c1 c2 : cCl} (hc : ∀ mi as h q, c1 mi as h = some q → c2 mi as h = some q) {M : eM} {sc : Option (Nat × (Nat → Int32))} {S2 : cS} : ∀ (n : Nat) (S : cS), cIt c1 M sc n S = some S2 → cIt c2 M sc n S = some S2
  | 0, S, h => h
  | n + 1, S, h => by
    rw [cIt_succ] at h ⊢
    cases h1 : cOne c1 M sc S with
    | none => rw [h1] at h; cases h
    | some S1 =>
      rw [h1] at h
      have h2 : cOne c2 M sc S = some S1 := by
        unfold cOne at h1 ⊢
        split at h1
        · rename_i ins len hf
          exact cStep_mono hc h1
        · cases h1
      rw [h2]
      exact Go_mono hc n S1 h
theorem Trm_mono : ∀ {d mi : Nat} {as : List cV} {h : List cC} {r : Option cV} {h2 : List cC}, Trm d mi as h r h2 → Trm (d + 1) mi as h r h2
  | 0, _, _, _, _, _, t => t.elim
  | d + 1, mi, as, h, r, h2, t => by
    obtain ⟨M, S, e1, e2, ⟨n, e3⟩, e4⟩ := Trm_succ.mp t
    refine Trm_succ.mpr ⟨M, S, e1, e2, ⟨n, Go_mono (fun mi as h q hq => ?_) n _ e3⟩, e4⟩
    obtain ⟨q1, q2⟩ := q
    exact cal_eq (Trm_mono (calF_some hq))
theorem Trm_le {d d2 mi : Nat} (hd : d ≤ d2) {as : List cV} {h : List cC} {r : Option cV} {h2 : List cC} (t : Trm d mi as h r h2) : Trm d2 mi as h r h2 := by
  induction hd with
  | refl => exact t
  | step _ ih => exact Trm_mono ih
theorem Qok_le {P : aP} {W : aW} {d d2 : Nat} (hd : d ≤ d2) {qc : aQ} (hQ : Qok P W d qc) : Qok P W d2 qc := by
  intro mi as F B R outs h w ρ vs h0 hh hG hB hR hA hF g
  obtain ⟨r, h2, t, rest⟩ := hQ mi as F B R outs h w ρ vs h0 hh hG hB hR hA hF g
  exact ⟨r, h2, Trm_le hd t, rest⟩
