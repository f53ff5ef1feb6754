/-! THE CHECKER, 15: lengths, constants, statics -/
def len1 (T : List tT) (k : Nat) : Option Nat := match T[k]? with
  | some (.inr (.inl (_, n, _, _))) => some n
  | some (.inr (.inr (.inl n))) => some n
  | _ => none
def lenK (T : List tT) : List Nat → Option Nat
  | [] => none
  | [k] => len1 T k
  | k :: ks => match len1 T k, lenK T ks with
    | some a, some b => (match Nat.beq a b with
      | true => some a
      | false => none)
    | _, _ => none
theorem lenK_at {T : List tT} : ∀ {ks : List Nat} {n : Nat}, lenK T ks = some n → ∀ k ∈ ks, len1 T k = some n
  | [], _, h, k, hk => by cases hk
  | [k0], n, h, k, hk => by
    have e := List.mem_singleton.mp hk
    subst e
    exact h
  | k0 :: k1 :: ks, n, h, k, hk => by
    unfold lenK at h
    split at h
    · rename_i a b ha hb
      split at h
      · rename_i hab
        cases h
        have e := nbeq_t hab
        subst e
        rcases List.mem_cons.mp hk with e | hk2
        · subst e
          exact ha
        · exact lenK_at hb k hk2
      · cases h
    · cases h
def qLen (T : List tT) (len : Nat) (a : aS) : Option (List aS) := match a with
  | (pc, ls, .inl ks :: st, F, B, R) => (match lenK T ks with
    | some n => aNx (Nat.beq len 1 && Nat.ble n 2147483647) (pc + 1, ls, aI (.inl (Int.ofNat n)) :: st, F, B, R)
    | none => none)
  | _ => none
theorem qLen_ok {T : List tT} {w : List Int} {sc : Option (Nat × (Nat → Int32))} {len : Nat} {a : aS} {as : List aS} (h : qLen T len a = some as) : Snd T w a as (kLen sc len) := by
  intro S hS
  obtain ⟨Spc, Sls, Sst, Sh⟩ := S
  unfold qLen at h
  split at h
  · rename_i pc ls ks st F B R
    split at h
    · rename_i n hn
      obtain ⟨g0, rfl⟩ := aNx_inv h
      obtain ⟨g1, g2⟩ := and_inv g0
      have g2 := Nat.le_of_ble_eq_true g2
      obtain ⟨e1, hG, ρ, hB, hR, hL, hSt, hF⟩ := hS
      dsimp only at e1 hG hB hR hL hSt hF
      obtain ⟨u, vs, e2, ⟨k, hk, e5⟩, hS1⟩ := okS_cons hSt
      subst e1 e5 e2
      have hl := lenK_at hn k hk
      have hz : (Int32.ofNat n).toInt = Int.ofNat n := by
        have := ofInt_in (n := (n : Int)) (by omega) (by omega)
        exact this
      refine ⟨(Spc + 1, Sls, cI (Int32.ofNat n) :: vs, Sh), ?_, _, List.mem_singleton.mpr rfl, rfl, hG, ρ, hB, hR, hL, ⟨⟨_, rfl, hz⟩, hS1⟩, hF⟩
      unfold len1 at hl
      unfold kLen
      dsimp only
      split at hl
      · rename_i kd n2 d gs hT
        cases hl
        obtain ⟨c, h1, f, h2, h3⟩ := hG.2 k _ hT
        rw [h1, h2]
        exact cNx_t g1
      · rename_i n2 hT
        cases hl
        obtain ⟨c, h1, f, h2⟩ := hG.2 k _ hT
        rw [h1, h2]
        exact cNx_t g1
      · cases hl
    · cases h
  · cases h
def qGetS (oc idx : Nat) (len : Nat) (a : aS) : Option (List aS) := match fnd (fTab.getD oc []) idx, a with
  | some (2, 0, _), (pc, ls, st, F, B, R) => aNx (Nat.beq len 3) (pc + 3, ls, aI (.inl 1) :: st, F, B, R)
  | some (3, 0, _), (pc, ls, st, F, B, R) => aNx (Nat.beq len 3) (pc + 3, ls, aO 99 :: st, F, B, R)
  | _, _ => none
theorem qGetS_ok {T : List tT} {w : List Int} {oc idx len : Nat} {a : aS} {as : List aS} (h : qGetS oc idx len a = some as) : Snd T w a as (kGetS oc idx len) := by
  intro S hS
  obtain ⟨Spc, Sls, Sst, Sh⟩ := S
  unfold qGetS at h
  split at h
  · rename_i fi pc ls st F B R hf
    obtain ⟨g1, rfl⟩ := aNx_inv h
    obtain ⟨e1, hG, ρ, hB, hR, hL, hSt, hF⟩ := hS
    dsimp only at e1 hG hB hR hL hSt hF
    subst e1
    refine ⟨(Spc + 3, Sls, cI 1 :: Sst, Sh), ?_, _, List.mem_singleton.mpr rfl, rfl, hG, ρ, hB, hR, hL, ⟨⟨_, rfl, rfl⟩, hSt⟩, hF⟩
    unfold kGetS
    rw [hf]
    exact cNx_t g1
  · rename_i fi pc ls st F B R hf
    obtain ⟨g1, rfl⟩ := aNx_inv h
    obtain ⟨e1, hG, ρ, hB, hR, hL, hSt, hF⟩ := hS
    dsimp only at e1 hG hB hR hL hSt hF
    subst e1
    refine ⟨(Spc + 3, Sls, cO 99 :: Sst, Sh), ?_, _, List.mem_singleton.mpr rfl, rfl, hG, ρ, hB, hR, hL, ⟨rfl, hSt⟩, hF⟩
    unfold kGetS
    rw [hf]
    exact cNx_t g1
  · cases h
