/-! THE CHECKER, 16f: a reference of a short row, one state a place -/
def aalS (B : List eP) (R : List aR) (e : aX) (pc : Nat) (ls : List (Nat × aV)) (st : List aV) (F : List (Nat × Nat × aV)) : List Nat → Nat → List aS
  | [], _ => []
  | k :: r, j => altR (sideR B R .eq e (.inl ((j : Nat) : Int))) pc ls (.inl [k] :: st) F ++ aalS B R e pc ls st F r (j + 1)
theorem aalS_ok {B : List eP} {R : List aR} {e : aX} {pc : Nat} {ls : List (Nat × aV)} {st : List aV} {F : List (Nat × Nat × aV)} : ∀ {l : List Nat} {j i : Nat} {k : Nat}, l[i]? = some k → ∀ b ∈ altR (sideR B R .eq e (.inl ((j + i : Nat) : Int))) pc ls (.inl [k] :: st) F, b ∈ aalS B R e pc ls st F l j
  | [], j, i, k, h, b, hb => by cases h
  | k0 :: r, j, 0, k, h, b, hb => by
    cases h
    exact List.mem_append_left _ hb
  | k0 :: r, j, i + 1, k, h, b, hb => by
    refine List.mem_append_right _ (aalS_ok (j := j + 1) (i := i) h b ?_)
    rw [show j + 1 + i = j + (i + 1) by omega]
    exact hb
def qAaldS (T : List tT) (len : Nat) (a : aS) : Option (List aS) := match a with
  | (pc, ls, .inr (.inl (.inr e)) :: .inl [k] :: st, F, B, R) => (match T[k]? with
    | some (.inr (.inr (.inr (_, n, rs)))) => (match refs rs with
      | some l => (match Nat.beq len 1 && (Nat.beq n rs.length && (Nat.ble n 6 && (iLe 0 (xb B (.inr e)).1 && iLt (xb B (.inr e)).2 (Int.ofNat n)))) with
        | true => some (aalS B R (.inr e) (pc + 1) ls st F l 0)
        | false => none)
      | none => none)
    | _ => none)
  | _ => none
theorem qAaldS_ok {T : List tT} {w : List Int} {len : Nat} {a : aS} {as : List aS} (h : qAaldS T len a = some as) : Snd T w a as (kAald len) := by
  intro S hS
  obtain ⟨Spc, Sls, Sst, Sh⟩ := S
  unfold qAaldS at h
  split at h
  · rename_i pc ls e k0 st F B R
    split at h
    · rename_i ci n rs hT
      split at h
      · rename_i l hl
        split at h
        · rename_i g0
          cases h
          obtain ⟨g1, g2⟩ := and_inv g0
          obtain ⟨g2, g3⟩ := and_inv g2
          obtain ⟨g3, g4⟩ := and_inv g3
          have g2 := nbeq_t g2
          obtain ⟨e1, hG, ρ, hB, hR, hL, hSt, hF⟩ := hS
          dsimp only at e1 hG hB hR hL hSt hF
          obtain ⟨u, vs, e2, ⟨i, e3, hi⟩, hS1⟩ := okS_cons hSt
          obtain ⟨u2, vs2, e4, ⟨k, hk, e5⟩, hS2⟩ := okS_cons hS1
          have e0 := List.mem_singleton.mp hk
          subst e0
          subst e1 e5 e4 e3 e2
          obtain ⟨c, z1, z2⟩ := hG.2 k _ hT
          have z2 : c = .inr (.inr (.inr (ci, n, rs))) := z2
          subst z2
          obtain ⟨i1, i2, i3, i4⟩ := inB_of (xb_ok hB hi) g4
          obtain ⟨kr, r1, r2⟩ := refs_at (j := i.toInt.toNat) hl (by omega)
          have hq := refs_len (j := i.toInt.toNat) hl
          rw [r1] at hq
          obtain ⟨B2, R2, s1, s2, s3⟩ := sideR_ok (k := .eq) (y := .inl ((0 + i.toInt.toNat : Nat) : Int)) hB hR hi rfl (by show i.toInt = _; omega)
          refine ⟨(Spc + 1, Sls, cR kr :: vs2, Sh), ?_, (Spc + 1, ls, .inl [kr] :: st, F, B2, R2), aalS_ok hq.symm _ (by rw [s1]; exact List.mem_singleton.mpr rfl), rfl, hG, ρ, s2, s3, hL, ⟨⟨kr, List.mem_singleton.mpr rfl, rfl⟩, hS2⟩, hF⟩
          unfold kAald
          dsimp only
          rw [z1]
          dsimp only
          rw [i2, r1]
          exact cNx_t (by rw [g1, i1]; rfl)
        · cases h
      · cases h
    · cases h
  · cases h
