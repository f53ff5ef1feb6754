/-! THE CHECKER, 13: rows of booleans and bytes, of longs, of references; lengths -/
def qBald (T : List tT) (kd : Nat) (len : Nat) (a : aS) : Option (List aS) := match a with
  | (pc, ls, .inr (.inl e) :: .inl ks :: st, F, B, R) => (match rdK T B kd e ks with
    | some b => aNx (Nat.beq len 1 && (Nat.beq kd 1 || Nat.beq kd 2)) (pc + 1, ls, aI (put B (.inr b)).1 :: st, F, (put B (.inr b)).2, R)
    | none => none)
  | _ => none
theorem qBald_ok {T : List tT} {w : List Int} {kd len : Nat} {a : aS} {as : List aS} (h : qBald T kd len a = some as) : Snd T w a as (kBald len) := by
  intro S hS
  obtain ⟨Spc, Sls, Sst, Sh⟩ := S
  unfold qBald at h
  split at h
  · rename_i pc ls e ks st F B R
    split at h
    · rename_i b hb
      obtain ⟨g0, rfl⟩ := aNx_inv h
      obtain ⟨g1, g2⟩ := and_inv g0
      clear h g0
      obtain ⟨e1, hG, ρ, hB, hR, hL, hSt, hF⟩ := hS
      dsimp only at e1 hG hB hR hL hSt hF
      obtain ⟨u, vs, e2, ⟨i, e3, hi⟩, hS1⟩ := okS_cons hSt
      obtain ⟨u2, vs2, e4, ⟨k, hk, e5⟩, hS2⟩ := okS_cons hS1
      subst e1 e5 e4 e3 e2
      obtain ⟨n, f, z1, z2, z3⟩ := rdK_ok hG hB hi hb k hk
      have hr : rv ρ (.inr b) (f i.toNatClampNeg).toInt := z3
      obtain ⟨ρ', p1, p2, p3⟩ := put_ok hB hr
      refine ⟨(Spc + 1, Sls, cI (f i.toNatClampNeg) :: vs2, Sh), ?_, _, List.mem_singleton.mpr rfl, rfl, hG, ρ', p2, okR_mono p1 hR, okL_mono p1 hL, ⟨⟨_, rfl, p3⟩, okS_mono p1 hS2⟩, okF_mono p1 hF⟩
      unfold kBald
      dsimp only
      rw [Bool.or_eq_true] at g2
      rcases g2 with g2 | g2
      · have e0 := nbeq_t g2
        subst e0
        rw [z1]
        exact cNx_t (by rw [g1, z2]; rfl)
      · have e0 := nbeq_t g2
        subst e0
        rw [z1]
        exact cNx_t (by rw [g1, z2]; rfl)
    · cases h
  · cases h
def qBast (T : List tT) (kd : Nat) (len : Nat) (a : aS) : Option (List aS) := match a with
  | (pc, ls, .inr (.inl x) :: .inr (.inl e) :: .inl ks :: st, F, B, R) => aNx (Nat.beq len 1 && ((Nat.beq kd 1 && ks.all (wr1 T B kd e (eB (xb B x)))) || (Nat.beq kd 2 && ks.all (wr1 T B kd e (eZ (xb B x)))))) (pc + 1, ls, st, F, B, cutR ks R)
  | _ => none
theorem qBast_ok {T : List tT} {w : List Int} {kd len : Nat} {a : aS} {as : List aS} (h : qBast T kd len a = some as) : Snd T w a as (kBast len) := by
  intro S hS
  obtain ⟨Spc, Sls, Sst, Sh⟩ := S
  unfold qBast at h
  split at h
  · rename_i pc ls x e ks st F B R
    obtain ⟨g0, rfl⟩ := aNx_inv h
    obtain ⟨g1, g2⟩ := and_inv g0
    clear h g0
    obtain ⟨e1, hG, ρ, hB, hR, hL, hSt, hF⟩ := hS
    dsimp only at e1 hG hB hR hL hSt hF
    obtain ⟨u0, vs0, e6, ⟨y, e7, hy⟩, hS0⟩ := okS_cons hSt
    obtain ⟨u, vs, e2, ⟨i, e3, hi⟩, hS1⟩ := okS_cons hS0
    obtain ⟨u2, vs2, e4, ⟨k, hk, e5⟩, hS2⟩ := okS_cons hS1
    subst e1 e5 e4 e3 e2 e7 e6
    rw [Bool.or_eq_true] at g2
    rcases g2 with g2 | g2
    · obtain ⟨g2, g3⟩ := and_inv g2
      have e0 := nbeq_t g2
      subst e0
      obtain ⟨n, f, z1, z2, z3⟩ := wr1_ok hG hB hi (n_nb (xb_ok hB hy)) (List.all_eq_true.mp g3 k hk)
      refine ⟨(Spc + 1, Sls, vs2, _), ?_, _, List.mem_singleton.mpr rfl, rfl, z3, ρ, hB, okR_cut hR hk, hL, hS2, okF_row hF z1⟩
      unfold kBast
      dsimp only
      rw [z1]
      exact cNx_t (by rw [g1, z2]; rfl)
    · obtain ⟨g2, g3⟩ := and_inv g2
      have e0 := nbeq_t g2
      subst e0
      obtain ⟨n, f, z1, z2, z3⟩ := wr1_ok hG hB hi (n_z (xb_ok hB hy)) (List.all_eq_true.mp g3 k hk)
      refine ⟨(Spc + 1, Sls, vs2, _), ?_, _, List.mem_singleton.mpr rfl, rfl, z3, ρ, hB, okR_cut hR hk, hL, hS2, okF_row hF z1⟩
      unfold kBast
      dsimp only
      rw [z1]
      exact cNx_t (by rw [g1, z2]; rfl)
  · cases h
/-- longs -/
def inJ (T : List tT) (B : List eP) (e : aX) (k : Nat) : Bool := match T[k]? with
  | some (.inr (.inr (.inl n))) => iLe 0 (xb B e).1 && iLt (xb B e).2 (Int.ofNat n)
  | _ => false
theorem inJ_ok {T : List tT} {w : List Int} {h : List cC} (hG : HG T w h) {ρ : List Int} {B : List eP} (hB : okB ρ B) {k : Nat} {e : aX} {i : Int32} (hi : xv ρ e i.toInt) (hb : inJ T B e k = true) : ∃ (n : Nat) (f : Nat → Int64), T[k]? = some (.inr (.inr (.inl n))) ∧ h[k]? = some (.inr (.inr (.inl (n, f)))) ∧ inB i n = true := by
  unfold inJ at hb
  split at hb
  · rename_i n hT
    obtain ⟨c, h1, f, h2⟩ := hG.2 k _ hT
    exact ⟨n, f, hT, by rw [h1, h2], (inB_of (xb_ok hB hi) hb).1⟩
  · cases hb
def qLald (T : List tT) (len : Nat) (a : aS) : Option (List aS) := match a with
  | (pc, ls, .inr (.inl e) :: .inl ks :: st, F, B, R) => aNx (Nat.beq len 1 && ks.all (inJ T B e)) (pc + 1, ls, aJ (put B (.inr f64)).1 :: st, F, (put B (.inr f64)).2, R)
  | _ => none
theorem qLald_ok {T : List tT} {w : List Int} {len : Nat} {a : aS} {as : List aS} (h : qLald T len a = some as) : Snd T w a as (kLald len) := by
  intro S hS
  obtain ⟨Spc, Sls, Sst, Sh⟩ := S
  unfold qLald at h
  split at h
  · rename_i pc ls e ks st F B R
    obtain ⟨g1, rfl⟩ := aNx_inv h
    obtain ⟨g1, g2⟩ := and_inv g1
    obtain ⟨e1, hG, ρ, hB, hR, hL, hSt, hF⟩ := hS
    dsimp only at e1 hG hB hR hL hSt hF
    obtain ⟨u, vs, e2, ⟨i, e3, hi⟩, hS1⟩ := okS_cons hSt
    obtain ⟨u2, vs2, e4, ⟨k, hk, e5⟩, hS2⟩ := okS_cons hS1
    subst e1 e5 e4 e3 e2
    obtain ⟨n, f, _, z1, z2⟩ := inJ_ok hG hB hi (List.all_eq_true.mp g2 k hk)
    obtain ⟨ρ', p1, p2, p3⟩ := put_ok hB (xJ_any (f i.toNatClampNeg))
    refine ⟨(Spc + 1, Sls, cJ (f i.toNatClampNeg) :: vs2, Sh), ?_, _, List.mem_singleton.mpr rfl, rfl, hG, ρ', p2, okR_mono p1 hR, okL_mono p1 hL, ⟨⟨_, rfl, p3⟩, okS_mono p1 hS2⟩, okF_mono p1 hF⟩
    unfold kLald
    dsimp only
    rw [z1]
    exact cNx_t (by rw [g1, z2]; rfl)
  · cases h
def qLast (T : List tT) (len : Nat) (a : aS) : Option (List aS) := match a with
  | (pc, ls, .inr (.inr (.inl _)) :: .inr (.inl e) :: .inl ks :: st, F, B, R) => aNx (Nat.beq len 1 && ks.all (inJ T B e)) (pc + 1, ls, st, F, B, R)
  | _ => none
theorem qLast_ok {T : List tT} {w : List Int} {len : Nat} {a : aS} {as : List aS} (h : qLast T len a = some as) : Snd T w a as (kLast len) := by
  intro S hS
  obtain ⟨Spc, Sls, Sst, Sh⟩ := S
  unfold qLast at h
  split at h
  · rename_i pc ls x e ks st F B R
    obtain ⟨g1, rfl⟩ := aNx_inv h
    obtain ⟨g1, g2⟩ := and_inv g1
    obtain ⟨e1, hG, ρ, hB, hR, hL, hSt, hF⟩ := hS
    dsimp only at e1 hG hB hR hL hSt hF
    obtain ⟨u0, vs0, e6, ⟨y, e7, hy⟩, hS0⟩ := okS_cons hSt
    obtain ⟨u, vs, e2, ⟨i, e3, hi⟩, hS1⟩ := okS_cons hS0
    obtain ⟨u2, vs2, e4, ⟨k, hk, e5⟩, hS2⟩ := okS_cons hS1
    subst e1 e5 e4 e3 e2 e7 e6
    obtain ⟨n, f, hT, z1, z2⟩ := inJ_ok hG hB hi (List.all_eq_true.mp g2 k hk)
    refine ⟨(Spc + 1, Sls, vs2, Sh.set k (.inr (.inr (.inl (n, vp_updL f i.toNatClampNeg y))))), ?_, _, List.mem_singleton.mpr rfl, rfl, HG_set hG hT ⟨_, rfl⟩, ρ, hB, okR_nrow hR z1 (fun _ _ _ => nofun), hL, hS2, okF_row hF z1⟩
    unfold kLast
    dsimp only
    rw [z1]
    exact cNx_t (by rw [g1, z2]; rfl)
  · cases h
/-- references: the places that lie there -/
def refs (rs : List (Option Nat)) : Option (List Nat) := match rs with
  | [] => some []
  | some k :: r => (match refs r with
    | some l => some (k :: l)
    | none => none)
  | none :: _ => none
theorem refs_at : ∀ {rs : List (Option Nat)} {l : List Nat} {j : Nat}, refs rs = some l → j < rs.length → ∃ k : Nat, rs.getD j none = some k ∧ k ∈ l
  | [], l, j, h, hj => by cases hj
  | none :: r, l, j, h, hj => by cases h
  | some k0 :: r, l, j, h, hj => by
    unfold refs at h
    split at h
    · rename_i l2 h2
      cases h
      cases j with
      | zero => exact ⟨k0, rfl, List.mem_cons_self⟩
      | succ j =>
        obtain ⟨k, z1, z2⟩ := refs_at (j := j) h2 (Nat.lt_of_succ_lt_succ hj)
        exact ⟨k, z1, List.mem_cons_of_mem _ z2⟩
    · cases h
def qAald (T : List tT) (len : Nat) (a : aS) : Option (List aS) := match a with
  | (pc, ls, .inr (.inl e) :: .inl [k] :: st, F, B, R) => (match T[k]? with
    | some (.inr (.inr (.inr (_, n, rs)))) => (match refs rs with
      | some l => aNx (Nat.beq len 1 && (Nat.beq n rs.length && (iLe 0 (xb B e).1 && iLt (xb B e).2 (Int.ofNat n)))) (pc + 1, ls, .inl (match e with
        | .inl c => (match l[c.toNat]? with
          | some k => [k]
          | none => l)
        | _ => l) :: st, F, B, R)
      | none => none)
    | _ => none)
  | _ => none
theorem refs_len : ∀ {rs : List (Option Nat)} {l : List Nat} {j : Nat}, refs rs = some l → rs.getD j none = l[j]?
  | [], l, j, h => by cases h; rfl
  | none :: r, l, j, h => by cases h
  | some k0 :: r, l, j, h => by
    unfold refs at h
    split at h
    · rename_i l2 h2
      cases h
      cases j with
      | zero => rfl
      | succ j => exact refs_len (j := j) h2
    · cases h
theorem qAald_ok {T : List tT} {w : List Int} {len : Nat} {a : aS} {as : List aS} (h : qAald T len a = some as) : Snd T w a as (kAald len) := by
  intro S hS
  obtain ⟨Spc, Sls, Sst, Sh⟩ := S
  unfold qAald at h
  split at h
  · rename_i pc ls e k0 st F B R
    split at h
    · rename_i ci n rs hT
      split at h
      · rename_i l hl
        obtain ⟨g1, rfl⟩ := aNx_inv h
        obtain ⟨g1, g2⟩ := and_inv g1
        obtain ⟨g2, g3⟩ := and_inv g2
        have g2 := nbeq_t g2
        obtain ⟨e1, hG, ρ, hB, hR, hL, hSt, hF⟩ := hS
        dsimp only at e1 hG hB hR hL hSt hF
        obtain ⟨u, vs, e2, ⟨i, e3, hi⟩, hS1⟩ := okS_cons hSt
        obtain ⟨u2, vs2, e4, ⟨k, hk, e5⟩, hS2⟩ := okS_cons hS1
        have e0 := List.mem_singleton.mp hk
        subst e0
        subst e1 e5 e4 e3 e2
        obtain ⟨c, z1, z2⟩ := hG.2 k _ hT
        have z2 : c = .inr (.inr (.inr (ci, n, rs))) := z2
        subst z2
        obtain ⟨i1, i2, i3, i4⟩ := inB_of (xb_ok hB hi) g3
        obtain ⟨kr, r1, r2⟩ := refs_at (j := i.toInt.toNat) hl (by omega)
        refine ⟨(Spc + 1, Sls, cR kr :: vs2, Sh), ?_, _, List.mem_singleton.mpr rfl, rfl, hG, ρ, hB, hR, hL, ⟨⟨kr, ?_, rfl⟩, hS2⟩, hF⟩
        · unfold kAald
          dsimp only
          rw [z1]
          dsimp only
          rw [i2, r1]
          exact cNx_t (by rw [g1, i1]; rfl)
        · cases e with
          | inl c =>
            have hi : i.toInt = c := hi
            dsimp only
            have hq := refs_len (j := i.toInt.toNat) hl
            rw [r1, hi] at hq
            rw [← hq]
            exact List.mem_singleton.mpr rfl
          | inr q => exact r2
      · cases h
    · cases h
  · cases h
