/-! THE CHECKER, 16g: rows of booleans with what is known of them -/
def qBald1 (T : List tT) (kd : Nat) (len : Nat) (a : aS) : Option (List aS) := match a with
  | (pc, ls, .inr (.inl e) :: .inl [k] :: st, F, B, R) => (match rd1 T B kd e k with
    | some b => (match lookEl R k e with
      | some v => aNx (Nat.beq len 1 && (Nat.beq kd 1 || Nat.beq kd 2)) (pc + 1, ls, aI v :: st, F, B, R)
      | none => (match put B (.inr b) with
        | (v, B2) => aNx (Nat.beq len 1 && (Nat.beq kd 1 || Nat.beq kd 2)) (pc + 1, ls, aI v :: st, F, B2, keepEl k e v R)))
    | none => none)
  | _ => none
theorem kBald_at {kd len pc : Nat} {ls : List (Nat × cV)} {st : List cV} {h : List cC} {k n : Nat} {f : Nat → Int32} {i : Int32} (g0 : (Nat.beq len 1 && (Nat.beq kd 1 || Nat.beq kd 2)) = true) (z1 : h[k]? = some (.inr (.inl (kd, n, f)))) (z2 : inB i n = true) : kBald len pc ls (cI i :: cR k :: st) h = some (pc + 1, ls, cI (f i.toNatClampNeg) :: st, h) := by
  obtain ⟨g1, g2⟩ := and_inv g0
  unfold kBald
  dsimp only
  rw [Bool.or_eq_true] at g2
  rcases g2 with g2 | g2
  · have e0 := nbeq_t g2
    subst e0
    rw [z1]
    exact cNx_t (by rw [g1, z2]; rfl)
  · have e0 := nbeq_t g2
    subst e0
    rw [z1]
    exact cNx_t (by rw [g1, z2]; rfl)
theorem qBald1_ok {T : List tT} {w : List Int} {kd len : Nat} {a : aS} {as : List aS} (h : qBald1 T kd len a = some as) : Snd T w a as (kBald len) := by
  intro S hS
  obtain ⟨Spc, Sls, Sst, Sh⟩ := S
  unfold qBald1 at h
  split at h
  · rename_i pc ls e k st F B R
    split at h
    · rename_i b hb
      obtain ⟨e1, hG, ρ, hB, hR, hL, hSt, hF⟩ := hS
      dsimp only at e1 hG hB hR hL hSt hF
      obtain ⟨u, vs, e2, ⟨i, e3, hi⟩, hS1⟩ := okS_cons hSt
      obtain ⟨u2, vs2, e4, ⟨k', hk', e5⟩, hS2⟩ := okS_cons hS1
      have ek := List.mem_singleton.mp hk'
      subst ek
      subst e1 e5 e4 e3 e2
      obtain ⟨n, f, z1, z2, z3⟩ := rd1_ok hG hB hi hb
      split at h
      · rename_i v hv
        obtain ⟨g1, rfl⟩ := aNx_inv h
        refine ⟨_, kBald_at g1 z1 z2, _, List.mem_singleton.mpr rfl, rfl, hG, ρ, hB, hR, hL, ⟨⟨_, rfl, ?_⟩, hS2⟩, hF⟩
        match e, hi, hv with
        | .inl c, hi, hv =>
          have hi : i.toInt = c := hi
          have hv : elm R k' c.toNat = some v := hv
          have := elm_ok z1 hR.2 hv
          rw [← hi] at this
          exact this
      · split at h
        rename_i v B2 hp
        obtain ⟨g1, rfl⟩ := aNx_inv h
        have hr : rv ρ (.inr b) (f i.toInt.toNat).toInt := z3
        obtain ⟨ρ', p1, p2, p3⟩ := put_ok hB hr
        rw [hp] at p2 p3
        dsimp only at p2 p3
        refine ⟨_, kBald_at g1 z1 z2, _, List.mem_singleton.mpr rfl, rfl, hG, ρ', p2, ?_, okL_mono p1 hL, ⟨⟨_, rfl, p3⟩, okS_mono p1 hS2⟩, okF_mono p1 hF⟩
        have hm := okR_mono p1 hR
        refine ⟨hm.1, fun q hq => ?_⟩
        match e, hi, hq with
        | .inr _, _, hq => exact hm.2 q hq
        | .inl c, hi, hq =>
          have hi : i.toInt = c := hi
          rcases List.mem_cons.mp hq with e0 | hq
          · subst e0
            exact ⟨kd, n, f, z1, by rw [← hi]; exact p3⟩
          · exact hm.2 q hq
    · cases h
  · cases h
def keepE (B : List eP) (ks : List Nat) (e : aX) (q : aR) : Bool := match q with
  | .inr (.inr (.inl (k, i, _))) => !(ks.any (Nat.beq k)) || segOut B e (i, 1, 1, 0, 0)
  | .inr (.inr (.inr (k, _, _))) => !(ks.any (Nat.beq k))
  | _ => true
def isBit (x : aX) : Bool := match x with
  | .inl c => iEq c 0 || iEq c 1
  | _ => false
def newZ (ks : List Nat) (e x : aX) : List aR := match isBit x with
  | true => newEl ks e x
  | false => []
def qBastR (T : List tT) (len : Nat) (a : aS) : Option (List aS) := match a with
  | (pc, ls, .inr (.inl x) :: .inr (.inl e) :: .inl ks :: st, F, B, R) => aNx (Nat.beq len 1 && ks.all (wr1 T B 2 e (eZ (xb B x)))) (pc + 1, ls, st, F, B, newZ ks e x ++ R.filter (keepE B ks e))
  | _ => none
theorem nar_bit {x : aX} {y : Int32} {ρ : List Int} (h : isBit x = true) (hy : xv ρ x y.toInt) : vp_nar .boolean y = y := by
  match x, h, hy with
  | .inl c, h, hy =>
    have hy : y.toInt = c := hy
    unfold isBit at h
    rw [Bool.or_eq_true] at h
    rcases h with h | h
    · have e := iEq_ok h
      subst e
      have : y = 0 := Int32.toInt_inj.mp (by rw [hy]; rfl)
      subst this
      rfl
    · have e := iEq_ok h
      subst e
      have : y = 1 := Int32.toInt_inj.mp (by rw [hy]; rfl)
      subst this
      rfl
theorem qBastR_ok {T : List tT} {w : List Int} {len : Nat} {a : aS} {as : List aS} (h : qBastR T len a = some as) : Snd T w a as (kBast len) := by
  intro S hS
  obtain ⟨Spc, Sls, Sst, Sh⟩ := S
  unfold qBastR at h
  split at h
  · rename_i pc ls x e ks st F B R
    obtain ⟨g1, rfl⟩ := aNx_inv h
    obtain ⟨g1, g2⟩ := and_inv g1
    obtain ⟨e1, hG, ρ, hB, hR, hL, hSt, hF⟩ := hS
    dsimp only at e1 hG hB hR hL hSt hF
    obtain ⟨u0, vs0, e6, ⟨y, e7, hy⟩, hS0⟩ := okS_cons hSt
    obtain ⟨u, vs, e2, ⟨i, e3, hi⟩, hS1⟩ := okS_cons hS0
    obtain ⟨u2, vs2, e4, ⟨k, hk, e5⟩, hS2⟩ := okS_cons hS1
    subst e1 e5 e4 e3 e2 e7 e6
    obtain ⟨n, f, z1, z2, z3⟩ := wr1_ok hG hB hi (n_z (xb_ok hB hy)) (List.all_eq_true.mp g2 k hk)
    have hin : vp_in i n := inB_ok z2
    have hpos : 0 ≤ i.toInt := (vp_in_iff.mp hin).1
    have hset : (Sh.set k (.inr (.inl (2, n, upd f i.toNatClampNeg (vp_nar .boolean y)))))[k]? = some (.inr (.inl (2, n, upd f i.toNatClampNeg (vp_nar .boolean y)))) := List.getElem?_set_self (List.getElem?_eq_some_iff.mp z1).1
    have hcl : i.toNatClampNeg = i.toInt.toNat := rfl
    refine ⟨(Spc + 1, Sls, vs2, _), ?_, _, List.mem_singleton.mpr rfl, rfl, z3, ρ, hB, ⟨hR.1, fun q hq => ?_⟩, hL, hS2, okF_row hF z1⟩
    · unfold kBast
      dsimp only
      rw [z1]
      exact cNx_t (by rw [g1, z2]; rfl)
    · rcases List.mem_append.mp hq with hq | hq
      · unfold newZ at hq
        split at hq
        · rename_i hbit
          unfold newEl at hq
          split at hq
          · rename_i k0 c _
            have ek := List.mem_singleton.mp hk
            subst ek
            have e0 := List.mem_singleton.mp hq
            subst e0
            have hi : i.toInt = c := hi
            refine ⟨2, n, _, hset, ?_⟩
            rw [← hi, show i.toInt.toNat = i.toNatClampNeg from rfl, pk_us, nar_bit hbit hy]
            exact hy
          · cases hq
        · cases hq
      · obtain ⟨q1, q2⟩ := List.mem_filter.mp hq
        have hq0 := hR.2 q q1
        match q, hq0, q2 with
        | .inl _, hq0, _ => exact hq0
        | .inr (.inl _), hq0, _ => exact hq0
        | .inr (.inr (.inl (k1, j, v))), hq0, q2 =>
          by_cases ek : k1 = k
          · subst ek
            obtain ⟨kd', n', f', y1, y2⟩ := hq0
            rw [z1] at y1
            cases y1
            refine ⟨2, n, _, hset, ?_⟩
            have hany : ks.any (Nat.beq k1) = true := List.any_eq_true.mpr ⟨k1, hk, Nat.beq_refl _⟩
            unfold keepE at q2
            dsimp only at q2
            rw [hany] at q2
            have q2 : segOut B e (j, 1, 1, 0, 0) = true := q2
            have hno := segOut_ok hB hi hpos q2
            have hne : j ≠ i.toNatClampNeg := fun e0 => hno ⟨0, Nat.zero_lt_one, by rw [← hcl, ← e0]; rfl⟩
            rw [pk_un hne]
            exact y2
          · exact okR1_set hq0 (fun k' e' => by cases e'; exact ek)
        | .inr (.inr (.inr (k1, uu, v))), hq0, q2 =>
          have hne : k1 ≠ k := fun ek => by
            subst ek
            have hany : ks.any (Nat.beq k1) = true := List.any_eq_true.mpr ⟨k1, hk, Nat.beq_refl _⟩
            unfold keepE at q2
            dsimp only at q2
            rw [hany] at q2
            cases q2
          exact okR1_set hq0 (fun k' e' => by cases e'; exact hne)
  · cases h
