/-! THE CHECKER, 16d: rows with what is known of them; texts; switches; copies -/
def elm (R : List aR) (k i : Nat) : Option aX := match R with
  | [] => none
  | .inr (.inr (.inl (a, b, e))) :: R => (match Nat.beq a k && Nat.beq b i with
    | true => some e
    | false => elm R k i)
  | _ :: R => elm R k i
theorem elm_ok {ρ : List Int} {h : List cC} {k i : Nat} {kd n : Nat} {f : Nat → Int32} (hk : h[k]? = some (.inr (.inl (kd, n, f)))) : ∀ {R : List aR} {e : aX}, (∀ q ∈ R, okR1 ρ h q) → elm R k i = some e → xv ρ e (f i).toInt
  | [], e, _, hm => by cases hm
  | .inr (.inr (.inl (a, b, e0))) :: R, e, hR, hm => by
    unfold elm at hm
    split at hm
    · rename_i hc
      cases hm
      obtain ⟨h1, h2⟩ := and_inv hc
      have e1 := nbeq_t h1
      have e2 := nbeq_t h2
      subst e1 e2
      obtain ⟨kd', n', f', z1, z2⟩ := hR _ List.mem_cons_self
      rw [hk] at z1
      cases z1
      exact z2
    · exact elm_ok hk (R := R) (fun q hq => hR q (List.mem_cons_of_mem _ hq)) hm
  | .inl q :: R, e, hR, hm => elm_ok hk (R := R) (fun q hq => hR q (List.mem_cons_of_mem _ hq)) (by unfold elm at hm; exact hm)
  | .inr (.inl q) :: R, e, hR, hm => elm_ok hk (R := R) (fun q hq => hR q (List.mem_cons_of_mem _ hq)) (by unfold elm at hm; exact hm)
  | .inr (.inr (.inr q)) :: R, e, hR, hm => elm_ok hk (R := R) (fun q hq => hR q (List.mem_cons_of_mem _ hq)) (by unfold elm at hm; exact hm)
/-- the bounds of a place that lies below -/
def preB (B : List eP) (R0 : List aR) (k : Nat) (e : aX) : List aR → eP → eP
  | [], b => b
  | .inr (.inr (.inr (a, u, n))) :: R, b => (match Nat.beq a k && iLe 1 (lbd B R0 n e) with
    | true => preB B R0 k e R (meet b (0, u))
    | false => preB B R0 k e R b)
  | _ :: R, b => preB B R0 k e R b
theorem preB_ok {ρ : List Int} {h : List cC} {B : List eP} {R0 : List aR} (hB : okB ρ B) (hR0 : ∀ q ∈ R0, okR1 ρ h q) {k : Nat} {kd n : Nat} {f : Nat → Int32} (hk : h[k]? = some (.inr (.inl (kd, n, f)))) {e : aX} {z : Int} (he : xv ρ e z) (h0 : 0 ≤ z) : ∀ {R : List aR} {b : eP}, (∀ q ∈ R, okR1 ρ h q) → bt2 b (f z.toNat).toInt → bt2 (preB B R0 k e R b) (f z.toNat).toInt
  | [], b, _, hb => hb
  | .inr (.inr (.inr (a, u, m))) :: R, b, hR, hb => by
    unfold preB
    split
    · rename_i hc
      obtain ⟨h1, h2⟩ := and_inv hc
      have e1 := nbeq_t h1
      subst e1
      rw [iLe_ok] at h2
      obtain ⟨kd', n', f', y, z1, z2, z3⟩ := hR _ List.mem_cons_self
      rw [hk] at z1
      cases z1
      have l := lbd_ok hB hR0 z2 he
      exact preB_ok hB hR0 hk he h0 (R := R) (fun q hq => hR q (List.mem_cons_of_mem _ hq)) (meet_ok hb (z3 z.toNat (by omega)))
    · exact preB_ok hB hR0 hk he h0 (R := R) (fun q hq => hR q (List.mem_cons_of_mem _ hq)) hb
  | .inl q :: R, b, hR, hb => preB_ok hB hR0 hk he h0 (R := R) (fun q hq => hR q (List.mem_cons_of_mem _ hq)) hb
  | .inr (.inl q) :: R, b, hR, hb => preB_ok hB hR0 hk he h0 (R := R) (fun q hq => hR q (List.mem_cons_of_mem _ hq)) hb
  | .inr (.inr (.inl q)) :: R, b, hR, hb => preB_ok hB hR0 hk he h0 (R := R) (fun q hq => hR q (List.mem_cons_of_mem _ hq)) hb
def keepEl (k : Nat) (e v : aX) (R : List aR) : List aR := match e with
  | .inl c => .inr (.inr (.inl (k, c.toNat, v))) :: R
  | _ => R
def lookEl (R : List aR) (k : Nat) (e : aX) : Option aX := match e with
  | .inl c => elm R k c.toNat
  | _ => none
def qIald1 (T : List tT) (len : Nat) (a : aS) : Option (List aS) := match a with
  | (pc, ls, .inr (.inl e) :: .inl [k] :: st, F, B, R) => (match rd1 T B 0 e k with
    | some b => (match lookEl R k e with
      | some v => aNx (Nat.beq len 1) (pc + 1, ls, aI v :: st, F, B, R)
      | none => (match put B (.inr (preB B R k e R b)) with
        | (v, B2) => aNx (Nat.beq len 1) (pc + 1, ls, aI v :: st, F, B2, keepEl k e v R)))
    | none => none)
  | _ => none
theorem qIald1_ok {T : List tT} {w : List Int} {sc : Option (Nat × (Nat → Int32))} {len : Nat} {a : aS} {as : List aS} (h : qIald1 T len a = some as) : Snd T w a as (kIald sc len) := by
  intro S hS
  obtain ⟨Spc, Sls, Sst, Sh⟩ := S
  unfold qIald1 at h
  split at h
  · rename_i pc ls e k st F B R
    split at h
    · rename_i b hb
      obtain ⟨e1, hG, ρ, hB, hR, hL, hSt, hF⟩ := hS
      dsimp only at e1 hG hB hR hL hSt hF
      obtain ⟨u, vs, e2, ⟨i, e3, hi⟩, hS1⟩ := okS_cons hSt
      obtain ⟨u2, vs2, e4, ⟨k', hk', e5⟩, hS2⟩ := okS_cons hS1
      have ek := List.mem_singleton.mp hk'
      subst ek
      subst e1 e5 e4 e3 e2
      have hb0 := hb
      obtain ⟨n, f, z1, z2, z3⟩ := rd1_ok hG hB hi hb
      have hin : vp_in i n := inB_ok z2
      have hpos : 0 ≤ i.toInt := (vp_in_iff.mp hin).1
      have hstep : ∀ g1 : Nat.beq len 1 = true, kIald sc len Spc Sls (cI i :: cR k' :: vs2) Sh = some (Spc + 1, Sls, cI (f i.toNatClampNeg) :: vs2, Sh) := fun g1 => by
        unfold kIald
        dsimp only
        rw [z1]
        exact cNx_t (by rw [g1, z2]; rfl)
      split at h
      · rename_i v hv
        obtain ⟨g1, rfl⟩ := aNx_inv h
        refine ⟨_, hstep g1, _, List.mem_singleton.mpr rfl, rfl, hG, ρ, hB, hR, hL, ⟨⟨_, rfl, ?_⟩, hS2⟩, hF⟩
        match e, hi, hv with
        | .inl c, hi, hv =>
          have hi : i.toInt = c := hi
          have hv : elm R k' c.toNat = some v := hv
          have := elm_ok z1 hR.2 hv
          rw [← hi] at this
          exact this
      · split at h
        rename_i v B2 hp
        obtain ⟨g1, rfl⟩ := aNx_inv h
        have hr : rv ρ (.inr (preB B R k' e R b)) (f i.toInt.toNat).toInt := preB_ok hB hR.2 z1 hi hpos hR.2 z3
        obtain ⟨ρ', p1, p2, p3⟩ := put_ok hB hr
        rw [hp] at p2 p3
        dsimp only at p2 p3
        refine ⟨_, hstep g1, _, List.mem_singleton.mpr rfl, rfl, hG, ρ', p2, ?_, okL_mono p1 hL, ⟨⟨_, rfl, p3⟩, okS_mono p1 hS2⟩, okF_mono p1 hF⟩
        have hm := okR_mono p1 hR
        refine ⟨hm.1, fun q hq => ?_⟩
        match e, hi, hq with
        | .inr _, _, hq => exact hm.2 q hq
        | .inl c, hi, hq =>
          have hi : i.toInt = c := hi
          rcases List.mem_cons.mp hq with e0 | hq
          · subst e0
            exact ⟨0, n, f, z1, by rw [← hi]; exact p3⟩
          · exact hm.2 q hq
    · cases h
  · cases h
/-- what is known of rows behind a write -/
def oneK (ks : List Nat) : Bool := match ks with
  | [_] => true
  | _ => false
theorem oneK_ok {ks : List Nat} (h : oneK ks = true) {k k' : Nat} (hk : k ∈ ks) (hk' : k' ∈ ks) : k = k' := by
  match ks, h with
  | [k0], _ => rw [List.mem_singleton.mp hk, List.mem_singleton.mp hk']
def xInc (e : aX) : aX := match e with
  | .inl c => .inl (c + 1)
  | .inr (c, k, i) => .inr (c + 1, k, i)
theorem xInc_ok {ρ : List Int} {e : aX} {z : Int} (h : xv ρ e z) : xv ρ (xInc e) (z + 1) := by
  match e, h with
  | .inl c, h =>
    have h : z = c := h
    subst h
    rfl
  | .inr (c, k, i), ⟨r, h1, h2⟩ => exact ⟨r, h1, by omega⟩
def keepR (B : List eP) (ks : List Nat) (e x : aX) (q : aR) : Option aR := match q with
  | .inr (.inr (.inl (k, i, v))) => (match ks.any (Nat.beq k) with
    | false => some q
    | true => (match segOut B e (i, 1, 1, 0, 0) with
      | true => some q
      | false => none))
  | .inr (.inr (.inr (k, u, n))) => (match ks.any (Nat.beq k) with
    | false => some q
    | true => (match iLe 0 (xb B x).1 && iLe (xb B x).2 u with
      | false => none
      | true => (match oneK ks && xEq e n with
        | true => some (.inr (.inr (.inr (k, u, xInc n))))
        | false => some q)))
  | _ => some q
theorem any_f {ks : List Nat} {k k' : Nat} (hk : k ∈ ks) (h : ks.any (Nat.beq k') = false) : k' ≠ k := fun e => by
  have : ks.any (Nat.beq k') = true := List.any_eq_true.mpr ⟨k, hk, by rw [e]; exact Nat.beq_refl _⟩
  rw [this] at h
  cases h
theorem any_t {ks : List Nat} {k' : Nat} (h : ks.any (Nat.beq k') = true) : k' ∈ ks := by
  obtain ⟨j, h1, h2⟩ := List.any_eq_true.mp h
  rw [nbeq_t h2]
  exact h1
theorem keepR_ok {ρ : List Int} {h : List cC} {B : List eP} (hB : okB ρ B) {ks : List Nat} {k : Nat} (hk : k ∈ ks) {n : Nat} {f : Nat → Int32} (h1 : h[k]? = some (.inr (.inl (0, n, f)))) {e x : aX} {i y : Int32} (hi : xv ρ e i.toInt) (h0 : 0 ≤ i.toInt) (hy : xv ρ x y.toInt) {q q2 : aR} (hq : okR1 ρ h q) (hs : keepR B ks e x q = some q2) : okR1 ρ (h.set k (.inr (.inl (0, n, upd f i.toNatClampNeg y)))) q2 := by
  have hl := (List.getElem?_eq_some_iff.mp h1).1
  have hset : (h.set k (.inr (.inl (0, n, upd f i.toNatClampNeg y))))[k]? = some (.inr (.inl (0, n, upd f i.toNatClampNeg y))) := List.getElem?_set_self hl
  have hcl : i.toNatClampNeg = i.toInt.toNat := rfl
  match q, hq, hs with
  | .inl _, hq, hs => cases hs; exact hq
  | .inr (.inl _), hq, hs => cases hs; exact hq
  | .inr (.inr (.inl (k1, j, v))), hq, hs =>
    unfold keepR at hs
    dsimp only at hs
    split at hs
    · rename_i ha
      cases hs
      exact okR1_set hq (fun k' e' => by cases e'; exact any_f hk ha)
    · split at hs
      · rename_i hb
        cases hs
        by_cases ek : k1 = k
        · subst ek
          obtain ⟨kd', n', f', z1, z2⟩ := hq
          rw [h1] at z1
          cases z1
          refine ⟨0, n, _, hset, ?_⟩
          have hne : j ≠ i.toNatClampNeg := fun e0 => by
            have hno := segOut_ok hB hi h0 hb
            exact hno ⟨0, Nat.zero_lt_one, by rw [← hcl, ← e0]; rfl⟩
          rw [pk_un hne]
          exact z2
        · exact okR1_set hq (fun k' e' => by cases e'; exact ek)
      · cases hs
  | .inr (.inr (.inr (k1, u, m))), hq, hs =>
    unfold keepR at hs
    dsimp only at hs
    split at hs
    · rename_i ha
      cases hs
      exact okR1_set hq (fun k' e' => by cases e'; exact any_f hk ha)
    · rename_i ha
      split at hs
      · cases hs
      · rename_i hu
        simp only [Bool.and_eq_true, iLe_ok] at hu
        have hyb := xb_ok hB hy
        have y1 := hyb.1
        have y2 := hyb.2
        have hyu : bt2 (0, u) y.toInt := ⟨by show 0 ≤ y.toInt; omega, by show y.toInt ≤ u; omega⟩
        split at hs
        · rename_i ho
          obtain ⟨o1, o2⟩ := and_inv ho
          cases hs
          have ek := oneK_ok o1 (any_t ha) hk
          subst ek
          obtain ⟨kd', n', f', z, z1, z2, z3⟩ := hq
          rw [h1] at z1
          cases z1
          have ee := xEq_ok o2
          subst ee
          have hz := xv_det hi z2
          refine ⟨0, n, _, z + 1, hset, xInc_ok z2, fun j hj => ?_⟩
          by_cases hj2 : j = i.toNatClampNeg
          · subst hj2
            rw [pk_us]
            exact hyu
          · rw [pk_un hj2]
            exact z3 j (by omega)
        · cases hs
          by_cases ek : k1 = k
          · subst ek
            obtain ⟨kd', n', f', z, z1, z2, z3⟩ := hq
            rw [h1] at z1
            cases z1
            refine ⟨0, n, _, z, hset, z2, fun j hj => ?_⟩
            by_cases hj2 : j = i.toNatClampNeg
            · subst hj2
              rw [pk_us]
              exact hyu
            · rw [pk_un hj2]
              exact z3 j hj
          · exact okR1_set hq (fun k' e' => by cases e'; exact ek)
def newEl (ks : List Nat) (e x : aX) : List aR := match ks, e with
  | [k], .inl c => [.inr (.inr (.inl (k, c.toNat, x)))]
  | _, _ => []
def qIastR (T : List tT) (len : Nat) (a : aS) : Option (List aS) := match a with
  | (pc, ls, .inr (.inl x) :: .inr (.inl e) :: .inl ks :: st, F, B, R) => aNx (Nat.beq len 1 && ks.all (wr1 T B 0 e (xb B x))) (pc + 1, ls, st, F, B, newEl ks e x ++ R.filterMap (keepR B ks e x))
  | _ => none
theorem qIastR_ok {T : List tT} {w : List Int} {len : Nat} {a : aS} {as : List aS} (h : qIastR T len a = some as) : Snd T w a as (kIast len) := by
  intro S hS
  obtain ⟨Spc, Sls, Sst, Sh⟩ := S
  unfold qIastR at h
  split at h
  · rename_i pc ls x e ks st F B R
    obtain ⟨g1, rfl⟩ := aNx_inv h
    obtain ⟨g1, g2⟩ := and_inv g1
    obtain ⟨e1, hG, ρ, hB, hR, hL, hSt, hF⟩ := hS
    dsimp only at e1 hG hB hR hL hSt hF
    obtain ⟨u0, vs0, e6, ⟨y, e7, hy⟩, hS0⟩ := okS_cons hSt
    obtain ⟨u, vs, e2, ⟨i, e3, hi⟩, hS1⟩ := okS_cons hS0
    obtain ⟨u2, vs2, e4, ⟨k, hk, e5⟩, hS2⟩ := okS_cons hS1
    subst e1 e5 e4 e3 e2 e7 e6
    obtain ⟨n, f, z1, z2, z3⟩ := wr1_ok hG hB hi (xb_ok hB hy) (List.all_eq_true.mp g2 k hk)
    have hin : vp_in i n := inB_ok z2
    have hpos : 0 ≤ i.toInt := (vp_in_iff.mp hin).1
    refine ⟨(Spc + 1, Sls, vs2, _), ?_, _, List.mem_singleton.mpr rfl, rfl, z3, ρ, hB, ⟨hR.1, fun q hq => ?_⟩, hL, hS2, okF_row hF z1⟩
    · unfold kIast
      dsimp only
      rw [z1]
      exact cNx_t (by rw [g1, z2]; rfl)
    · rcases List.mem_append.mp hq with hq | hq
      · unfold newEl at hq
        split at hq
        · rename_i k0 c _
          have ek := List.mem_singleton.mp hk
          subst ek
          have e0 := List.mem_singleton.mp hq
          subst e0
          have hi : i.toInt = c := hi
          refine ⟨0, n, _, List.getElem?_set_self (List.getElem?_eq_some_iff.mp z1).1, ?_⟩
          rw [← hi, show i.toInt.toNat = i.toNatClampNeg from rfl, pk_us]
          exact hy
        · cases hq
      · obtain ⟨q0, q1, q2⟩ := List.mem_filterMap.mp hq
        exact keepR_ok hB hk z1 hi hpos hy (hR.2 q0 q1) q2
  · cases h
/-- texts: their parts, lengths and bytes -/
def qGetO (oc idx : Nat) (len : Nat) (a : aS) : Option (List aS) := match fnd (fTab.getD oc []) idx with
  | some (2, ci, _) => (match a with
    | (pc, ls, .inr (.inr (.inr n)) :: st, F, B, R) => (match ci with
      | 1 => aNx (Nat.beq len 3 && (Nat.beq n (2 * (n / 2) + 1) && Nat.ble (n / 2 + 1) nS)) (pc + 3, ls, aO (n + 1) :: st, F, B, R)
      | 2 => aNx (Nat.beq len 3 && (Nat.beq n (2 * (n / 2) + 1) && Nat.ble (n / 2 + 1) nS)) (pc + 3, ls, aI (.inl 0) :: st, F, B, R)
      | _ => none)
    | _ => none)
  | _ => none
theorem qGetO_ok {T : List tT} {w : List Int} {oc idx len : Nat} {a : aS} {as : List aS} (h : qGetO oc idx len a = some as) : Snd T w a as (kGet oc idx len) := by
  intro S hS
  obtain ⟨Spc, Sls, Sst, Sh⟩ := S
  unfold qGetO at h
  split at h
  · rename_i ci fi hfn
    split at h
    · rename_i pc ls n st F B R
      obtain ⟨e1, hG, ρ, hB, hR, hL, hSt, hF⟩ := hS
      dsimp only at e1 hG hB hR hL hSt hF
      obtain ⟨v1, vs1, e2, e3, hS1⟩ := okS_cons hSt
      have e3 : v1 = cO n := e3
      subst e1 e3 e2
      split at h
      · obtain ⟨g1, rfl⟩ := aNx_inv h
        refine ⟨(Spc + 3, Sls, cO (n + 1) :: vs1, Sh), ?_, _, List.mem_singleton.mpr rfl, rfl, hG, ρ, hB, hR, hL, ⟨rfl, hS1⟩, hF⟩
        unfold kGet
        rw [hfn]
        exact cNx_t g1
      · obtain ⟨g1, rfl⟩ := aNx_inv h
        refine ⟨(Spc + 3, Sls, cI 0 :: vs1, Sh), ?_, _, List.mem_singleton.mpr rfl, rfl, hG, ρ, hB, hR, hL, ⟨⟨_, rfl, rfl⟩, hS1⟩, hF⟩
        unfold kGet
        rw [hfn]
        exact cNx_t g1
      · cases h
    · cases h
  · cases h
def qLenO (len : Nat) (a : aS) : Option (List aS) := match a with
  | (pc, ls, .inr (.inr (.inr (n + 1))) :: st, F, B, R) => aNx ((Nat.beq len 1 && (Nat.beq (n + 1) (2 * (n / 2) + 2) && Nat.ble (n / 2 + 1) nS)) && Nat.ble (lenS.getD (n / 2) 0) 2147483647) (pc + 1, ls, aI (.inl (Int.ofNat (lenS.getD (n / 2) 0))) :: st, F, B, R)
  | _ => none
theorem qLenO_ok {T : List tT} {w : List Int} {sc : Option (Nat × (Nat → Int32))} {len : Nat} {a : aS} {as : List aS} (h : qLenO len a = some as) : Snd T w a as (kLen sc len) := by
  intro S hS
  obtain ⟨Spc, Sls, Sst, Sh⟩ := S
  unfold qLenO at h
  split at h
  · rename_i pc ls n st F B R
    obtain ⟨g0, rfl⟩ := aNx_inv h
    obtain ⟨g1, g2⟩ := and_inv g0
    have g2 := Nat.le_of_ble_eq_true g2
    obtain ⟨e1, hG, ρ, hB, hR, hL, hSt, hF⟩ := hS
    dsimp only at e1 hG hB hR hL hSt hF
    obtain ⟨v1, vs1, e2, e3, hS1⟩ := okS_cons hSt
    have e3 : v1 = cO (n + 1) := e3
    subst e1 e3 e2
    have hz : (Int32.ofNat (lenS.getD (n / 2) 0)).toInt = Int.ofNat (lenS.getD (n / 2) 0) := ofInt_in (n := ((lenS.getD (n / 2) 0 : Nat) : Int)) (by omega) (by omega)
    exact ⟨(Spc + 1, Sls, cI (Int32.ofNat (lenS.getD (n / 2) 0)) :: vs1, Sh), cNx_t g1, _, List.mem_singleton.mpr rfl, rfl, hG, ρ, hB, hR, hL, ⟨⟨_, rfl, hz⟩, hS1⟩, hF⟩
  · cases h
def qBaldO (len : Nat) (a : aS) : Option (List aS) := match a with
  | (pc, ls, .inr (.inl (.inl c)) :: .inr (.inr (.inr (n + 1))) :: st, F, B, R) => aNx (Nat.beq len 1 && ((Nat.beq (n + 1) (2 * (n / 2) + 2) && Nat.ble (n / 2 + 1) nS) && (iLe 0 c && iLt c (Int.ofNat (lenS.getD (n / 2) 0))))) (pc + 1, ls, aI (.inl ((bytS.getD (n / 2) []).getD c.toNat 0).toInt) :: st, F, B, R)
  | _ => none
theorem qBaldO_ok {T : List tT} {w : List Int} {len : Nat} {a : aS} {as : List aS} (h : qBaldO len a = some as) : Snd T w a as (kBald len) := by
  intro S hS
  obtain ⟨Spc, Sls, Sst, Sh⟩ := S
  unfold qBaldO at h
  split at h
  · rename_i pc ls c n st F B R
    obtain ⟨g0, rfl⟩ := aNx_inv h
    obtain ⟨g1, g2⟩ := and_inv g0
    obtain ⟨g2, g3⟩ := and_inv g2
    obtain ⟨g4, g5⟩ := and_inv g2
    obtain ⟨e1, hG, ρ, hB, hR, hL, hSt, hF⟩ := hS
    dsimp only at e1 hG hB hR hL hSt hF
    obtain ⟨v1, vs1, e2, ⟨i, e3, hi⟩, hS1⟩ := okS_cons hSt
    obtain ⟨v2, vs2, e4, e5, hS2⟩ := okS_cons hS1
    have e5 : v2 = cO (n + 1) := e5
    have hi : i.toInt = c := hi
    subst e1 e3 e2 e5 e4
    obtain ⟨i1, i2, i3, i4⟩ := inB_of (a := (c, c)) (i := i) ⟨by show c ≤ _; omega, by show _ ≤ c; omega⟩ g3
    refine ⟨(Spc + 1, Sls, cI ((bytS.getD (n / 2) []).getD i.toNatClampNeg 0) :: vs2, Sh), ?_, _, List.mem_singleton.mpr rfl, rfl, hG, ρ, hB, hR, hL, ⟨⟨_, rfl, ?_⟩, hS2⟩, hF⟩
    · show cNx _ _ = _
      exact cNx_t (by rw [g1, g4, g5, i1]; rfl)
    · show _ = _
      rw [i2, hi]
  · cases h
/-- a number made a char -/
theorem sn_i2c {T : List tT} {w : List Int} {len : Nat} {a : aS} {as : List aS} (h : qUn (fun B e => match iLe 0 (xb B e).1 && iLe (xb B e).2 65535 with
  | true => .inl e
  | false => .inr (0, 65535)) (fun e => aI e) len a = some as) : Snd T w a as (kUn (fun x => cI (x.toUInt32 % 65536).toInt32) len) := by
  refine qUn_ok (r := fun e => aI e) (f := fun x => cI (x.toUInt32 % 65536).toInt32) (fz := fun x => ((x.toUInt32 % 65536).toInt32).toInt) (fun ρ B e x hB hx => ?_) (fun _ _ x hx => ⟨(x.toUInt32 % 65536).toInt32, rfl, hx⟩) h
  have hb := xb_ok hB hx
  have hlt : (x.toUInt32 % 65536).toInt32.toBitVec.toNat < 65536 := by
    show (x.toUInt32 % 65536).toNat < 65536
    rw [UInt32.toNat_mod]
    exact Nat.mod_lt _ (by decide)
  have hz : ((x.toUInt32 % 65536).toInt32).toInt = (((x.toUInt32 % 65536).toInt32.toBitVec.toNat : Nat) : Int) := nat_pos (by omega)
  cases hc : iLe 0 (xb B e).1 && iLe (xb B e).2 65535 with
  | false =>
    show bt2 (0, 65535) _
    rw [hz]
    exact ⟨by show (0 : Int) ≤ _; omega, by show _ ≤ (65535 : Int); omega⟩
  | true =>
    simp only [Bool.and_eq_true, iLe_ok] at hc
    have b1 := hb.1
    have b2 := hb.2
    show xv ρ e _
    have h1 := pos_nat (x := x) (by omega)
    have h2 : (x.toUInt32 % 65536).toInt32.toBitVec.toNat = x.toBitVec.toNat % 65536 := by
      show (x.toUInt32 % 65536).toNat = _
      rw [UInt32.toNat_mod]
      rfl
    rw [hz, h2, h1.1]
    have h3 : (x.toInt.toNat % 65536 : Nat) = x.toInt.toNat := Nat.mod_eq_of_lt (by omega)
    rw [h3, Int.toNat_of_nonneg (by omega)]
    exact hx
/-- a switch by a table: one state an arm, and what lies below and above -/
def arm (B : List eP) (R : List aR) (x : aX) (pc : Nat) (ls : List (Nat × aV)) (st : List aV) (F : List (Nat × Nat × aV)) (lo : Int) (off : Int) (j : Nat) : Option (List aS) := match tgtOf pc off with
  | some t => some (altR (sideR B R .eq x (.inl (lo + j))) t ls st F)
  | none => none
def arms (B : List eP) (R : List aR) (x : aX) (pc : Nat) (ls : List (Nat × aV)) (st : List aV) (F : List (Nat × Nat × aV)) (lo : Int) : List Int → Nat → Option (List aS)
  | [], _ => some []
  | off :: r, j => match arm B R x pc ls st F lo off j, arms B R x pc ls st F lo r (j + 1) with
    | some a, some b => some (a ++ b)
    | _, _ => none
def qTsw (dd lo hi : Int) (offs : Array Int) (a : aS) : Option (List aS) := match a with
  | (pc, ls, .inr (.inl x) :: st, F, B, R) => (match tgtOf pc dd, arms B R x pc ls st F lo offs.toList 0, iEq (hi - lo + 1) (Int.ofNat offs.toList.length) with
    | some t, some l, true => some (altR (sideR B R .lt x (.inl lo)) t ls st F ++ (altR (sideR B R .gt x (.inl hi)) t ls st F ++ l))
    | _, _, _ => none)
  | _ => none
theorem arms_ok {B : List eP} {R : List aR} {x : aX} {pc : Nat} {ls : List (Nat × aV)} {st : List aV} {F : List (Nat × Nat × aV)} {lo : Int} : ∀ {offs : List Int} {j : Nat} {l : List aS}, arms B R x pc ls st F lo offs j = some l → ∀ (i : Nat) (off : Int), offs[i]? = some off → ∃ t : Nat, tgtOf pc off = some t ∧ ∀ b ∈ altR (sideR B R .eq x (.inl (lo + ((j + i : Nat) : Int)))) t ls st F, b ∈ l
  | [], j, l, h, i, off, hi => by cases hi
  | o :: r, j, l, h, i, off, hi => by
    unfold arms at h
    split at h
    · rename_i a b ha hb
      cases h
      cases i with
      | zero =>
        cases hi
        unfold arm at ha
        split at ha
        · rename_i t ht
          cases ha
          exact ⟨t, ht, fun b hb => List.mem_append_left _ hb⟩
        · cases ha
      | succ i =>
        obtain ⟨t, h1, h2⟩ := arms_ok hb i off hi
        refine ⟨t, h1, fun q hq => List.mem_append_right _ (h2 q ?_)⟩
        rw [show j + 1 + i = j + (i + 1) by omega]
        exact hq
    · cases h
theorem qTsw_ok {T : List tT} {w : List Int} {dd lo hi : Int} {offs : Array Int} {len : Nat} {a : aS} {as : List aS} (h : qTsw dd lo hi offs a = some as) : Snd T w a as (kTsw dd lo hi offs len) := by
  intro S hS
  obtain ⟨Spc, Sls, Sst, Sh⟩ := S
  unfold qTsw at h
  split at h
  · rename_i pc ls x st F B R
    split at h
    · rename_i t l ht hl hn
      cases h
      have hn := iEq_ok hn
      obtain ⟨e1, hG, ρ, hB, hR, hL, hSt, hF⟩ := hS
      dsimp only at e1 hG hB hR hL hSt hF
      obtain ⟨v2, vs2, e4, ⟨x', e5, hx⟩, hS2⟩ := okS_cons hSt
      subst e1 e5 e4
      unfold kTsw
      dsimp only
      by_cases hP : x'.toInt < lo ∨ hi < x'.toInt
      · have hsw : cSw dd lo hi offs x' = some dd := by
          unfold cSw
          rw [decide_eq_true hP]
        rw [hsw]
        dsimp only
        rw [ht]
        refine ⟨_, cNx_t (Nat.beq_refl _), ?_⟩
        rcases hP with hP | hP
        · obtain ⟨B2, R2, s1, s2, s3⟩ := sideR_ok (k := .lt) (y := .inl lo) hB hR hx rfl hP
          exact ⟨(t, ls, st, F, B2, R2), List.mem_append_left _ (by rw [s1]; exact List.mem_singleton.mpr rfl), rfl, hG, ρ, s2, s3, hL, hS2, hF⟩
        · obtain ⟨B2, R2, s1, s2, s3⟩ := sideR_ok (k := .gt) (y := .inl hi) hB hR hx rfl hP
          exact ⟨(t, ls, st, F, B2, R2), List.mem_append_right _ (List.mem_append_left _ (by rw [s1]; exact List.mem_singleton.mpr rfl)), rfl, hG, ρ, s2, s3, hL, hS2, hF⟩
      · have hlt : (x'.toInt - lo).toNat < offs.toList.length := by
          have : Int.ofNat offs.toList.length = (offs.toList.length : Int) := rfl
          omega
        have hoff : offs.toList[(x'.toInt - lo).toNat]? = some offs.toList[(x'.toInt - lo).toNat] := List.getElem?_eq_getElem hlt
        generalize offs.toList[(x'.toInt - lo).toNat] = off at hoff
        have hsw : cSw dd lo hi offs x' = some off := by
          unfold cSw
          rw [decide_eq_false hP]
          show offs[(x'.toInt - lo).toNat]? = some off
          rw [← Array.getElem?_toList]
          exact hoff
        rw [hsw]
        dsimp only
        obtain ⟨t2, h1, h2⟩ := arms_ok hl _ _ hoff
        rw [h1]
        refine ⟨_, cNx_t (Nat.beq_refl _), ?_⟩
        obtain ⟨B2, R2, s1, s2, s3⟩ := sideR_ok (k := .eq) (y := .inl (lo + ((0 + (x'.toInt - lo).toNat : Nat) : Int))) hB hR hx rfl (by show x'.toInt = _; omega)
        exact ⟨(t2, ls, st, F, B2, R2), List.mem_append_right _ (List.mem_append_right _ (h2 _ (by rw [s1]; exact List.mem_singleton.mpr rfl))), rfl, hG, ρ, s2, s3, hL, hS2, hF⟩
    · cases h
  · cases h
def lswA (B : List eP) (R : List aR) (x : aX) (pc : Nat) (ls : List (Nat × aV)) (st : List aV) (F : List (Nat × Nat × aV)) (t0 : Nat) : List (Int × Int) → Option (List aS)
  | [] => some [(t0, ls, st, F, B, R)]
  | (v, off) :: r => match tgtOf pc off, lswA B R x pc ls st F t0 r with
    | some t, some l => some (altR (sideR B R .eq x (.inl v)) t ls st F ++ l)
    | _, _ => none
def qLsw (dd : Int) (ps : Array (Int × Int)) (a : aS) : Option (List aS) := match a with
  | (pc, ls, .inr (.inl x) :: st, F, B, R) => (match tgtOf pc dd, (ps.toList.zip (ps.toList.drop 1)).all (fun (a, next) => a.1 < next.1) with
    | some t, true => lswA B R x pc ls st F t ps.toList
    | _, _ => none)
  | _ => none
theorem lswA_ok {w ρ : List Int} {h : List cC} {B : List eP} {R : List aR} (hB : okB ρ B) (hR : okR w ρ h R) {x : aX} {z : Int} (hx : xv ρ x z) {pc : Nat} {ls : List (Nat × aV)} {st : List aV} {F : List (Nat × Nat × aV)} {t0 : Nat} {dd : Int} (hd : tgtOf pc dd = some t0) : ∀ {ps : List (Int × Int)} {l : List aS}, lswA B R x pc ls st F t0 ps = some l → ∃ (t : Nat) (B2 : List eP) (R2 : List aR), tgtOf pc (Op.lookupswitch.offset ps dd z) = some t ∧ (t, ls, st, F, B2, R2) ∈ l ∧ okB ρ B2 ∧ okR w ρ h R2
  | [], l, hl => by
    cases hl
    exact ⟨t0, B, R, hd, List.mem_singleton.mpr rfl, hB, hR⟩
  | (v, off) :: r, l, hl => by
    unfold lswA at hl
    split at hl
    · rename_i t l2 ht hl2
      cases hl
      rw [Op.lookupswitch.offset_cons]
      by_cases e : v = z
      · rw [if_pos e]
        obtain ⟨B2, R2, s1, s2, s3⟩ := sideR_ok (k := .eq) (y := .inl v) hB hR hx rfl (by show z = v; omega)
        exact ⟨t, B2, R2, ht, List.mem_append_left _ (by rw [s1]; exact List.mem_singleton.mpr rfl), s2, s3⟩
      · rw [if_neg e]
        obtain ⟨t2, B2, R2, h1, h2, h3, h4⟩ := lswA_ok hB hR hx hd hl2
        exact ⟨t2, B2, R2, h1, List.mem_append_right _ h2, h3, h4⟩
    · cases hl
theorem qLsw_ok {T : List tT} {w : List Int} {dd : Int} {ps : Array (Int × Int)} {len : Nat} {a : aS} {as : List aS} (h : qLsw dd ps a = some as) : Snd T w a as (kLsw dd ps len) := by
  intro S hS
  obtain ⟨Spc, Sls, Sst, Sh⟩ := S
  unfold qLsw at h
  split at h
  · rename_i pc ls x st F B R
    split at h
    · rename_i t ht hn
      obtain ⟨e1, hG, ρ, hB, hR, hL, hSt, hF⟩ := hS
      dsimp only at e1 hG hB hR hL hSt hF
      obtain ⟨v2, vs2, e4, ⟨x', e5, hx⟩, hS2⟩ := okS_cons hSt
      subst e1 e5 e4
      obtain ⟨t2, B2, R2, h1, h2, h3, h4⟩ := lswA_ok hB hR hx ht h
      refine ⟨(t2, Sls, vs2, Sh), ?_, _, h2, rfl, hG, ρ, h3, h4, hL, hS2, hF⟩
      unfold kLsw
      dsimp only
      rw [hn]
      dsimp only
      rw [h1]
      exact cNx_t (Nat.beq_refl _)
    · cases h
  · cases h
