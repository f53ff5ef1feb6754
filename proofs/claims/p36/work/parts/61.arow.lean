/-! THE CHECKER, 12: rows of numbers -/
theorem inB_of {i : Int32} {a : eP} {n : Nat} (hi : bt2 a i.toInt) (h : (iLe 0 a.1 && iLt a.2 (Int.ofNat n)) = true) : inB i n = true ∧ i.toNatClampNeg = i.toInt.toNat ∧ i.toInt.toNat < n ∧ 0 ≤ i.toInt := by
  simp only [Bool.and_eq_true, iLe_ok, iLt_ok] at h
  have h1 := hi.1
  have h2 := hi.2
  have h3 : Int.ofNat n = (n : Int) := rfl
  refine ⟨?_, rfl, by omega, by omega⟩
  have h4 : vp_in i n := vp_in_iff.mpr ⟨by omega, by omega⟩
  exact decide_eq_true h4
/-- the bounds of row k at the place e, if the place is in it -/
def rd1 (T : List tT) (B : List eP) (kd : Nat) (e : aX) (k : Nat) : Option eP := match T[k]? with
  | some (.inr (.inl (kd2, n, d, gs))) => (match Nat.beq kd2 kd && (iLe 0 (xb B e).1 && iLt (xb B e).2 (Int.ofNat n)) with
    | true => some (rdI B e d gs)
    | false => none)
  | _ => none
theorem rd1_ok {T : List tT} {w : List Int} {h : List cC} (hG : HG T w h) {ρ : List Int} {B : List eP} (hB : okB ρ B) {kd k : Nat} {e : aX} {i : Int32} (hi : xv ρ e i.toInt) {b : eP} (hb : rd1 T B kd e k = some b) : ∃ (n : Nat) (f : Nat → Int32), h[k]? = some (.inr (.inl (kd, n, f))) ∧ inB i n = true ∧ bt2 b (f i.toNatClampNeg).toInt := by
  unfold rd1 at hb
  split at hb
  · rename_i kd2 n d gs hT
    split at hb
    · rename_i hc
      obtain ⟨c1, c2⟩ := and_inv hc
      have e0 := nbeq_t c1
      subst e0
      cases hb
      obtain ⟨c, h1, f, h2, h3⟩ := hG.2 k _ hT
      obtain ⟨i1, i2, i3, i4⟩ := inB_of (xb_ok hB hi) c2
      obtain ⟨d1, d2⟩ := h3 _ i3
      exact ⟨n, f, by rw [h1, h2], i1, by rw [i2]; exact rdI_ok hB hi d1 d2⟩
    · cases hb
  · cases hb
def rdK (T : List tT) (B : List eP) (kd : Nat) (e : aX) : List Nat → Option eP
  | [] => none
  | [k] => rd1 T B kd e k
  | k :: ks => match rd1 T B kd e k, rdK T B kd e ks with
    | some a, some b => some (hull a b)
    | _, _ => none
theorem rdK_ok {T : List tT} {w : List Int} {h : List cC} (hG : HG T w h) {ρ : List Int} {B : List eP} (hB : okB ρ B) {kd : Nat} {e : aX} {i : Int32} (hi : xv ρ e i.toInt) : ∀ {ks : List Nat} {b : eP}, rdK T B kd e ks = some b → ∀ k ∈ ks, ∃ (n : Nat) (f : Nat → Int32), h[k]? = some (.inr (.inl (kd, n, f))) ∧ inB i n = true ∧ bt2 b (f i.toNatClampNeg).toInt
  | [], _, h, k, hk => by cases hk
  | [k0], b, h, k, hk => by
    have e0 := List.mem_singleton.mp hk
    subst e0
    exact rd1_ok hG hB hi h
  | k0 :: k1 :: ks, b, h, k, hk => by
    unfold rdK at h
    split at h
    · rename_i b1 b2 hb1 hb2
      cases h
      rcases List.mem_cons.mp hk with e0 | hk2
      · subst e0
        obtain ⟨n, f, z1, z2, z3⟩ := rd1_ok hG hB hi hb1
        exact ⟨n, f, z1, z2, hull_l z3⟩
      · obtain ⟨n, f, z1, z2, z3⟩ := rdK_ok hG hB hi hb2 k hk2
        exact ⟨n, f, z1, z2, hull_r z3⟩
    · cases h
def qIald (T : List tT) (len : Nat) (a : aS) : Option (List aS) := match a with
  | (pc, ls, .inr (.inl e) :: .inl ks :: st, F, B, R) => (match rdK T B 0 e ks with
    | some b => aNx (Nat.beq len 1) (pc + 1, ls, aI (put B (.inr b)).1 :: st, F, (put B (.inr b)).2, R)
    | none => none)
  | _ => none
theorem qIald_ok {T : List tT} {w : List Int} {sc : Option (Nat × (Nat → Int32))} {len : Nat} {a : aS} {as : List aS} (h : qIald T len a = some as) : Snd T w a as (kIald sc len) := by
  intro S hS
  obtain ⟨Spc, Sls, Sst, Sh⟩ := S
  unfold qIald at h
  split at h
  · rename_i pc ls e ks st F B R
    split at h
    · rename_i b hb
      obtain ⟨g1, rfl⟩ := aNx_inv h
      obtain ⟨e1, hG, ρ, hB, hR, hL, hSt, hF⟩ := hS
      dsimp only at e1 hG hB hR hL hSt hF
      obtain ⟨u, vs, e2, ⟨i, e3, hi⟩, hS1⟩ := okS_cons hSt
      obtain ⟨u2, vs2, e4, ⟨k, hk, e5⟩, hS2⟩ := okS_cons hS1
      subst e1 e5 e4 e3 e2
      obtain ⟨n, f, z1, z2, z3⟩ := rdK_ok hG hB hi hb k hk
      have hr : rv ρ (.inr b) (f i.toNatClampNeg).toInt := z3
      obtain ⟨ρ', p1, p2, p3⟩ := put_ok hB hr
      refine ⟨(Spc + 1, Sls, cI (f i.toNatClampNeg) :: vs2, Sh), ?_, _, List.mem_singleton.mpr rfl, rfl, hG, ρ', p2, okR_mono p1 hR, okL_mono p1 hL, ⟨⟨_, rfl, p3⟩, okS_mono p1 hS2⟩, okF_mono p1 hF⟩
      unfold kIald
      dsimp only
      rw [z1]
      exact cNx_t (by rw [g1, z2]; rfl)
    · cases h
  · cases h
/-- may it be written -/
def wr1 (T : List tT) (B : List eP) (kd : Nat) (e : aX) (b : eP) (k : Nat) : Bool := match T[k]? with
  | some (.inr (.inl (kd2, n, d, gs))) => Nat.beq kd2 kd && ((iLe 0 (xb B e).1 && iLt (xb B e).2 (Int.ofNat n)) && ((iLe d.1 b.1 && iLe b.2 d.2) && wrI B e b gs))
  | _ => false
theorem okF_row {ρ : List Int} {F : List (Nat × Nat × aV)} {h : List cC} (g : okF ρ F h) {k : Nat} {c c2} (h1 : h[k]? = some (.inr c)) : okF ρ F (h.set k c2) := by
  intro q hq
  obtain ⟨ci, vs, v, z1, z2, z3⟩ := g q hq
  have hne : q.1 ≠ k := by
    intro e
    rw [e, h1] at z1
    cases z1
  exact ⟨ci, vs, v, by rw [List.getElem?_set_ne (Ne.symm hne)]; exact z1, z2, z3⟩
theorem wr1_ok {T : List tT} {w : List Int} {h : List cC} (hG : HG T w h) {ρ : List Int} {B : List eP} (hB : okB ρ B) {kd k : Nat} {e : aX} {i : Int32} (hi : xv ρ e i.toInt) {b : eP} {x : Int32} (hx : bt2 b x.toInt) (hb : wr1 T B kd e b k = true) : ∃ (n : Nat) (f : Nat → Int32), h[k]? = some (.inr (.inl (kd, n, f))) ∧ inB i n = true ∧ HG T w (h.set k (.inr (.inl (kd, n, upd f i.toNatClampNeg x)))) := by
  unfold wr1 at hb
  split at hb
  · rename_i kd2 n d gs hT
    obtain ⟨c1, c0⟩ := and_inv hb
    obtain ⟨c2, c0⟩ := and_inv c0
    obtain ⟨c3, c4⟩ := and_inv c0
    simp only [Bool.and_eq_true, iLe_ok] at c3
    have e0 := nbeq_t c1
    subst e0
    obtain ⟨c, h1, f, h2, h3⟩ := hG.2 k _ hT
    rw [h2] at h1
    obtain ⟨i1, i2, i3, i4⟩ := inB_of (xb_ok hB hi) c2
    have x1 := hx.1
    have x2 := hx.2
    refine ⟨n, f, h1, i1, HG_putI hG hT h1 (x := x) (i := i.toInt.toNat) ⟨by omega, by omega⟩ (wrI_ok hB hi i4 hx c4) (fun j => ?_)⟩
    by_cases hj : j = i.toInt.toNat
    · refine Or.inr ⟨hj, ?_⟩
      rw [i2, hj, pk_us]
    · exact Or.inl (pk_un (by rw [i2]; exact hj))
  · cases hb
def qIast (T : List tT) (len : Nat) (a : aS) : Option (List aS) := match a with
  | (pc, ls, .inr (.inl x) :: .inr (.inl e) :: .inl ks :: st, F, B, R) => aNx (Nat.beq len 1 && ks.all (wr1 T B 0 e (xb B x))) (pc + 1, ls, st, F, B, cutR ks R)
  | _ => none
theorem qIast_ok {T : List tT} {w : List Int} {len : Nat} {a : aS} {as : List aS} (h : qIast T len a = some as) : Snd T w a as (kIast len) := by
  intro S hS
  obtain ⟨Spc, Sls, Sst, Sh⟩ := S
  unfold qIast at h
  split at h
  · rename_i pc ls x e ks st F B R
    obtain ⟨g1, rfl⟩ := aNx_inv h
    obtain ⟨g1, g2⟩ := and_inv g1
    obtain ⟨e1, hG, ρ, hB, hR, hL, hSt, hF⟩ := hS
    dsimp only at e1 hG hB hR hL hSt hF
    obtain ⟨u0, vs0, e6, ⟨y, e7, hy⟩, hS0⟩ := okS_cons hSt
    obtain ⟨u, vs, e2, ⟨i, e3, hi⟩, hS1⟩ := okS_cons hS0
    obtain ⟨u2, vs2, e4, ⟨k, hk, e5⟩, hS2⟩ := okS_cons hS1
    subst e1 e5 e4 e3 e2 e7 e6
    obtain ⟨n, f, z1, z2, z3⟩ := wr1_ok hG hB hi (xb_ok hB hy) (List.all_eq_true.mp g2 k hk)
    refine ⟨(Spc + 1, Sls, vs2, _), ?_, _, List.mem_singleton.mpr rfl, rfl, z3, ρ, hB, okR_cut hR hk, hL, hS2, okF_row hF z1⟩
    unfold kIast
    dsimp only
    rw [z1]
    exact cNx_t (by rw [g1, z2]; rfl)
  · cases h
