/-! THE CHECKER, 16e: copies of rows -/
def cpyL (sp dp n : eP) (n0 n1 : Nat) : Bool := iLe 0 sp.1 && (iLe 0 dp.1 && (iLe 0 n.1 && (iLe (sp.2 + n.2) (Int.ofNat n0) && iLe (dp.2 + n.2) (Int.ofNat n1))))
def cpyT (T : List tT) (sp dp n : eP) (s d : Nat) : Bool := match T[s]?, T[d]? with
  | some (.inr (.inl (0, n0, b0, _))), some (.inr (.inl (0, n1, b1, []))) => cpyL sp dp n n0 n1 && (iLe b1.1 b0.1 && iLe b0.2 b1.2)
  | some (.inr (.inr (.inl n0))), some (.inr (.inr (.inl n1))) => cpyL sp dp n n0 n1
  | _, _ => false
def qCpy (T : List tT) (len : Nat) (a : aS) : Option (List aS) := match a with
  | (pc, ls, [.inr (.inl n), .inr (.inl dp), .inl kd, .inr (.inl sp), .inl ks], F, B, R) => aNx (Nat.beq len 3 && ks.all (fun s => kd.all (cpyT T (xb B sp) (xb B dp) (xb B n) s))) (pc + 3, ls, [], F, B, cutR kd R)
  | _ => none
theorem cpyL_ok {sp dp n : eP} {n0 n1 : Nat} (h : cpyL sp dp n n0 n1 = true) {x y z : Int32} (hx : bt2 sp x.toInt) (hy : bt2 dp y.toInt) (hz : bt2 n z.toInt) : nng z = true ∧ nng y = true ∧ nng x = true ∧ x.toNatClampNeg + z.toNatClampNeg ≤ n0 ∧ y.toNatClampNeg + z.toNatClampNeg ≤ n1 := by
  unfold cpyL at h
  simp only [Bool.and_eq_true, iLe_ok] at h
  obtain ⟨h1, h2, h3, h4, h5⟩ := h
  have x1 := hx.1; have x2 := hx.2; have y1 := hy.1; have y2 := hy.2; have z1 := hz.1; have z2 := hz.2
  have e0 : Int.ofNat n0 = (n0 : Int) := rfl
  have e1 : Int.ofNat n1 = (n1 : Int) := rfl
  have ex : x.toNatClampNeg = x.toInt.toNat := rfl
  have ey : y.toNatClampNeg = y.toInt.toNat := rfl
  have ez : z.toNatClampNeg = z.toInt.toNat := rfl
  have p : ∀ u : Int32, 0 ≤ u.toInt → nng u = true := fun u hu => by
    apply decide_eq_true
    rw [Int32.lt_iff_toInt_lt]
    have : (0 : Int32).toInt = 0 := rfl
    omega
  exact ⟨p z (by omega), p y (by omega), p x (by omega), by omega, by omega⟩
theorem qCpy_ok {T : List tT} {w : List Int} {len : Nat} {a : aS} {as : List aS} (h : qCpy T len a = some as) : Snd T w a as (kCpy len) := by
  intro S hS
  obtain ⟨Spc, Sls, Sst, Sh⟩ := S
  unfold qCpy at h
  split at h
  · rename_i pc ls n dp kd sp ks F B R
    obtain ⟨g1, rfl⟩ := aNx_inv h
    obtain ⟨g1, g2⟩ := and_inv g1
    obtain ⟨e1, hG, ρ, hB, hR, hL, hSt, hF⟩ := hS
    dsimp only at e1 hG hB hR hL hSt hF
    obtain ⟨u1, vs1, r1, ⟨z, r2, hz⟩, hS1⟩ := okS_cons hSt
    obtain ⟨u2, vs2, r3, ⟨y, r4, hy⟩, hS2⟩ := okS_cons hS1
    obtain ⟨u3, vs3, r5, ⟨d, hd, r6⟩, hS3⟩ := okS_cons hS2
    obtain ⟨u4, vs4, r7, ⟨x, r8, hx⟩, hS4⟩ := okS_cons hS3
    obtain ⟨u5, vs5, r9, ⟨s, hs, r10⟩, hS5⟩ := okS_cons hS4
    have r11 : vs5 = [] := by
      cases vs5 with
      | nil => rfl
      | cons _ _ => exact hS5.elim
    subst e1 r11 r10 r9 r8 r7 r6 r5 r4 r3 r2 r1
    have hc := List.all_eq_true.mp (List.all_eq_true.mp g2 s hs) d hd
    unfold cpyT at hc
    split at hc
    · rename_i n0 b0 gs0 n1 b1 hT0 hT1
      obtain ⟨c1, c2⟩ := and_inv hc
      simp only [Bool.and_eq_true, iLe_ok] at c2
      obtain ⟨l1, l2, l3, l4, l5⟩ := cpyL_ok c1 (xb_ok hB hx) (xb_ok hB hy) (xb_ok hB hz)
      obtain ⟨k0, w1, f0, w2, w3⟩ := hG.2 s _ hT0
      obtain ⟨k1, w4, f1, w5, w6⟩ := hG.2 d _ hT1
      rw [w2] at w1
      rw [w5] at w4
      refine ⟨(Spc + 3, Sls, [], Sh.set d (.inr (.inl (0, n1, va_cpy f0 f1 x.toNatClampNeg y.toNatClampNeg z.toNatClampNeg)))), ?_, _, List.mem_singleton.mpr rfl, rfl, HG_set hG hT1 ⟨_, rfl, fun j hj => ⟨?_, fun q hq => by cases hq⟩⟩, ρ, hB, okR_cut hR hd, hL, trivial, okF_row hF w4⟩
      · unfold kCpy
        dsimp only
        rw [w1, w4]
        exact cNx_t (by rw [g1, l1, l2, l3, Nat.ble_eq_true_of_le l4, Nat.ble_eq_true_of_le l5]; rfl)
      · unfold va_cpy
        split
        · have hb := (w3 (x.toNatClampNeg + (j - y.toNatClampNeg)) (by omega)).1
          have h1 := hb.1
          have h2 := hb.2
          exact ⟨by omega, by omega⟩
        · exact (w6 j hj).1
    · rename_i n0 n1 hT0 hT1
      obtain ⟨l1, l2, l3, l4, l5⟩ := cpyL_ok hc (xb_ok hB hx) (xb_ok hB hy) (xb_ok hB hz)
      obtain ⟨k0, w1, f0, w2⟩ := hG.2 s _ hT0
      obtain ⟨k1, w4, f1, w5⟩ := hG.2 d _ hT1
      rw [w2] at w1
      rw [w5] at w4
      refine ⟨(Spc + 3, Sls, [], Sh.set d (.inr (.inr (.inl (n1, va_cpy f0 f1 x.toNatClampNeg y.toNatClampNeg z.toNatClampNeg))))), ?_, _, List.mem_singleton.mpr rfl, rfl, HG_set hG hT1 ⟨_, rfl⟩, ρ, hB, okR_cut hR hd, hL, trivial, okF_row hF w4⟩
      unfold kCpy
      dsimp only
      rw [w1, w4]
      exact cNx_t (by rw [g1, l1, l2, l3, Nat.ble_eq_true_of_le l4, Nat.ble_eq_true_of_le l5]; rfl)
    · cases hc
  · cases h
