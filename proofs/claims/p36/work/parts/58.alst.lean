/-! THE CHECKER, 9: one number, longs -/
def qInc (nL i : Nat) (n : Int) (len : Nat) (a : aS) : Option (List aS) := match a with
  | (pc, ls, st, F, B, R) => match alk ls i with
    | some (.inr (.inl e)) => aNx (Nat.beq len 3 && (Nat.ble (i + 1) nL && (iLe (-2147483648) n && iLe n 2147483647))) (pc + 3, (i, aI (put B (xAdd B e (.inl n))).1) :: ls.filter (akI i), st, F, (put B (xAdd B e (.inl n))).2, R)
    | _ => none
theorem ofInt_in {n : Int} (h1 : -2147483648 ≤ n) (h2 : n ≤ 2147483647) : (Int32.ofInt n).toInt = n := by
  rw [Int32.toInt_ofInt]
  exact bmod32 h1 h2
theorem qInc_ok {T : List tT} {w : List Int} {nL i : Nat} {n : Int} {len : Nat} {a : aS} {as : List aS} (h : qInc nL i n len a = some as) : Snd T w a as (kInc nL i n len) := by
  intro S hS
  obtain ⟨Spc, Sls, Sst, Sh⟩ := S
  obtain ⟨pc, ls, st, F, B, R⟩ := a
  unfold qInc at h
  dsimp only at h
  split at h
  · rename_i e hl
    obtain ⟨g0, rfl⟩ := aNx_inv h
    obtain ⟨g1, g0⟩ := and_inv g0
    obtain ⟨g2, g0⟩ := and_inv g0
    obtain ⟨g3, g4⟩ := and_inv g0
    rw [iLe_ok] at g3 g4
    obtain ⟨e1, hG, ρ, hB, hR, hL, hSt, hF⟩ := hS
    dsimp only at e1 hG hB hR hL hSt hF
    subst e1
    obtain ⟨u, h3, x, h4, h5⟩ := hL _ (alk_mem hl)
    subst h4
    have hn : xv ρ (.inl n) (Int32.ofInt n).toInt := ofInt_in g3 g4
    obtain ⟨ρ', p1, p2, p3⟩ := put_ok hB (xAdd_ok hB h5 hn)
    refine ⟨(_, _, Sst, Sh), ?_, _, List.mem_singleton.mpr rfl, rfl, hG, ρ', p2, okR_mono p1 hR, okL_I (v := cI (x + Int32.ofInt n)) (okL_mono p1 hL) ⟨_, rfl, p3⟩, okS_mono p1 hSt, okF_mono p1 hF⟩
    unfold kInc
    dsimp only at h3 ⊢
    rw [h3]
    exact cNx_t (by rw [g1, g2]; rfl)
  · cases h
/-- one number to one number -/
def qUn (g : List eP → aX → aX ⊕ eP) (r : aX → aV) (len : Nat) (a : aS) : Option (List aS) := match a with
  | (pc, ls, .inr (.inl x) :: st, F, B, R) => aNx (Nat.beq len 1) (pc + 1, ls, r (put B (g B x)).1 :: st, F, (put B (g B x)).2, R)
  | _ => none
theorem qUn_ok {T : List tT} {w : List Int} {g : List eP → aX → aX ⊕ eP} {r : aX → aV} {f : Int32 → cV} {fz : Int32 → Int} (hg : ∀ (ρ : List Int) (B : List eP) (a : aX) (x : Int32), okB ρ B → xv ρ a x.toInt → rv ρ (g B a) (fz x)) (hr : ∀ (ρ : List Int) (e : aX) (x : Int32), xv ρ e (fz x) → vV ρ (r e) (f x)) {len : Nat} {a : aS} {as : List aS} (h : qUn g r len a = some as) : Snd T w a as (kUn f len) := by
  intro S hS
  obtain ⟨Spc, Sls, Sst, Sh⟩ := S
  unfold qUn at h
  split at h
  · rename_i pc ls x st F B R
    obtain ⟨h1, rfl⟩ := aNx_inv h
    obtain ⟨e1, hG, ρ, hB, hR, hL, hSt, hF⟩ := hS
    dsimp only at e1 hG hB hR hL hSt hF
    obtain ⟨v1, vs1, e2, ⟨x', e3, hx⟩, hS1⟩ := okS_cons hSt
    subst e1 e3 e2
    obtain ⟨ρ', p1, p2, p3⟩ := put_ok hB (hg ρ B x x' hB hx)
    exact ⟨(_, Sls, f x' :: vs1, Sh), cNx_t h1, _, List.mem_singleton.mpr rfl, rfl, hG, ρ', p2, okR_mono p1 hR, okL_mono p1 hL, ⟨hr ρ' _ x' p3, okS_mono p1 hS1⟩, okF_mono p1 hF⟩
  · cases h
def qUnJ (g : List eP → aX → aX ⊕ eP) (r : aX → aV) (len : Nat) (a : aS) : Option (List aS) := match a with
  | (pc, ls, .inr (.inr (.inl x)) :: st, F, B, R) => aNx (Nat.beq len 1) (pc + 1, ls, r (put B (g B x)).1 :: st, F, (put B (g B x)).2, R)
  | _ => none
theorem qUnJ_ok {T : List tT} {w : List Int} {g : List eP → aX → aX ⊕ eP} {r : aX → aV} {f : Int64 → cV} {fz : Int64 → Int} (hg : ∀ (ρ : List Int) (B : List eP) (a : aX) (x : Int64), okB ρ B → xv ρ a x.toInt → rv ρ (g B a) (fz x)) (hr : ∀ (ρ : List Int) (e : aX) (x : Int64), xv ρ e (fz x) → vV ρ (r e) (f x)) {len : Nat} {a : aS} {as : List aS} (h : qUnJ g r len a = some as) : Snd T w a as (kUnJ f len) := by
  intro S hS
  obtain ⟨Spc, Sls, Sst, Sh⟩ := S
  unfold qUnJ at h
  split at h
  · rename_i pc ls x st F B R
    obtain ⟨h1, rfl⟩ := aNx_inv h
    obtain ⟨e1, hG, ρ, hB, hR, hL, hSt, hF⟩ := hS
    dsimp only at e1 hG hB hR hL hSt hF
    obtain ⟨v1, vs1, e2, ⟨x', e3, hx⟩, hS1⟩ := okS_cons hSt
    subst e1 e3 e2
    obtain ⟨ρ', p1, p2, p3⟩ := put_ok hB (hg ρ B x x' hB hx)
    exact ⟨(_, Sls, f x' :: vs1, Sh), cNx_t h1, _, List.mem_singleton.mpr rfl, rfl, hG, ρ', p2, okR_mono p1 hR, okL_mono p1 hL, ⟨hr ρ' _ x' p3, okS_mono p1 hS1⟩, okF_mono p1 hF⟩
  · cases h
theorem sn_i2l {T : List tT} {w : List Int} {len : Nat} {a : aS} {as : List aS} (h : qUn (fun _ e => .inl e) (fun e => aJ e) len a = some as) : Snd T w a as (kUn (fun x => cJ x.toInt64) len) :=
  qUn_ok (g := fun _ e => .inl e) (r := fun e => aJ e) (f := fun x => cJ x.toInt64) (fz := fun x => x.toInt) (fun _ _ _ _ _ hx => hx) (fun _ _ x hx => ⟨x.toInt64, rfl, xI2L_ok hx⟩) h
theorem sn_l2i {T : List tT} {w : List Int} {len : Nat} {a : aS} {as : List aS} (h : qUnJ xL2I (fun e => aI e) len a = some as) : Snd T w a as (kUnJ (fun x => cI x.toInt32) len) :=
  qUnJ_ok (r := fun e => aI e) (f := fun x => cI x.toInt32) (fz := fun x => x.toInt32.toInt) (fun _ _ _ _ hB hx => xL2I_ok hB hx) (fun _ _ x hx => ⟨x.toInt32, rfl, hx⟩) h
theorem sn_i2b {T : List tT} {w : List Int} {len : Nat} {a : aS} {as : List aS} (h : qUn (fun B e => match iLe (-128) (xb B e).1 && iLe (xb B e).2 127 with
  | true => .inl e
  | false => .inr (eB (xb B e))) (fun e => aI e) len a = some as) : Snd T w a as (kUn (fun x => cI x.toInt8.toInt32) len) := by
  refine qUn_ok (r := fun e => aI e) (f := fun x => cI x.toInt8.toInt32) (fz := fun x => x.toInt8.toInt32.toInt) (fun ρ B e x hB hx => ?_) (fun _ _ x hx => ⟨x.toInt8.toInt32, rfl, hx⟩) h
  have hb := xb_ok hB hx
  cases hc : iLe (-128) (xb B e).1 && iLe (xb B e).2 127 with
  | false => exact n_b hb
  | true =>
    simp only [Bool.and_eq_true, iLe_ok] at hc
    have b1 := hb.1
    have b2 := hb.2
    have h1 := n_b (a := (x.toInt, x.toInt)) (x := x) ⟨Int.le_refl _, Int.le_refl _⟩
    unfold eB at h1
    have h2 : (iLe (-128) (x.toInt, x.toInt).1 && iLe (x.toInt, x.toInt).2 127) = true := by
      simp only [Bool.and_eq_true, iLe_ok]
      omega
    rw [h2] at h1
    have h3 : (x.toInt8.toInt32).toInt = x.toInt := Int.le_antisymm h1.2 h1.1
    show xv ρ e (x.toInt8.toInt32).toInt
    rw [h3]
    exact hx
/-- two longs: any long; compared: by their bounds -/
def qBinJ (ok : eP → Bool) (len : Nat) (a : aS) : Option (List aS) := match a with
  | (pc, ls, .inr (.inr (.inl y)) :: .inr (.inr (.inl _)) :: st, F, B, R) => aNx (Nat.beq len 1 && ok (xb B y)) (pc + 1, ls, aJ (put B (.inr f64)).1 :: st, F, (put B (.inr f64)).2, R)
  | _ => none
theorem qBinJ_ok {T : List tT} {w : List Int} {okA : eP → Bool} {okC : Int64 → Bool} {f : Int64 → Int64 → Int64} (ho : ∀ (q : eP) (y : Int64), bt2 q y.toInt → okA q = true → okC y = true) {len : Nat} {a : aS} {as : List aS} (h : qBinJ okA len a = some as) : Snd T w a as (kBinJ okC f len) := by
  intro S hS
  obtain ⟨Spc, Sls, Sst, Sh⟩ := S
  unfold qBinJ at h
  split at h
  · rename_i pc ls y x st F B R
    obtain ⟨h1, rfl⟩ := aNx_inv h
    obtain ⟨h1, h2⟩ := and_inv h1
    obtain ⟨e1, hG, ρ, hB, hR, hL, hSt, hF⟩ := hS
    dsimp only at e1 hG hB hR hL hSt hF
    obtain ⟨v1, vs1, e2, ⟨y', e3, hy⟩, hS1⟩ := okS_cons hSt
    obtain ⟨v2, vs2, e4, ⟨x', e5, hx⟩, hS2⟩ := okS_cons hS1
    subst e1 e3 e5 e4 e2
    have hy2 := ho _ y' (xb_ok hB hy) h2
    obtain ⟨ρ', p1, p2, p3⟩ := put_ok hB (xJ_any (f x' y'))
    exact ⟨(_, Sls, cJ (f x' y') :: vs2, Sh), cNx_t (by rw [h1, hy2]; rfl), _, List.mem_singleton.mpr rfl, rfl, hG, ρ', p2, okR_mono p1 hR, okL_mono p1 hL, ⟨⟨_, rfl, p3⟩, okS_mono p1 hS2⟩, okF_mono p1 hF⟩
  · cases h
def qShJ (len : Nat) (a : aS) : Option (List aS) := match a with
  | (pc, ls, .inr (.inl _) :: .inr (.inr (.inl _)) :: st, F, B, R) => aNx (Nat.beq len 1) (pc + 1, ls, aJ (put B (.inr f64)).1 :: st, F, (put B (.inr f64)).2, R)
  | _ => none
theorem qShJ_ok {T : List tT} {w : List Int} {f : Int64 → Int32 → Int64} {len : Nat} {a : aS} {as : List aS} (h : qShJ len a = some as) : Snd T w a as (kShJ (fun _ => true) f len) := by
  intro S hS
  obtain ⟨Spc, Sls, Sst, Sh⟩ := S
  unfold qShJ at h
  split at h
  · rename_i pc ls y x st F B R
    obtain ⟨h1, rfl⟩ := aNx_inv h
    obtain ⟨e1, hG, ρ, hB, hR, hL, hSt, hF⟩ := hS
    dsimp only at e1 hG hB hR hL hSt hF
    obtain ⟨v1, vs1, e2, ⟨y', e3, hy⟩, hS1⟩ := okS_cons hSt
    obtain ⟨v2, vs2, e4, ⟨x', e5, hx⟩, hS2⟩ := okS_cons hS1
    subst e1 e3 e5 e4 e2
    obtain ⟨ρ', p1, p2, p3⟩ := put_ok hB (xJ_any (f x' y'))
    exact ⟨(_, Sls, cJ (f x' y') :: vs2, Sh), cNx_t (by rw [h1]; rfl), _, List.mem_singleton.mpr rfl, rfl, hG, ρ', p2, okR_mono p1 hR, okL_mono p1 hL, ⟨⟨_, rfl, p3⟩, okS_mono p1 hS2⟩, okF_mono p1 hF⟩
  · cases h
def qCmp (len : Nat) (a : aS) : Option (List aS) := match a with
  | (pc, ls, .inr (.inr (.inl y)) :: .inr (.inr (.inl x)) :: st, F, B, R) => aNx (Nat.beq len 1) (pc + 1, ls, aI (put B (.inr (eCmp (xb B x) (xb B y)))).1 :: st, F, (put B (.inr (eCmp (xb B x) (xb B y)))).2, R)
  | _ => none
theorem qCmp_ok {T : List tT} {w : List Int} {len : Nat} {a : aS} {as : List aS} (h : qCmp len a = some as) : Snd T w a as (kCmp (fun _ => true) (fun x y => lg_cmp x y) len) := by
  intro S hS
  obtain ⟨Spc, Sls, Sst, Sh⟩ := S
  unfold qCmp at h
  split at h
  · rename_i pc ls y x st F B R
    obtain ⟨h1, rfl⟩ := aNx_inv h
    obtain ⟨e1, hG, ρ, hB, hR, hL, hSt, hF⟩ := hS
    dsimp only at e1 hG hB hR hL hSt hF
    obtain ⟨v1, vs1, e2, ⟨y', e3, hy⟩, hS1⟩ := okS_cons hSt
    obtain ⟨v2, vs2, e4, ⟨x', e5, hx⟩, hS2⟩ := okS_cons hS1
    subst e1 e3 e5 e4 e2
    have hc : rv ρ (.inr (eCmp (xb B x) (xb B y))) (lg_cmp x' y').toInt := n_cmp (xb_ok hB hx) (xb_ok hB hy)
    obtain ⟨ρ', p1, p2, p3⟩ := put_ok hB hc
    exact ⟨(_, Sls, cI (lg_cmp x' y') :: vs2, Sh), cNx_t (by rw [h1]; rfl), _, List.mem_singleton.mpr rfl, rfl, hG, ρ', p2, okR_mono p1 hR, okL_mono p1 hL, ⟨⟨_, rfl, p3⟩, okS_mono p1 hS2⟩, okF_mono p1 hF⟩
  · cases h
