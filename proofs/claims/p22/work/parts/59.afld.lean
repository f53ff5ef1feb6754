/-! THE CHECKER, 10: fields -/
def tyF (T : List tT) (ci fi k : Nat) : Option fT := match T[k]? with
  | some (.inl (cj, ts)) => (match Nat.beq cj ci with
    | true => ts[fi]?
    | false => none)
  | _ => none
theorem tyF_inv {T : List tT} {ci fi k : Nat} {t : fT} (h : tyF T ci fi k = some t) : ∃ ts : List fT, T[k]? = some (.inl (ci, ts)) ∧ ts[fi]? = some t := by
  unfold tyF at h
  split at h
  · rename_i cj ts hT
    cases hb : Nat.beq cj ci with
    | false => rw [hb] at h; cases h
    | true =>
      rw [hb] at h
      have e := nbeq_t hb
      subst e
      exact ⟨ts, hT, h⟩
  · cases h
def joinT (a b : fT) : Option fT := match a, b with
  | .inl p, .inl q => some (.inl (hull p q))
  | .inr (.inr (.inl _)), .inr (.inr (.inl _)) => some (.inr (.inr (.inl ())))
  | .inr (.inr (.inr (.inl p))), .inr (.inr (.inr (.inl q))) => some (.inr (.inr (.inr (.inl (p ++ q)))))
  | _, _ => none
theorem joinT_ok {w : List Int} {a b t : fT} (h : joinT a b = some t) {v : cV} (hv : fV w a v ∨ fV w b v) : fV w t v := by
  unfold joinT at h
  split at h
  · cases h
    rcases hv with ⟨x, h1, h2⟩ | ⟨x, h1, h2⟩
    · exact ⟨x, h1, hull_l h2⟩
    · exact ⟨x, h1, hull_r h2⟩
  · cases h
    rcases hv with ⟨x, h1⟩ | ⟨x, h1⟩
    · exact ⟨x, h1⟩
    · exact ⟨x, h1⟩
  · cases h
    rcases hv with ⟨x, h1, h2⟩ | ⟨x, h1, h2⟩
    · exact ⟨x, List.mem_append_left _ h1, h2⟩
    · exact ⟨x, List.mem_append_right _ h1, h2⟩
  · cases h
def tyFs (T : List tT) (ci fi : Nat) : List Nat → Option fT
  | [] => none
  | [k] => tyF T ci fi k
  | k :: ks => match tyF T ci fi k, tyFs T ci fi ks with
    | some a, some b => joinT a b
    | _, _ => none
theorem tyFs_ok {T : List tT} {w : List Int} {ci fi : Nat} : ∀ {ks : List Nat} {t : fT}, tyFs T ci fi ks = some t → ∀ k ∈ ks, ∃ tk : fT, tyF T ci fi k = some tk ∧ ∀ v : cV, fV w tk v → fV w t v
  | [], t, h, k, hk => by cases hk
  | [k0], t, h, k, hk => by
    have e := List.mem_singleton.mp hk
    subst e
    exact ⟨t, h, fun v hv => hv⟩
  | k0 :: k1 :: ks, t, h, k, hk => by
    unfold tyFs at h
    split at h
    · rename_i a b ha hb
      rcases List.mem_cons.mp hk with e | hk2
      · subst e
        exact ⟨a, ha, fun v hv => joinT_ok h (Or.inl hv)⟩
      · obtain ⟨tk, h1, h2⟩ := tyFs_ok hb k hk2
        exact ⟨tk, h1, fun v hv => joinT_ok h (Or.inr (h2 v hv))⟩
    · cases h
/-- a value of a type, among the symbols -/
def newV (B : List eP) (t : fT) : aV × List eP := match t with
  | .inl b => (aI (put B (.inr b)).1, (put B (.inr b)).2)
  | .inr (.inl _) => (aI (put B (.inr f32)).1, (put B (.inr f32)).2)
  | .inr (.inr (.inl _)) => (aJ (put B (.inr f64)).1, (put B (.inr f64)).2)
  | .inr (.inr (.inr (.inl ks))) => (.inl ks, B)
  | .inr (.inr (.inr (.inr n))) => (aO n, B)
theorem newV_ok {ρ : List Int} {B : List eP} (hB : okB ρ B) {w : List Int} {t : fT} {v : cV} (h : fV w t v) : ∃ ρ' : List Int, ρ <+: ρ' ∧ okB ρ' (newV B t).2 ∧ vV ρ' (newV B t).1 v := by
  match t, h with
  | .inl b, ⟨x, h1, h2⟩ =>
    have h3 : rv ρ (.inr b) x.toInt := h2
    obtain ⟨ρ', p1, p2, p3⟩ := put_ok hB h3
    exact ⟨ρ', p1, p2, x, h1, p3⟩
  | .inr (.inl _), ⟨x, h1, h2⟩ =>
    have h3 : rv ρ (.inr f32) x.toInt := in_f32 x
    obtain ⟨ρ', p1, p2, p3⟩ := put_ok hB h3
    exact ⟨ρ', p1, p2, x, h1, p3⟩
  | .inr (.inr (.inl _)), ⟨x, h1⟩ =>
    obtain ⟨ρ', p1, p2, p3⟩ := put_ok hB (xJ_any x)
    exact ⟨ρ', p1, p2, x, h1, p3⟩
  | .inr (.inr (.inr (.inl ks))), h => exact ⟨ρ, List.prefix_rfl, hB, h⟩
  | .inr (.inr (.inr (.inr n))), h => exact ⟨ρ, List.prefix_rfl, hB, h⟩
def flk : List (Nat × Nat × aV) → Nat → Nat → Option aV
  | [], _, _ => none
  | (k, j, v) :: r, a, b => match Nat.beq k a && Nat.beq j b with
    | true => some v
    | false => flk r a b
theorem flk_mem : ∀ {F : List (Nat × Nat × aV)} {k j : Nat} {v : aV}, flk F k j = some v → (k, j, v) ∈ F
  | [], _, _, _, h => by cases h
  | (k0, j0, v0) :: r, k, j, v, h => by
    unfold flk at h
    cases hb : Nat.beq k0 k && Nat.beq j0 j with
    | true =>
      rw [hb] at h
      cases h
      obtain ⟨h1, h2⟩ := and_inv hb
      rw [← nbeq_t h1, ← nbeq_t h2]
      exact List.mem_cons_self
    | false =>
      rw [hb] at h
      exact List.mem_cons_of_mem _ (flk_mem h)
def addF (ks : List Nat) (fi : Nat) (v : aV) (F : List (Nat × Nat × aV)) : List (Nat × Nat × aV) := match ks with
  | [k] => (k, fi, v) :: F
  | _ => F
def hit (F : List (Nat × Nat × aV)) (ks : List Nat) (fi : Nat) : Option aV := match ks with
  | [k] => flk F k fi
  | _ => none
/-- a field is read: from what is known, or by its type -/
def qGet (T : List tT) (oc idx : Nat) (len : Nat) (a : aS) : Option (List aS) := match fnd (fTab.getD oc []) idx with
  | some (kd, ci, fi) => (match a with
    | (pc, ls, .inl ks :: st, F, B, R) => (match tyFs T ci fi ks with
      | some t => (match hit F ks fi with
        | some v => aNx (Nat.beq len 3 && Nat.ble kd 1) (pc + 3, ls, v :: st, F, B, R)
        | none => aNx (Nat.beq len 3 && Nat.ble kd 1) (pc + 3, ls, (newV B t).1 :: st, addF ks fi (newV B t).1 F, (newV B t).2, R))
      | none => none)
    | _ => none)
  | none => none
theorem qGet_ok {T : List tT} {w : List Int} {oc idx len : Nat} {a : aS} {as : List aS} (h : qGet T oc idx len a = some as) : Snd T w a as (kGet oc idx len) := by
  intro S hS
  obtain ⟨Spc, Sls, Sst, Sh⟩ := S
  unfold qGet at h
  split at h
  · rename_i kd ci fi hfn
    split at h
    · rename_i pc ls ks st F B R
      split at h
      · rename_i t ht
        obtain ⟨e1, hG, ρ, hB, hR, hL, hSt, hF⟩ := hS
        dsimp only at e1 hG hB hR hL hSt hF
        obtain ⟨u, vs, e2, ⟨k, hk, e3⟩, hS1⟩ := okS_cons hSt
        subst e1 e3 e2
        obtain ⟨tk, h1, h2⟩ := tyFs_ok (w := []) ht k hk
        obtain ⟨ts, h3, h4⟩ := tyF_inv h1
        obtain ⟨fs, v, h5, h6, h7⟩ := HG_get hG h3 h4
        have hstep : (Nat.beq len 3 && Nat.ble kd 1) = true → kGet oc idx len Spc Sls (cR k :: vs) Sh = some (Spc + 3, Sls, v :: vs, Sh) := by
          intro hb
          obtain ⟨b1, b2⟩ := and_inv hb
          unfold kGet
          rw [hfn]
          dsimp only
          rw [h5]
          dsimp only
          rw [h6]
          exact cNx_t (by rw [b1, b2, Nat.beq_refl]; rfl)
        split at h
        · rename_i v0 hv0
          obtain ⟨g1, rfl⟩ := aNx_inv h
          have hv1 : vV ρ v0 v := by
            unfold hit at hv0
            split at hv0
            · have e := List.mem_singleton.mp hk
              subst e
              obtain ⟨ci', fs', v', q1, q2, q3⟩ := hF _ (flk_mem hv0)
              dsimp only at q1 q2 q3
              rw [h5] at q1
              cases q1
              rw [h6] at q2
              cases q2
              exact q3
            · cases hv0
          exact ⟨_, hstep g1, _, List.mem_singleton.mpr rfl, rfl, hG, ρ, hB, hR, hL, ⟨hv1, hS1⟩, hF⟩
        · obtain ⟨g1, rfl⟩ := aNx_inv h
          obtain ⟨ρ', p1, p2, p3⟩ := newV_ok hB (h2 v h7)
          refine ⟨_, hstep g1, _, List.mem_singleton.mpr rfl, rfl, hG, ρ', p2, okR_mono p1 hR, okL_mono p1 hL, ⟨p3, okS_mono p1 hS1⟩, ?_⟩
          show okF ρ' (addF ks fi (newV B t).1 F) Sh
          unfold addF
          split
          · have e := List.mem_singleton.mp hk
            subst e
            intro q hq
            rcases List.mem_cons.mp hq with e | hq2
            · subst e
              exact ⟨ci, fs, v, h5, h6, p3⟩
            · exact okF_mono p1 hF q hq2
          · exact okF_mono p1 hF
      · cases h
    · cases h
  · cases h
