/-! THE CHECKER, 11: fields written -/
def fitT (B : List eP) (v : aV) (t : fT) : Bool := match v, t with
  | .inr (.inl e), .inl b => iLe b.1 (xb B e).1 && iLe (xb B e).2 b.2
  | .inr (.inr (.inl _)), .inr (.inr (.inl _)) => true
  | .inl ks, .inr (.inr (.inr (.inl js))) => ks.all (fun k => js.any (Nat.beq k))
  | .inr (.inr (.inr n)), .inr (.inr (.inr (.inr m))) => Nat.beq n m
  | _, _ => false
theorem fitT_ok {ρ : List Int} {B : List eP} (hB : okB ρ B) {w : List Int} {v : aV} {t : fT} {u : cV} (hv : vV ρ v u) (h : fitT B v t = true) : fV w t u := by
  unfold fitT at h
  split at h
  · obtain ⟨x, h1, h2⟩ := hv
    simp only [Bool.and_eq_true, iLe_ok] at h
    have h3 := xb_ok hB h2
    have h4 := h3.1
    have h5 := h3.2
    exact ⟨x, h1, by omega, by omega⟩
  · obtain ⟨x, h1, h2⟩ := hv
    exact ⟨x, h1⟩
  · obtain ⟨k, h1, h2⟩ := hv
    have h3 := List.all_eq_true.mp h k h1
    obtain ⟨j, h4, h5⟩ := List.any_eq_true.mp h3
    exact ⟨k, by rw [nbeq_t h5]; exact h4, h2⟩
  · have e := nbeq_t h
    subst e
    exact hv
  · cases h
def aokC (ty : FieldType) (a : aV) : Bool := match ty, a with
  | .int, .inr (.inl _) => true
  | .long, .inr (.inr (.inl _)) => true
  | .object _, .inl _ => true
  | .array _, .inl _ => true
  | _, _ => false
theorem aokC_ok {ρ : List Int} {ty : FieldType} {v : aV} {u : cV} (hv : vV ρ v u) (h : aokC ty v = true) : okC ty u = true := by
  unfold aokC at h
  split at h
  · obtain ⟨x, h1, _⟩ := hv
    subst h1
    rfl
  · obtain ⟨x, h1, _⟩ := hv
    subst h1
    rfl
  · obtain ⟨x, _, h1⟩ := hv
    subst h1
    rfl
  · obtain ⟨x, _, h1⟩ := hv
    subst h1
    rfl
  · cases h
def cutF (ks : List Nat) (fi : Nat) (F : List (Nat × Nat × aV)) : List (Nat × Nat × aV) := F.filter (fun q => !(Nat.beq q.2.1 fi && ks.any (Nat.beq q.1)))
def okPut (T : List tT) (B : List eP) (ci fi : Nat) (v : aV) (ks : List Nat) : Bool := ks.all (fun k => match tyF T ci fi k with
  | some t => fitT B v t
  | none => false)
def qPut (T : List tT) (M : eM) (idx : Nat) (len : Nat) (a : aS) : Option (List aS) := match fnd (fTab.getD (m_o M) []) idx with
  | some (kd, ci, fi) => (match a with
    | (pc, ls, v :: .inl ks :: st, F, B, R) => (match classes[ci]? with
      | some (_, Tc, _) => aNx (Nat.beq len 3 && (aokC ((tyls.getD ci []).getD fi .int) v && (!(Tc fi).2.2.2 && (Nat.ble kd 1 && okPut T B ci fi v ks)))) (pc + 3, ls, st, addF ks fi v (cutF ks fi F), B, R)
      | none => none)
    | _ => none)
  | none => none
theorem okF_put {ρ : List Int} {F : List (Nat × Nat × aV)} {h : List cC} (g : okF ρ F h) {ks : List Nat} {k fi ci : Nat} {fs : List cV} {u : cV} {v : aV} {t0 : cV} (hk : k ∈ ks) (h1 : h[k]? = some (.inl (ci, fs))) (h2 : fs[fi]? = some t0) (hv : vV ρ v u) : okF ρ (addF ks fi v (cutF ks fi F)) (h.set k (.inl (ci, fs.set fi u))) := by
  have hl := (List.getElem?_eq_some_iff.mp h1).1
  have hl2 := (List.getElem?_eq_some_iff.mp h2).1
  have old : okF ρ (cutF ks fi F) (h.set k (.inl (ci, fs.set fi u))) := by
    intro q hq
    obtain ⟨q1, q2⟩ := List.mem_filter.mp hq
    obtain ⟨cj, vs, x, z1, z2, z3⟩ := g q q1
    by_cases e : q.1 = k
    · have hne : q.2.1 ≠ fi := by
        intro e2
        have y1 : Nat.beq q.2.1 fi = true := by rw [e2]; exact Nat.beq_refl _
        have y2 : ks.any (Nat.beq q.1) = true := List.any_eq_true.mpr ⟨k, hk, by rw [e]; exact Nat.beq_refl _⟩
        rw [y1, y2] at q2
        cases q2
      rw [e, h1] at z1
      cases z1
      exact ⟨ci, fs.set fi u, x, by rw [e]; exact List.getElem?_set_self hl, by rw [List.getElem?_set_ne (Ne.symm hne)]; exact z2, z3⟩
    · exact ⟨cj, vs, x, by rw [List.getElem?_set_ne (Ne.symm e)]; exact z1, z2, z3⟩
  unfold addF
  split
  · rename_i k0
    have e := List.mem_singleton.mp hk
    subst e
    intro q hq
    rcases List.mem_cons.mp hq with e | hq2
    · subst e
      exact ⟨ci, fs.set fi u, u, List.getElem?_set_self hl, List.getElem?_set_self hl2, hv⟩
    · exact old q hq2
  · exact old
theorem qPut_ok {T : List tT} {w : List Int} {M : eM} {idx len : Nat} {a : aS} {as : List aS} (h : qPut T M idx len a = some as) : Snd T w a as (kPut M idx len) := by
  intro S hS
  obtain ⟨Spc, Sls, Sst, Sh⟩ := S
  unfold qPut at h
  split at h
  · rename_i kd ci fi hfn
    split at h
    · rename_i pc ls v ks st F B R
      split at h
      · rename_i Cn Tc Nn hcl
        obtain ⟨g0, rfl⟩ := aNx_inv h
        obtain ⟨g1, g0⟩ := and_inv g0
        obtain ⟨g2, g0⟩ := and_inv g0
        obtain ⟨g3, g0⟩ := and_inv g0
        obtain ⟨g4, g5⟩ := and_inv g0
        obtain ⟨e1, hG, ρ, hB, hR, hL, hSt, hF⟩ := hS
        dsimp only at e1 hG hB hR hL hSt hF
        obtain ⟨u, vs, e2, hv, hS1⟩ := okS_cons hSt
        obtain ⟨u2, vs2, e3, ⟨k, hk, e4⟩, hS2⟩ := okS_cons hS1
        subst e1 e4 e3 e2
        have h1 := List.all_eq_true.mp g5 k hk
        cases ht : tyF T ci fi k with
        | none => rw [ht] at h1; cases h1
        | some t =>
          rw [ht] at h1
          obtain ⟨ts, h3, h4⟩ := tyF_inv ht
          obtain ⟨fs, x, h5, h6, h7⟩ := HG_get hG h3 h4
          refine ⟨(Spc + 3, Sls, vs2, Sh.set k (.inl (ci, fs.set fi u))), ?_, _, List.mem_singleton.mpr rfl, rfl, HG_put hG h3 h4 h5 (fitT_ok hB hv h1), ρ, hB, okR_nrow hR h5 (fun _ _ _ => nofun), hL, hS2, okF_put hF hk h5 h6 hv⟩
          unfold kPut
          rw [hfn]
          dsimp only
          rw [h5]
          dsimp only
          rw [h6, hcl]
          exact cNx_t (by rw [g1, g3, g4, aokC_ok hv g2, Nat.beq_refl]; rfl)
      · cases h
    · cases h
  · cases h
