/-! THE CHECKER, 8: steps that move values -/
def qConst (ln : Nat) (v : aV) (len : Nat) (a : aS) : Option (List aS) := match a with
  | (pc, ls, st, F, B, R) => aNx (Nat.beq len ln) (pc + ln, ls, v :: st, F, B, R)
theorem qConst_ok {T : List tT} {w : List Int} {ln len : Nat} {v : aV} {u : cV} (hv : ∀ ρ : List Int, vV ρ v u) {a : aS} {as : List aS} (h : qConst ln v len a = some as) : Snd T w a as (kConst ln u len) := by
  intro S hS
  obtain ⟨Spc, Sls, Sst, Sh⟩ := S
  obtain ⟨pc, ls, st, F, B, R⟩ := a
  obtain ⟨h1, rfl⟩ := aNx_inv h
  obtain ⟨e1, hG, ρ, hB, hR, hL, hSt, hF⟩ := hS
  dsimp only at e1 hG hB hR hL hSt hF
  subst e1
  exact ⟨(Spc + ln, Sls, u :: Sst, Sh), cNx_t h1, _, List.mem_singleton.mpr rfl, rfl, hG, ρ, hB, hR, hL, ⟨hv ρ, hSt⟩, hF⟩
def aisI : aV → Bool
  | .inr (.inl _) => true
  | _ => false
def aisA : aV → Bool
  | .inl _ => true
  | .inr (.inr (.inr n)) => !(Nat.beq n 99)
  | _ => false
def qLoad (p : aV → Bool) (i ln : Nat) (len : Nat) (a : aS) : Option (List aS) := match a with
  | (pc, ls, st, F, B, R) => match alk ls i with
    | some v => aNx (Nat.beq len ln && p v) (pc + ln, ls, v :: st, F, B, R)
    | none => none
theorem qLoad_ok {T : List tT} {w : List Int} {p : aV → Bool} {i ln len : Nat} {k : Nat → Nat → Nat → Nat → List (Nat × cV) → List cV → List cC → Option cS} (hk : ∀ (ρ : List Int) (v : aV) (u : cV) (pc : Nat) (ls : List (Nat × cV)) (st : List cV) (h : List cC), vV ρ v u → p v = true → Nat.beq len ln = true → clk ls i = some u → k i ln len pc ls st h = some (pc + ln, ls, u :: st, h)) {a : aS} {as : List aS} (h : qLoad p i ln len a = some as) : Snd T w a as (k i ln len) := by
  intro S hS
  obtain ⟨Spc, Sls, Sst, Sh⟩ := S
  obtain ⟨pc, ls, st, F, B, R⟩ := a
  unfold qLoad at h
  dsimp only at h
  cases hl : alk ls i with
  | none => rw [hl] at h; cases h
  | some v =>
    rw [hl] at h
    obtain ⟨h1, rfl⟩ := aNx_inv h
    obtain ⟨h1, h2⟩ := and_inv h1
    obtain ⟨e1, hG, ρ, hB, hR, hL, hSt, hF⟩ := hS
    dsimp only at e1 hG hB hR hL hSt hF
    subst e1
    obtain ⟨u, h3, h4⟩ := hL _ (alk_mem hl)
    exact ⟨(Spc + ln, Sls, u :: Sst, Sh), hk ρ v u Spc Sls Sst Sh h4 h2 h1 h3, _, List.mem_singleton.mpr rfl, rfl, hG, ρ, hB, hR, hL, ⟨h4, hSt⟩, hF⟩
theorem qLoadI_ok {T : List tT} {w : List Int} {i ln len : Nat} {a : aS} {as : List aS} (h : qLoad aisI i ln len a = some as) : Snd T w a as (kLoadI i ln len) := by
  refine qLoad_ok (k := kLoadI) (fun ρ v u pc ls st hh hv hp hb hc => ?_) h
  match v, hv, hp with
  | .inr (.inl e), ⟨x, e1, _⟩, _ =>
    subst e1
    unfold kLoadI
    rw [hc]
    exact cNx_t hb
  | .inl _, _, hp => cases hp
  | .inr (.inr (.inl _)), _, hp => cases hp
  | .inr (.inr (.inr _)), _, hp => cases hp
theorem qLoadJ_ok {T : List tT} {w : List Int} {i ln len : Nat} {a : aS} {as : List aS} (h : qLoad awide i ln len a = some as) : Snd T w a as (kLoadJ i ln len) := by
  refine qLoad_ok (k := kLoadJ) (fun ρ v u pc ls st hh hv hp hb hc => ?_) h
  match v, hv, hp with
  | .inr (.inr (.inl e)), ⟨x, e1, _⟩, _ =>
    subst e1
    unfold kLoadJ
    rw [hc]
    exact cNx_t hb
  | .inl _, _, hp => cases hp
  | .inr (.inl _), _, hp => cases hp
  | .inr (.inr (.inr _)), _, hp => cases hp
theorem aisA_ok {ρ : List Int} {v : aV} {u : cV} (hv : vV ρ v u) (hp : aisA v = true) : isRf u = true := by
  match v, hv, hp with
  | .inl ks, ⟨k, _, e⟩, _ => subst e; rfl
  | .inr (.inr (.inr n)), hv, hp =>
    have hv : u = cO n := hv
    subst hv
    exact hp
  | .inr (.inl _), _, hp => cases hp
  | .inr (.inr (.inl _)), _, hp => cases hp
theorem qLoadA_ok {T : List tT} {w : List Int} {i ln len : Nat} {a : aS} {as : List aS} (h : qLoad aisA i ln len a = some as) : Snd T w a as (kLoadA i ln len) := by
  refine qLoad_ok (k := kLoadA) (fun ρ v u pc ls st hh hv hp hb hc => ?_) h
  unfold kLoadA
  rw [hc]
  exact cNx_t (by rw [hb, aisA_ok hv hp]; rfl)
/-- stores -/
def qStI (p : aV → Bool) (nL i ln : Nat) (len : Nat) (a : aS) : Option (List aS) := match a with
  | (pc, ls, v :: st, F, B, R) => aNx (Nat.beq len ln && (Nat.ble (i + 1) nL && p v)) (pc + ln, (i, v) :: ls.filter (akI i), st, F, B, R)
  | _ => none
def qStJ (nL i ln : Nat) (len : Nat) (a : aS) : Option (List aS) := match a with
  | (pc, ls, v :: st, F, B, R) => aNx (Nat.beq len ln && (Nat.ble (i + 2) nL && awide v)) (pc + ln, (i, v) :: ls.filter (akJ i), st, F, B, R)
  | _ => none
def aisR : aV → Bool
  | .inl _ => true
  | _ => false
theorem qStI_ok {T : List tT} {w : List Int} {p : aV → Bool} {nL i ln len : Nat} {k : Nat → Nat → Nat → Nat → Nat → List (Nat × cV) → List cV → List cC → Option cS} (hk : ∀ (ρ : List Int) (v : aV) (u : cV) (pc : Nat) (ls : List (Nat × cV)) (st : List cV) (h : List cC), vV ρ v u → p v = true → Nat.beq len ln = true → Nat.ble (i + 1) nL = true → k nL i ln len pc ls (u :: st) h = some (pc + ln, (i, u) :: ls.filter (ckI i), st, h)) {a : aS} {as : List aS} (h : qStI p nL i ln len a = some as) : Snd T w a as (k nL i ln len) := by
  intro S hS
  obtain ⟨Spc, Sls, Sst, Sh⟩ := S
  unfold qStI at h
  split at h
  · obtain ⟨h1, rfl⟩ := aNx_inv h
    obtain ⟨h1, h2⟩ := and_inv h1
    obtain ⟨h2, h3⟩ := and_inv h2
    obtain ⟨e1, hG, ρ, hB, hR, hL, hSt, hF⟩ := hS
    dsimp only at e1 hG hB hR hL hSt hF
    obtain ⟨u, vs, e2, h4, hS1⟩ := okS_cons hSt
    subst e1 e2
    exact ⟨(_, _, vs, Sh), hk ρ _ u _ Sls vs Sh h4 h3 h1 h2, _, List.mem_singleton.mpr rfl, rfl, hG, ρ, hB, hR, okL_I hL h4, hS1, hF⟩
  · cases h
theorem qStoreI_ok {T : List tT} {w : List Int} {nL i ln len : Nat} {a : aS} {as : List aS} (h : qStI aisI nL i ln len a = some as) : Snd T w a as (kStoreI nL i ln len) := by
  refine qStI_ok (k := kStoreI) (fun ρ v u pc ls st hh hv hp hb hc => ?_) h
  match v, hv, hp with
  | .inr (.inl e), ⟨x, e1, _⟩, _ =>
    subst e1
    exact cNx_t (by rw [hb, hc]; rfl)
  | .inl _, _, hp => cases hp
  | .inr (.inr (.inl _)), _, hp => cases hp
  | .inr (.inr (.inr _)), _, hp => cases hp
theorem qStoreA_ok {T : List tT} {w : List Int} {nL i ln len : Nat} {a : aS} {as : List aS} (h : qStI aisR nL i ln len a = some as) : Snd T w a as (kStoreA nL i ln len) := by
  refine qStI_ok (k := kStoreA) (fun ρ v u pc ls st hh hv hp hb hc => ?_) h
  match v, hv, hp with
  | .inl ks, ⟨k, _, e1⟩, _ =>
    subst e1
    exact cNx_t (by rw [hb, hc]; rfl)
  | .inr (.inl _), _, hp => cases hp
  | .inr (.inr (.inl _)), _, hp => cases hp
  | .inr (.inr (.inr _)), _, hp => cases hp
theorem qStoreJ_ok {T : List tT} {w : List Int} {nL i ln len : Nat} {a : aS} {as : List aS} (h : qStJ nL i ln len a = some as) : Snd T w a as (kStoreJ nL i ln len) := by
  intro S hS
  obtain ⟨Spc, Sls, Sst, Sh⟩ := S
  unfold qStJ at h
  split at h
  · rename_i pc ls v st F B R
    obtain ⟨g0, rfl⟩ := aNx_inv h
    obtain ⟨g1, g4⟩ := and_inv g0
    obtain ⟨g2, h3⟩ := and_inv g4
    clear h g0 g4
    obtain ⟨e1, hG, ρ, hB, hR, hL, hSt, hF⟩ := hS
    dsimp only at e1 hG hB hR hL hSt hF
    obtain ⟨u, vs, e2, h4, hS1⟩ := okS_cons hSt
    subst e1 e2
    refine ⟨(_, _, vs, Sh), ?_, _, List.mem_singleton.mpr rfl, rfl, hG, ρ, hB, hR, okL_J hL h4, hS1, hF⟩
    match v, h4, h3 with
    | .inr (.inr (.inl e)), ⟨x, e1, _⟩, _ =>
      subst e1
      exact cNx_t (by rw [g1, g2]; rfl)
    | .inl _, _, hp => cases hp
    | .inr (.inl _), _, hp => cases hp
    | .inr (.inr (.inr _)), _, hp => cases hp
  · cases h
/-- dup, dup2, pop, goto -/
def qDup (len : Nat) (a : aS) : Option (List aS) := match a with
  | (pc, ls, v :: st, F, B, R) => aNx (Nat.beq len 1 && !(awide v)) (pc + 1, ls, v :: v :: st, F, B, R)
  | _ => none
theorem qDup_ok {T : List tT} {w : List Int} {len : Nat} {a : aS} {as : List aS} (h : qDup len a = some as) : Snd T w a as (kDup len) := by
  intro S hS
  obtain ⟨Spc, Sls, Sst, Sh⟩ := S
  unfold qDup at h
  split at h
  · obtain ⟨h1, rfl⟩ := aNx_inv h
    obtain ⟨e1, hG, ρ, hB, hR, hL, hSt, hF⟩ := hS
    dsimp only at e1 hG hB hR hL hSt hF
    obtain ⟨u, vs, e2, h4, hS1⟩ := okS_cons hSt
    subst e1 e2
    exact ⟨(_, _, _, Sh), cNx_t (by rw [awide_ok h4]; exact h1), _, List.mem_singleton.mpr rfl, rfl, hG, ρ, hB, hR, hL, ⟨h4, h4, hS1⟩, hF⟩
  · cases h
def qDup2 (len : Nat) (a : aS) : Option (List aS) := match a with
  | (pc, ls, v :: u :: st, F, B, R) => aNx (Nat.beq len 1 && (!(awide v) && !(awide u))) (pc + 1, ls, v :: u :: v :: u :: st, F, B, R)
  | _ => none
theorem qDup2_ok {T : List tT} {w : List Int} {len : Nat} {a : aS} {as : List aS} (h : qDup2 len a = some as) : Snd T w a as (kDup2 len) := by
  intro S hS
  obtain ⟨Spc, Sls, Sst, Sh⟩ := S
  unfold qDup2 at h
  split at h
  · obtain ⟨h1, rfl⟩ := aNx_inv h
    obtain ⟨e1, hG, ρ, hB, hR, hL, hSt, hF⟩ := hS
    dsimp only at e1 hG hB hR hL hSt hF
    obtain ⟨u, vs, e2, h4, hS1⟩ := okS_cons hSt
    obtain ⟨u2, vs2, e3, h5, hS2⟩ := okS_cons hS1
    subst e1 e3 e2
    exact ⟨(_, _, _, Sh), cNx_t (by rw [awide_ok h4, awide_ok h5]; exact h1), _, List.mem_singleton.mpr rfl, rfl, hG, ρ, hB, hR, hL, ⟨h4, h5, h4, h5, hS2⟩, hF⟩
  · cases h
def qPop (len : Nat) (a : aS) : Option (List aS) := match a with
  | (pc, ls, v :: st, F, B, R) => aNx (Nat.beq len 1 && !(awide v)) (pc + 1, ls, st, F, B, R)
  | _ => none
theorem qPop_ok {T : List tT} {w : List Int} {len : Nat} {a : aS} {as : List aS} (h : qPop len a = some as) : Snd T w a as (kPop len) := by
  intro S hS
  obtain ⟨Spc, Sls, Sst, Sh⟩ := S
  unfold qPop at h
  split at h
  · obtain ⟨h1, rfl⟩ := aNx_inv h
    obtain ⟨e1, hG, ρ, hB, hR, hL, hSt, hF⟩ := hS
    dsimp only at e1 hG hB hR hL hSt hF
    obtain ⟨u, vs, e2, h4, hS1⟩ := okS_cons hSt
    subst e1 e2
    exact ⟨(_, _, vs, Sh), cNx_t (by rw [awide_ok h4]; exact h1), _, List.mem_singleton.mpr rfl, rfl, hG, ρ, hB, hR, hL, hS1, hF⟩
  · cases h
def qGoto (off : Int) (len : Nat) (a : aS) : Option (List aS) := match a with
  | (pc, ls, st, F, B, R) => match tgtOf pc off with
    | some t => aNx (Nat.beq len 3) (t, ls, st, F, B, R)
    | none => none
theorem qGoto_ok {T : List tT} {w : List Int} {off : Int} {len : Nat} {a : aS} {as : List aS} (h : qGoto off len a = some as) : Snd T w a as (kGoto off len) := by
  intro S hS
  obtain ⟨Spc, Sls, Sst, Sh⟩ := S
  obtain ⟨pc, ls, st, F, B, R⟩ := a
  unfold qGoto at h
  dsimp only at h
  obtain ⟨e1, hG, ρ, hB, hR, hL, hSt, hF⟩ := hS
  dsimp only at e1 hG hB hR hL hSt hF
  subst e1
  cases ht : tgtOf Spc off with
  | none => rw [ht] at h; cases h
  | some t =>
    rw [ht] at h
    obtain ⟨h1, rfl⟩ := aNx_inv h
    refine ⟨(t, Sls, Sst, Sh), ?_, _, List.mem_singleton.mpr rfl, rfl, hG, ρ, hB, hR, hL, hSt, hF⟩
    unfold kGoto
    dsimp only
    rw [ht]
    exact cNx_t h1
