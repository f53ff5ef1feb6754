/-! THE CHECKER, 26: contracts of methods -/
/-- a method's number, its arguments, the fields known, bounds, what is known; what it may write; its outcomes -/
abbrev aN : Type := Nat × List aV × List (Nat × Nat × aV) × List eP × List aR × aW × List aU
def Con (P : aP) (d : Nat) (c : aN) : Prop := match c with
  | (mi, as, F0, B0, R0, W, outs) => ∀ (ρ : List Int) (vs : List cV) (h : List cC), HG P.1 [] h → okB ρ B0 → (∀ q ∈ R0, okR1 ρ h q) → okS ρ as vs → okF ρ F0 h → P.2.2.2 h → ∃ (r : Option cV) (h2 : List cC), Trm d mi vs h r h2 ∧ HG P.1 [] h2 ∧ Fr P.2.1 W h h2 ∧ P.2.2.2 h2 ∧ ∃ o ∈ outs, ∃ ρ' : List Int, ρ <+: ρ' ∧ okB ρ' o.2.2.1 ∧ (∀ q ∈ o.2.2.2, okR1 ρ' h2 q) ∧ okF ρ' o.2.1 h2 ∧ retV ρ' o.1 r
/-- the first label is the entry -/
theorem Con_of {P : aP} {W : aW} {d : Nat} {mi : Nat} {N : eM} (hN : eMT[mi]? = some N) {as : List aV} {F0 : List (Nat × Nat × aV)} {B0 : List eP} {R0 : List aR} {outs : List aU} {m : aX × aX × aX} {Ls : List aL} (hc : Nat.ble (acat as) (m_L N) = true) (hO : ∀ l ∈ ((0, aArgs 0 as, [], F0, B0, R0), m) :: Ls, Obl P W d N B0.length outs (((0, aArgs 0 as, [], F0, B0, R0), m) :: Ls) l) : Con P (d + 1) (mi, as, F0, B0, R0, W, outs) := by
  intro ρ vs h hG hB hR hA hF hJ
  obtain ⟨S2, r, z1, z2, z3, z4, o, o1, ρ', o2, o3, o4, o5⟩ := Obl_all hO hB.1 (h0 := h) (mv ρ m) ((0, aArgs 0 as, [], F0, B0, R0), m) List.mem_cons_self ρ (0, cArgs 0 vs, [], h) rfl rfl hG hB ⟨List.prefix_rfl, hR⟩ (okL_args hA) trivial hF ⟨Fr.rf, hJ⟩
  have hcat : catC vs ≤ m_L N := by
    rw [acat_ok hA]
    exact Nat.le_of_ble_eq_true hc
  exact ⟨r, S2.2.2.2, Trm_succ.mpr ⟨N, S2, hN, hcat, z1, z3⟩, z4, z2.1, z2.2, o, o1, ρ', o3.1, o2, o3.2, o4, o5⟩
def chkM (P : aP3) (qc : aQ) (c : aN) (m : aX × aX × aX) (Ls : List aL) (fuel : Nat) : Bool := match c with
  | (mi, as, F0, B0, R0, W, outs) => (match eMT[mi]? with
    | some N => Nat.ble (acat as) (m_L N) && (((0, aArgs 0 as, [], F0, B0, R0), m) :: Ls).all (chkL P W qc N B0.length (((0, aArgs 0 as, [], F0, B0, R0), m) :: Ls) outs fuel)
    | none => false)
theorem chkM_ok {P : aP} (hJ : pJ P) {d : Nat} {qc : aQ} {c : aN} (hQ : Qok P c.2.2.2.2.2.1 d qc) {m : aX × aX × aX} {Ls : List aL} {fuel : Nat} (h : chkM (p3 P) qc c m Ls fuel = true) : Con P (d + 1) c := by
  obtain ⟨mi, as, F0, B0, R0, W, outs⟩ := c
  unfold chkM at h
  dsimp only at h hQ
  split at h
  · rename_i N hN
    obtain ⟨h1, h2⟩ := and_inv h
    exact Con_of hN h1 (fun l hl => chkL_ok hJ hQ (List.all_eq_true.mp h2 l hl))
  · cases h
/-- an outcome told to the caller -/
def vsub (σ : List aX) (v : aV) : Option aV := match v with
  | .inl ks => some (.inl ks)
  | .inr (.inl e) => (match xsub σ e with
    | some e2 => some (aI e2)
    | none => none)
  | .inr (.inr (.inl e)) => (match xsub σ e with
    | some e2 => some (aJ e2)
    | none => none)
  | .inr (.inr (.inr n)) => some (aO n)
theorem vsub_ok {ρ ρA : List Int} {σ : List aX} (hs : sg ρ σ ρA) {v v2 : aV} (h : vsub σ v = some v2) {u : cV} (hu : vV ρA v u) : vV ρ v2 u := by
  unfold vsub at h
  split at h
  · cases h; exact hu
  · split at h
    · rename_i e2 he
      cases h
      obtain ⟨x, h1, h2⟩ := hu
      exact ⟨x, h1, xsub_dn hs he h2⟩
    · cases h
  · split at h
    · rename_i e2 he
      cases h
      obtain ⟨x, h1, h2⟩ := hu
      exact ⟨x, h1, xsub_dn hs he h2⟩
    · cases h
  · cases h; exact hu
def Fsub (σ : List aX) : List (Nat × Nat × aV) → Option (List (Nat × Nat × aV))
  | [] => some []
  | (k, j, v) :: F => match vsub σ v, Fsub σ F with
    | some v2, some F2 => some ((k, j, v2) :: F2)
    | _, _ => none
theorem Fsub_ok {ρ ρA : List Int} {σ : List aX} (hs : sg ρ σ ρA) {h : List cC} : ∀ {F F2 : List (Nat × Nat × aV)}, Fsub σ F = some F2 → okF ρA F h → okF ρ F2 h
  | [], F2, hf, _ => by cases hf; exact fun q hq => by cases hq
  | (k, j, v) :: F, F2, hf, hF => by
    unfold Fsub at hf
    split at hf
    · rename_i v2 F3 hv hF3
      cases hf
      intro q hq
      rcases List.mem_cons.mp hq with e | hq
      · subst e
        obtain ⟨ci, vs, u, u1, u2, u3⟩ := hF _ List.mem_cons_self
        exact ⟨ci, vs, u, u1, u2, vsub_ok hs hv u3⟩
      · exact Fsub_ok hs hF3 (fun q hq => hF q (List.mem_cons_of_mem _ hq)) q hq
    · cases hf
def rsub (σ : List aX) (q : aR) : List aR := match q with
  | .inl (i, j, c) => (match σ[i]?, σ[j]? with
    | some a, some b => upR b a c
    | _, _ => [])
  | .inr (.inl (t, x, y)) => (match σ[t]?, xsub σ x, xsub σ y with
    | some (.inr (c, k, i)), some x2, some y2 => (match iEq c 0 && iEq k 1 with
      | true => [.inr (.inl (i, x2, y2))]
      | false => [])
    | _, _, _ => [])
  | .inr (.inr (.inl (k, i, e))) => (match xsub σ e with
    | some e2 => [.inr (.inr (.inl (k, i, e2)))]
    | none => [])
  | .inr (.inr (.inr (k, u, e))) => (match xsub σ e with
    | some e2 => [.inr (.inr (.inr (k, u, e2)))]
    | none => [])
theorem rsub_ok {ρ ρA : List Int} {σ : List aX} (hs : sg ρ σ ρA) {h : List cC} {q : aR} (hq : okR1 ρA h q) : ∀ p ∈ rsub σ q, okR1 ρ h p := by
  intro p hp
  match q, hq, hp with
  | .inl (i, j, c), ⟨a, b, h1, h2, h3⟩, hp =>
    unfold rsub at hp
    dsimp only at hp
    split at hp
    · rename_i x y hx hy
      obtain ⟨r, r1, r2⟩ := hs i x hx
      obtain ⟨s, s1, s2⟩ := hs j y hy
      rw [h1] at r1
      rw [h2] at s1
      cases r1
      cases s1
      exact upR_ok s2 r2 h3 p hp
    · cases hp
  | .inr (.inl (t, x, y)), ⟨a, b, z, h1, h2, h3, h4⟩, hp =>
    unfold rsub at hp
    dsimp only at hp
    split at hp
    · rename_i c k i x2 y2 ht hx hy
      split at hp
      · rename_i hc
        obtain ⟨c1, c2⟩ := and_inv hc
        have e1 := iEq_ok c1
        have e2 := iEq_ok c2
        subst e1 e2
        have e := List.mem_singleton.mp hp
        subst e
        obtain ⟨r, r1, s, s1, s2⟩ := hs t _ ht
        rw [h1] at r1
        cases r1
        exact ⟨a, b, z, by rw [s1, s2]; congr 1; omega, xsub_dn hs hx h2, xsub_dn hs hy h3, h4⟩
      · cases hp
    · cases hp
  | .inr (.inr (.inl (k, i, e))), ⟨kd, n, f, h1, h2⟩, hp =>
    unfold rsub at hp
    dsimp only at hp
    split at hp
    · rename_i e2 he
      have e := List.mem_singleton.mp hp
      subst e
      exact ⟨kd, n, f, h1, xsub_dn hs he h2⟩
    · cases hp
  | .inr (.inr (.inr (k, u, e))), ⟨kd, n, f, z, h1, h2, h3⟩, hp =>
    unfold rsub at hp
    dsimp only at hp
    split at hp
    · rename_i e2 he
      have e := List.mem_singleton.mp hp
      subst e
      exact ⟨kd, n, f, z, h1, xsub_dn hs he h2, h3⟩
    · cases hp
/-- bounds of the caller, drawn closer by the outcome -/
def rfnL (B : List eP) : List aX → List eP → Option (List eP)
  | e :: σ, b :: bs => (match rfn B e (meet (xb B e) b) with
    | some B2 => rfnL B2 σ bs
    | none => none)
  | _, _ => some B
theorem rfnL_ok {ρ : List Int} {n : Nat} : ∀ {σ : List aX} {bs : List eP} {B : List eP}, okB ρ B → ρ.length = n → σ.all (scp n) = true → (∀ (i : Nat) (e : aX) (b : eP), σ[i]? = some e → bs[i]? = some b → bt2 b (valX ρ e)) → ∃ B2 : List eP, rfnL B σ bs = some B2 ∧ okB ρ B2
  | [], bs, B, hB, _, _, _ => ⟨B, by unfold rfnL; rfl, hB⟩
  | e :: σ, [], B, hB, _, _, _ => ⟨B, by unfold rfnL; rfl, hB⟩
  | e :: σ, b :: bs, B, hB, hn, hs, h => by
    have hs' := List.all_eq_true.mp hs
    have hv := scp_ok hn (hs' e List.mem_cons_self)
    obtain ⟨B2, z1, z2⟩ := rfn_ok hB hv (meet_ok (xb_ok hB hv) (h 0 e b rfl rfl))
    obtain ⟨B3, z3, z4⟩ := rfnL_ok (σ := σ) (bs := bs) z2 hn (List.all_eq_true.mpr fun x hx => hs' x (List.mem_cons_of_mem _ hx)) (fun i e' b' h1 h2 => h (i + 1) e' b' h1 h2)
    exact ⟨B3, by unfold rfnL; rw [z1]; exact z3, z4⟩
def frsh : Nat → Nat → List aX
  | _, 0 => []
  | m, n + 1 => xs m :: frsh (m + 1) n
theorem frsh_at : ∀ {n m i : Nat}, i < n → (frsh m n)[i]? = some (xs (m + i))
  | 0, m, i, h => by omega
  | n + 1, m, 0, _ => rfl
  | n + 1, m, i + 1, h => by
    have := frsh_at (n := n) (m := m + 1) (i := i) (by omega)
    rw [show m + (i + 1) = m + 1 + i by omega]
    exact this
theorem frsh_len : ∀ {n m : Nat}, (frsh m n).length = n
  | 0, _ => rfl
  | n + 1, m => congrArg (· + 1) (frsh_len (n := n) (m := m + 1))
def dropF (W : aW) (F : List (Nat × Nat × aV)) : List (Nat × Nat × aV) := F.filter (fun q => !(inW W q.1 q.2.1))
def dropR (W : aW) (R : List aR) : List aR := R.filter (fun q => match rK q with
  | some k => !(inW W k 1000)
  | none => true)
theorem dropF_ok {PT : List (Nat × sG)} {W : aW} {h h2 : List cC} (hf : Fr PT W h h2) {ρ : List Int} {F : List (Nat × Nat × aV)} (hF : okF ρ F h) : okF ρ (dropF W F) h2 := fun q hq => by
  obtain ⟨q1, q2⟩ := List.mem_filter.mp hq
  obtain ⟨ci, vs, u, u1, u2, u3⟩ := hF q q1
  obtain ⟨c2, z1, vs2, z2, z3⟩ := hf q.1 _ u1
  subst z2
  refine ⟨ci, vs2, u, z1, ?_, u3⟩
  rw [z3 q.2.1 (by cases hh : inW W q.1 q.2.1 with
    | false => rfl
    | true => rw [hh] at q2; cases q2)]
  exact u2
theorem dropR_ok {PT : List (Nat × sG)} {W : aW} {h h2 : List cC} (hf : Fr PT W h h2) {ρ : List Int} {R : List aR} (hR : ∀ q ∈ R, okR1 ρ h q) : ∀ q ∈ dropR W R, okR1 ρ h2 q := fun q hq => by
  obtain ⟨q1, q2⟩ := List.mem_filter.mp hq
  have hq0 := hR q q1
  match q, hq0, q2 with
  | .inl _, hq0, _ => exact hq0
  | .inr (.inl _), hq0, _ => exact hq0
  | .inr (.inr (.inl (k, i, e))), ⟨kd, n, f, z1, z2⟩, q2 =>
    obtain ⟨c2, y1, f2, y2, y3, y4⟩ := hf k _ z1
    subst y2
    have q2 : (!(inW W k 1000)) = true := q2
    have := y3 (by cases hh : inW W k 1000 with
      | false => rfl
      | true => rw [hh] at q2; cases q2)
    subst this
    exact ⟨kd, n, f2, y1, z2⟩
  | .inr (.inr (.inr (k, u, e))), ⟨kd, n, f, z, z1, z2, z3⟩, q2 =>
    obtain ⟨c2, y1, f2, y2, y3, y4⟩ := hf k _ z1
    subst y2
    have q2 : (!(inW W k 1000)) = true := q2
    have := y3 (by cases hh : inW W k 1000 with
      | false => rfl
      | true => rw [hh] at q2; cases q2)
    subst this
    exact ⟨kd, n, f2, z, y1, z2, z3⟩
def instO (W : aW) (σ : List aX) (n0 : Nat) (F : List (Nat × Nat × aV)) (B : List eP) (R : List aR) (o : aU) : Option (List aU) := match rfnL B σ o.2.2.1 with
  | none => some []
  | some B2 => (match σ ++ frsh B.length (o.2.2.1.length - n0) with
    | τ => (match Fsub τ o.2.1, (match o.1 with
        | none => some none
        | some v => (match vsub τ v with
          | some v2 => some (some v2)
          | none => none)) with
      | some F2, some r2 => some [(r2, F2 ++ dropF W F, B2 ++ o.2.2.1.drop n0, o.2.2.2.flatMap (rsub τ) ++ dropR W R)]
      | _, _ => none))
def instL (W : aW) (σ : List aX) (n0 : Nat) (F : List (Nat × Nat × aV)) (B : List eP) (R : List aR) : List aU → Option (List aU)
  | [] => some []
  | o :: os => match instO W σ n0 F B R o, instL W σ n0 F B R os with
    | some a, some b => some (a ++ b)
    | _, _ => none
theorem instL_mem {W : aW} {σ : List aX} {n0 : Nat} {F : List (Nat × Nat × aV)} {B : List eP} {R : List aR} : ∀ {os l : List aU}, instL W σ n0 F B R os = some l → ∀ o ∈ os, ∃ x : List aU, instO W σ n0 F B R o = some x ∧ ∀ b ∈ x, b ∈ l
  | [], l, h, o, ho => by cases ho
  | o0 :: os, l, h, o, ho => by
    unfold instL at h
    split at h
    · rename_i x y hx hy
      cases h
      rcases List.mem_cons.mp ho with e | ho
      · subst e
        exact ⟨x, hx, fun b hb => List.mem_append_left _ hb⟩
      · obtain ⟨z, h1, h2⟩ := instL_mem hy o ho
        exact ⟨z, h1, fun b hb => List.mem_append_right _ (h2 b hb)⟩
    · cases h
def conQ (P : aP3) (W : aW) (c : aN) : aQ := fun mi as F B R => match c with
  | (cm, cas, F0, B0, R0, cW, outs) => (match Nat.beq cm mi && subW cW W with
    | true => (match knoR P.1 R0 (know P.1 F0 (0, [], as, F, B, R)) with
      | b => (match sgO 0 (0, [], cas, F0, B0, R0) b 0 B0 with
        | σ => (match sub σ 0 (0, [], cas, F0, B0, R0) b with
          | true => instL cW σ B0.length b.2.2.2.1 b.2.2.2.2.1 b.2.2.2.2.2 outs
          | false => none)))
    | false => none)
theorem okB_app {ρ1 ρ2 : List Int} {B1 B2 : List eP} (h1 : okB ρ1 B1) (h2 : okB ρ2 B2) : okB (ρ1 ++ ρ2) (B1 ++ B2) := by
  refine ⟨by rw [List.length_append, List.length_append, h1.1, h2.1], fun i b hi => ?_⟩
  by_cases hl : i < B1.length
  · rw [List.getElem?_append_left hl] at hi
    obtain ⟨r, r1, r2⟩ := h1.2 i b hi
    exact ⟨r, by rw [List.getElem?_append_left (by rw [h1.1]; exact hl)]; exact r1, r2⟩
  · rw [List.getElem?_append_right (by omega)] at hi
    obtain ⟨r, r1, r2⟩ := h2.2 _ b hi
    exact ⟨r, by rw [List.getElem?_append_right (by rw [h1.1]; omega), h1.1]; exact r1, r2⟩
theorem okB_drop {ρ : List Int} {B : List eP} (h : okB ρ B) (n : Nat) : okB (ρ.drop n) (B.drop n) := by
  refine ⟨by rw [List.length_drop, List.length_drop, h.1], fun i b hi => ?_⟩
  rw [List.getElem?_drop] at hi
  obtain ⟨r, r1, r2⟩ := h.2 _ b hi
  exact ⟨r, by rw [List.getElem?_drop]; exact r1, r2⟩
theorem conQ_ok {P : aP} {W : aW} {d : Nat} {c : aN} (hc : Con P d c) : Qok P W d (conQ (p3 P) W c) := by
  obtain ⟨cm, cas, F0, B0, R0, cW, outs⟩ := c
  intro mi as F B R los h w ρ vs h0 hh hG hB hR hA hF hK
  unfold conQ at h
  dsimp only at h
  split at h
  · rename_i hcw
    obtain ⟨c1, c2⟩ := and_inv hcw
    have e := nbeq_t c1
    subst e
    have hS : aM P.1 ρ (0, [], as, F, B, R) (0, [], vs, hh) := ⟨rfl, hG, ρ, hB, ⟨List.prefix_rfl, hR.2⟩, (fun q hq => by cases hq), hA, hF⟩
    have hS2 := knoR_ok (R := R0) (know_ok (F := F0) hS)
    generalize knoR P.1 R0 (know P.1 F0 (0, [], as, F, B, R)) = b at hS2 h
    try dsimp only at h
    generalize sgO 0 (0, [], cas, F0, B0, R0) b 0 B0 = σ at h
    split at h
    · rename_i hsub
      obtain ⟨bpc, bls, bst, bF, bB, bR⟩ := b
      obtain ⟨a1, a2, ρ1, a3, a4, a5, a6, a7⟩ := hS2
      dsimp only at a1 a2 a3 a4 a5 a6 a7 h
      obtain ⟨s1, s2, s3, s4, s5, s6, s7, s8⟩ := sub_ok (ρ0 := []) hsub (S := (0, [], vs, hh)) a1 a2 a3 ⟨List.nil_prefix, a4.2⟩ a5 a6 a7
      dsimp only at s3 s4 s6 s7
      obtain ⟨r, h2, t1, t2, t3, t4, o, o1, ρ2, o2, o3, o4, o5, o6⟩ := hc _ vs hh hG s3 s4.2 s6 s7 hK.2
      obtain ⟨x, x1, x2⟩ := instL_mem h o o1
      have hlen : σ.length = B0.length := by
        have := s3.1
        rw [List.length_map] at this
        exact this
      have hpre : ∀ i : Nat, i < B0.length → ρ2[i]? = (σ.map (valX ρ1))[i]? := fun i hi => by
        have hlt : i < (σ.map (valX ρ1)).length := by rw [List.length_map, hlen]; exact hi
        have h1 : (σ.map (valX ρ1))[i]? = some ((σ.map (valX ρ1))[i]'hlt) := List.getElem?_eq_getElem hlt
        rw [h1]
        exact at_mono o2 h1
      obtain ⟨B2, r1, r2⟩ := rfnL_ok (σ := σ) (bs := o.2.2.1) a3 rfl s8 (fun i e b hi hb => by
        obtain ⟨q, q1, q2⟩ := o3.2 i b hb
        have hi2 : i < B0.length := by
          have := (List.getElem?_eq_some_iff.mp hi).1
          omega
        have q3 := hpre i hi2
        rw [q1, List.getElem?_map, hi] at q3
        cases q3
        exact q2)
      unfold instO at x1
      rw [r1] at x1
      dsimp only at x1
      have hρ : ρ1 <+: ρ1 ++ ρ2.drop B0.length := List.prefix_append _ _
      have hsg : sg (ρ1 ++ ρ2.drop B0.length) (σ ++ frsh bB.length (o.2.2.1.length - B0.length)) ρ2 := fun i e hi => by
        by_cases hl : i < σ.length
        · rw [List.getElem?_append_left hl] at hi
          have q3 := hpre i (by omega)
          rw [List.getElem?_map, hi] at q3
          exact ⟨valX ρ1 e, q3, xv_mono hρ (scp_ok rfl (List.all_eq_true.mp s8 e (List.mem_of_getElem? hi)))⟩
        · rw [List.getElem?_append_right (by omega)] at hi
          have hi2 := (List.getElem?_eq_some_iff.mp hi).1
          rw [frsh_len] at hi2
          rw [frsh_at hi2] at hi
          cases hi
          have hi3 : i < ρ2.length := by
            rw [o3.1]
            omega
          refine ⟨ρ2[i], List.getElem?_eq_getElem hi3, xs_ok ?_⟩
          rw [List.getElem?_append_right (by rw [a3.1]; omega), a3.1, List.getElem?_drop, show B0.length + (bB.length + (i - σ.length) - bB.length) = i by omega]
          exact List.getElem?_eq_getElem hi3
      split at x1
      · rename_i F2 r3 hF2 hr3
        cases x1
        refine ⟨r, h2, t1, t2, ⟨Fr.tr c2 hK.1 t3, t4⟩, _, x2 _ (List.mem_singleton.mpr rfl), ρ1 ++ ρ2.drop B0.length, a4.1.trans hρ, okB_app r2 (okB_drop o3 _), ⟨hR.1.trans (a4.1.trans hρ), fun q hq => ?_⟩, fun q hq => ?_, ?_⟩
        · rcases List.mem_append.mp hq with hq | hq
          · obtain ⟨p, p1, p2⟩ := List.mem_flatMap.mp hq
            exact rsub_ok hsg (o4 p p1) q p2
          · exact okR1_mono hρ (dropR_ok t3 a4.2 q hq)
        · rcases List.mem_append.mp hq with hq | hq
          · exact Fsub_ok hsg hF2 o5 q hq
          · exact okF_mono hρ (dropF_ok t3 a7) q hq
        · split at hr3
          · rename_i ho
            cases hr3
            rw [ho] at o6
            cases r with
            | none => exact trivial
            | some u => exact o6.elim
          · rename_i v ho
            rw [ho] at o6
            split at hr3
            · rename_i v2 hv2
              cases hr3
              cases r with
              | none => exact o6.elim
              | some u => exact vsub_ok hsg hv2 o6
            · cases hr3
      · cases x1
    · cases h
  · cases h
def conL (P : aP3) (W : aW) : List aN → aQ
  | [] => noQ
  | c :: cs => orQ (conQ P W c) (conL P W cs)
theorem conL_ok {P : aP} {W : aW} {d : Nat} : ∀ {cs : List aN}, (∀ c ∈ cs, Con P d c) → Qok P W d (conL (p3 P) W cs)
  | [], _ => noQ_ok
  | c :: cs, h => orQ_ok (conQ_ok (h c List.mem_cons_self)) (conL_ok (fun q hq => h q (List.mem_cons_of_mem _ hq)))
theorem Con_le {P : aP} {d d2 : Nat} (hd : d ≤ d2) {c : aN} (h : Con P d c) : Con P d2 c := by
  obtain ⟨mi, as, F0, B0, R0, W, outs⟩ := c
  intro ρ vs hh hG hB hR hA hF hJ
  obtain ⟨r, h2, t, rest⟩ := h ρ vs hh hG hB hR hA hF hJ
  exact ⟨r, h2, Trm_le hd t, rest⟩
/-- contracts, else in their place, so many levels deep -/
def mkQ (P : aP3) (W : aW) (cs : List aN) (fuel : Nat) : Nat → aQ
  | 0 => conL P W cs
  | n + 1 => orQ (conL P W cs) (inlQ P W (mkQ P W cs fuel n) fuel)
theorem mkQ_ok {P : aP} (hJ : pJ P) {W : aW} {d : Nat} {cs : List aN} (h : ∀ c ∈ cs, Con P d c) (fuel : Nat) : ∀ n : Nat, Qok P W (d + n) (mkQ (p3 P) W cs fuel n)
  | 0 => conL_ok h
  | n + 1 => orQ_ok (Qok_le (by omega) (conL_ok h)) (inlQ_ok hJ (mkQ_ok hJ h fuel n) fuel)
/-- a method's contract, checked -/
theorem con_of {P : aP} (hJ : pJ P) {d n : Nat} {cs : List aN} (h : ∀ c ∈ cs, Con P d c) {c : aN} {m : aX × aX × aX} {Ls : List aL} {fuel : Nat} (hk : chkM (p3 P) (mkQ (p3 P) c.2.2.2.2.2.1 cs fuel n) c m Ls fuel = true) : Con P (d + n + 1) c := chkM_ok hJ (mkQ_ok hJ h fuel n) hk
