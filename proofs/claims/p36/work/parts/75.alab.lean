/-! THE CHECKER, 25: labels with measures; a method's contract -/
/-- a field that is not known is read by its type -/
def know1 (T : List tT) (k j : Nat) (b : aS) : aS := match b with
  | (pc, ls, st, F, B, R) => (match flk F k j with
    | some _ => b
    | none => (match T[k]? with
      | some (.inl (_, ts)) => (match ts[j]? with
        | some t => (match newV B t with
          | (v, B2) => (pc, ls, st, (k, j, v) :: F, B2, R))
        | none => b)
      | _ => b))
theorem know1_ok {T : List tT} {w : List Int} {k j : Nat} {b : aS} {S : cS} (hS : aM T w b S) : aM T w (know1 T k j b) S := by
  obtain ⟨pc, ls, st, F, B, R⟩ := b
  unfold know1
  dsimp only
  split
  · exact hS
  · split
    · rename_i ci ts hT
      split
      · rename_i t ht
        obtain ⟨e1, hG, ρ, hB, hR, hL, hSt, hF⟩ := hS
        obtain ⟨vs, v, h1, h2, h3⟩ := HG_get hG hT ht
        obtain ⟨ρ', p1, p2, p3⟩ := newV_ok hB h3
        generalize newV B t = q at p2 p3
        obtain ⟨v2, B2⟩ := q
        refine ⟨e1, hG, ρ', p2, okR_mono p1 hR, okL_mono p1 hL, okS_mono p1 hSt, fun q hq => ?_⟩
        rcases List.mem_cons.mp hq with e | hq
        · subst e
          exact ⟨ci, vs, v, h1, h2, p3⟩
        · exact okF_mono p1 hF q hq
      · exact hS
    · exact hS
def know (T : List tT) : List (Nat × Nat × aV) → aS → aS
  | [], b => b
  | (k, j, _) :: F, b => know T F (know1 T k j b)
theorem know_ok {T : List tT} {w : List Int} : ∀ {F : List (Nat × Nat × aV)} {b : aS} {S : cS}, aM T w b S → aM T w (know T F b) S
  | [], b, S, h => h
  | (k, j, _) :: F, b, S, h => know_ok (F := F) (know1_ok h)
/-- below 0 there is no place of a row -/
def knoR (T : List tT) : List aR → aS → aS
  | [], b => b
  | .inr (.inr (.inr (k, u, _))) :: R, b => (match knoR T R b, T[k]? with
    | (pc, ls, st, F, B, R2), some (.inr (.inl _)) => (pc, ls, st, F, B, .inr (.inr (.inr (k, u, .inl 0))) :: R2)
    | b2, _ => b2)
  | _ :: R, b => knoR T R b
theorem knoR_ok {T : List tT} {w : List Int} : ∀ {R : List aR} {b : aS} {S : cS}, aM T w b S → aM T w (knoR T R b) S
  | [], b, S, h => h
  | .inr (.inr (.inr (k, u, e))) :: R, b, S, h => by
    have ih := knoR_ok (R := R) h
    unfold knoR
    split
    · rename_i pc ls st F B R2 q hb hT
      rw [hb] at ih
      obtain ⟨e1, hG, ρ, hB, hR, hL, hSt, hF⟩ := ih
      obtain ⟨kd, n, d, gs⟩ := q
      obtain ⟨c, h1, f, h2, h3⟩ := hG.2 k _ hT
      refine ⟨e1, hG, ρ, hB, ⟨hR.1, fun q hq => ?_⟩, hL, hSt, hF⟩
      rcases List.mem_cons.mp hq with e0 | hq
      · subst e0
        exact ⟨kd, n, f, 0, by rw [h1, h2], rfl, fun j hj => by omega⟩
      · exact hR.2 q hq
    · exact ih
  | .inl q :: R, b, S, h => knoR_ok (R := R) h
  | .inr (.inl q) :: R, b, S, h => knoR_ok (R := R) h
  | .inr (.inr (.inl q)) :: R, b, S, h => knoR_ok (R := R) h
/-- what each symbol of a label is in a leaf (found; checked by sub) -/
def isSy (i : Nat) (v : aV) : Bool := match v with
  | .inr (.inl (.inr (c, k, j))) => Nat.beq i j && (iEq c 0 && iEq k 1)
  | .inr (.inr (.inl (.inr (c, k, j)))) => Nat.beq i j && (iEq c 0 && iEq k 1)
  | _ => false
def exOf (v : aV) : Option aX := match v with
  | .inr (.inl e) => some e
  | .inr (.inr (.inl e)) => some e
  | _ => none
def syL (i : Nat) (bls : List (Nat × aV)) : List (Nat × aV) → Option aX
  | [] => none
  | (x, p) :: r => match isSy i p with
    | true => (match alk bls x with
      | some v => exOf v
      | none => syL i bls r)
    | false => syL i bls r
def syT (i : Nat) : List aV → List aV → Option aX
  | p :: ps, v :: vs => (match isSy i p with
    | true => exOf v
    | false => syT i ps vs)
  | _, _ => none
def syF (i : Nat) (bF : List (Nat × Nat × aV)) : List (Nat × Nat × aV) → Option aX
  | [] => none
  | (k, j, p) :: r => match isSy i p with
    | true => (match flk bF k j with
      | some v => exOf v
      | none => syF i bF r)
    | false => syF i bF r
def syR (i : Nat) (bR : List aR) : List aR → Option aX
  | [] => none
  | .inr (.inr (.inl (k, j, e))) :: r => (match isSy i (aI e) with
    | true => (match elm bR k j with
      | some v => some v
      | none => syR i bR r)
    | false => syR i bR r)
  | _ :: r => syR i bR r
def syO (i : Nat) (A b : aS) : aX := match syL i b.2.1 A.2.1 with
  | some e => e
  | none => (match syT i A.2.2.1 b.2.2.1 with
    | some e => e
    | none => (match syF i b.2.2.2.1 A.2.2.2.1 with
      | some e => e
      | none => (match syR i b.2.2.2.2.2 A.2.2.2.2.2 with
        | some e => e
        | none => .inl 0)))
def sgO (n0 : Nat) (A b : aS) : Nat → List eP → List aX
  | _, [] => []
  | i, _ :: r => (match Nat.ble (i + 1) n0 with
    | true => xs i
    | false => syO i A b) :: sgO n0 A b (i + 1) r
/-- measures -/
abbrev aL : Type := aS × (aX × aX × aX)
def mv (ρ : List Int) (m : aX × aX × aX) : Nat × Nat × Nat := ((valX ρ m.1).toNat, (valX ρ m.2.1).toNat, (valX ρ m.2.2).toNat)
def lxL (B : List eP) (R : List aR) (a b : aX × aX × aX) : Bool := iLe 1 (lbd B R b.1 a.1) || (iLe 0 (lbd B R b.1 a.1) && (iLe 1 (lbd B R b.2.1 a.2.1) || (iLe 0 (lbd B R b.2.1 a.2.1) && iLe 1 (lbd B R b.2.2 a.2.2))))
def sub3 (σ : List aX) (m : aX × aX × aX) : Option (aX × aX × aX) := match xsub σ m.1, xsub σ m.2.1, xsub σ m.2.2 with
  | some a, some b, some c => some (a, b, c)
  | _, _, _ => none
def scp3 (n : Nat) (m : aX × aX × aX) : Bool := scp n m.1 && (scp n m.2.1 && scp n m.2.2)
def pos3 (B : List eP) (m : aX × aX × aX) : Bool := iLe 0 (xb B m.1).1 && (iLe 0 (xb B m.2.1).1 && iLe 0 (xb B m.2.2).1)
abbrev lt3 : Nat × Nat × Nat → Nat × Nat × Nat → Prop := Prod.Lex (· < ·) (Prod.Lex (· < ·) (· < ·))
theorem lt3_wf : WellFounded lt3 := (Prod.lex Nat.lt_wfRel (Prod.lex Nat.lt_wfRel Nat.lt_wfRel)).wf
theorem lt3_of {a1 a2 a3 b1 b2 b3 : Nat} (h : a1 < b1 ∨ (a1 ≤ b1 ∧ (a2 < b2 ∨ (a2 ≤ b2 ∧ a3 < b3)))) : lt3 (a1, a2, a3) (b1, b2, b3) := by
  rcases h with h | ⟨h1, h⟩
  · exact Prod.Lex.left _ _ h
  · by_cases e : a1 < b1
    · exact Prod.Lex.left _ _ e
    · have : a1 = b1 := by omega
      subst this
      refine Prod.Lex.right _ ?_
      rcases h with h | ⟨h2, h⟩
      · exact Prod.Lex.left _ _ h
      · by_cases e : a2 < b2
        · exact Prod.Lex.left _ _ e
        · have : a2 = b2 := by omega
          subst this
          exact Prod.Lex.right _ h
/-- to a label, from one with the measure m -/
def toL (T : List tT) (n0 : Nat) (m : aX × aX × aX) (b : aS) (l : aL) : Bool := Nat.beq l.1.1 b.1 && (match knoR T l.1.2.2.2.2.2 (know T l.1.2.2.2.1 b) with
  | b2 => (match sgO n0 l.1 b2 0 l.1.2.2.2.2.1 with
    | σ => sub σ n0 l.1 b2 && (match sub3 σ l.2 with
      | some m2 => (scp3 b2.2.2.2.2.1.length m2 && pos3 b2.2.2.2.2.1 m2) && (scp3 b2.2.2.2.2.1.length m && lxL b2.2.2.2.2.1 b2.2.2.2.2.2 m2 m)
      | none => false)))
def outA (o : aU) : aS := (0, [], o.1.toList, o.2.1, o.2.2.1, o.2.2.2)
/-- to an outcome -/
def toO (T : List tT) (n0 : Nat) (o : aU) (out : aU) : Bool := (match o.1, out.1 with
  | some _, some _ => true
  | none, none => true
  | _, _ => false) && (match knoR T out.2.2.2 (know T out.2.1 (outA o)) with
  | b2 => (match sgO n0 (outA out) b2 0 out.2.2.1 with
    | σ => sub σ n0 (outA out) b2))
def okLf (P : aP3) (M : eM) (n0 : Nat) (Ls : List aL) (outs : List aU) (m : aX × aX × aX) (b : aS) : Bool := match isRt M b.1 with
  | true => (match aEnd M b with
    | some o => outs.any (toO P.1 n0 o)
    | none => false)
  | false => Ls.any (toL P.1 n0 m b)
def chkL (P : aP3) (W : aW) (qc : aQ) (M : eM) (n0 : Nat) (Ls : List aL) (outs : List aU) (fuel : Nat) (l : aL) : Bool := (pos3 l.1.2.2.2.2.1 l.2 && scp3 l.1.2.2.2.2.1.length l.2) && (match isRt M l.1.1 with
  | true => okLf P M n0 Ls outs l.2 l.1
  | false => (match stpF P W qc M l.1 with
    | some as => (match lift (explF P W qc M (fun pc => isRt M pc || Ls.any (fun q => Nat.beq q.1.1 pc)) fuel) as with
      | some bs => bs.all (okLf P M n0 Ls outs l.2)
      | none => false)
    | none => false))
/-- what is owed of a label -/
def Obl (P : aP) (W : aW) (d : Nat) (M : eM) (n0 : Nat) (outs : List aU) (Ls : List aL) (l : aL) : Prop := ∀ (ρ0 : List Int), ρ0.length = n0 → ∀ (h0 : List cC) (ρ : List Int) (S : cS), S.1 = l.1.1 → HG P.1 [] S.2.2.2 → okB ρ l.1.2.2.2.2.1 → okR ρ0 ρ S.2.2.2 l.1.2.2.2.2.2 → okL ρ l.1.2.1 S.2.1 → okS ρ l.1.2.2.1 S.2.2.1 → okF ρ l.1.2.2.2.1 S.2.2.2 → Kp P W h0 S.2.2.2 → ∃ S2 : cS, Go (calF (Trm d)) M none S S2 ∧ Kp P W h0 S2.2.2.2 ∧ ((∃ l2 ∈ Ls, ∃ ρ2 : List Int, S2.1 = l2.1.1 ∧ HG P.1 [] S2.2.2.2 ∧ okB ρ2 l2.1.2.2.2.2.1 ∧ okR ρ0 ρ2 S2.2.2.2 l2.1.2.2.2.2.2 ∧ okL ρ2 l2.1.2.1 S2.2.1 ∧ okS ρ2 l2.1.2.2.1 S2.2.2.1 ∧ okF ρ2 l2.1.2.2.2.1 S2.2.2.2 ∧ lt3 (mv ρ2 l2.2) (mv ρ l.2)) ∨ ∃ r : Option cV, cEnd M S2 = some (r, S2.2.2.2) ∧ HG P.1 [] S2.2.2.2 ∧ ∃ o ∈ outs, ∃ ρ' : List Int, okB ρ' o.2.2.1 ∧ okR ρ0 ρ' S2.2.2.2 o.2.2.2 ∧ okF ρ' o.2.1 S2.2.2.2 ∧ retV ρ' o.1 r)
theorem Obl_all {P : aP} {W : aW} {d : Nat} {M : eM} {n0 : Nat} {outs : List aU} {Ls : List aL} (hO : ∀ l ∈ Ls, Obl P W d M n0 outs Ls l) {ρ0 : List Int} (hn0 : ρ0.length = n0) {h0 : List cC} (m : Nat × Nat × Nat) : ∀ (l : aL), l ∈ Ls → ∀ (ρ : List Int) (S : cS), mv ρ l.2 = m → S.1 = l.1.1 → HG P.1 [] S.2.2.2 → okB ρ l.1.2.2.2.2.1 → okR ρ0 ρ S.2.2.2 l.1.2.2.2.2.2 → okL ρ l.1.2.1 S.2.1 → okS ρ l.1.2.2.1 S.2.2.1 → okF ρ l.1.2.2.2.1 S.2.2.2 → Kp P W h0 S.2.2.2 → ∃ (S2 : cS) (r : Option cV), Go (calF (Trm d)) M none S S2 ∧ Kp P W h0 S2.2.2.2 ∧ cEnd M S2 = some (r, S2.2.2.2) ∧ HG P.1 [] S2.2.2.2 ∧ ∃ o ∈ outs, ∃ ρ' : List Int, okB ρ' o.2.2.1 ∧ okR ρ0 ρ' S2.2.2.2 o.2.2.2 ∧ okF ρ' o.2.1 S2.2.2.2 ∧ retV ρ' o.1 r := by
  induction m using lt3_wf.induction with
  | _ m ih =>
    intro l hl ρ S hm e1 hG hB hR hL hSt hF hK
    obtain ⟨S2, g1, g2, g3⟩ := hO l hl ρ0 hn0 h0 ρ S e1 hG hB hR hL hSt hF hK
    rcases g3 with ⟨l2, q1, ρ2, q2, q3, q4, q5, q6, q7, q8, q9⟩ | ⟨r, q1, q2, q3⟩
    · obtain ⟨S3, r, z1, z2⟩ := ih _ (by rw [← hm]; exact q9) l2 q1 ρ2 S2 rfl q2 q3 q4 q5 q6 q7 q8 g2
      exact ⟨S3, r, g1.trans z1, z2⟩
    · exact ⟨S2, r, g1, g2, q1, q2, q3⟩
theorem lxL_ok {ρ : List Int} {h : List cC} {B : List eP} {R : List aR} (hB : okB ρ B) (hR : ∀ q ∈ R, okR1 ρ h q) {a b : aX × aX × aX} (ha : scp3 B.length a = true) (hb : scp3 B.length b = true) (hpa : pos3 B a = true) (hp : 0 ≤ valX ρ b.1 ∧ 0 ≤ valX ρ b.2.1 ∧ 0 ≤ valX ρ b.2.2) (h1 : lxL B R a b = true) : lt3 (mv ρ a) (mv ρ b) := by
  obtain ⟨a1, a2, a3⟩ := a
  obtain ⟨b1, b2, b3⟩ := b
  unfold scp3 at ha hb
  dsimp only at ha hb hp
  obtain ⟨ha1, ha⟩ := and_inv ha
  obtain ⟨ha2, ha3⟩ := and_inv ha
  obtain ⟨hb1, hb⟩ := and_inv hb
  obtain ⟨hb2, hb3⟩ := and_inv hb
  have l1 := lbd_ok hB hR (scp_ok hB.1 hb1) (scp_ok hB.1 ha1)
  have l2 := lbd_ok hB hR (scp_ok hB.1 hb2) (scp_ok hB.1 ha2)
  have l3 := lbd_ok hB hR (scp_ok hB.1 hb3) (scp_ok hB.1 ha3)
  unfold lxL at h1
  have x1 := (xb_ok hB (scp_ok hB.1 ha1)).1
  have x2 := (xb_ok hB (scp_ok hB.1 ha2)).1
  have x3 := (xb_ok hB (scp_ok hB.1 ha3)).1
  unfold pos3 at hpa
  dsimp only at h1 hpa
  simp only [Bool.and_eq_true, iLe_ok] at hpa
  simp only [Bool.or_eq_true, Bool.and_eq_true, iLe_ok] at h1
  unfold mv
  dsimp only
  refine lt3_of ?_
  omega
theorem mv_sub {ρ : List Int} {σ : List aX} (hs : σ.all (scp ρ.length) = true) {m m2 : aX × aX × aX} (h : sub3 σ m = some m2) (h2 : scp3 ρ.length m2 = true) : mv (σ.map (valX ρ)) m = mv ρ m2 := by
  have hg := sg_map rfl hs
  unfold sub3 at h
  split at h
  · rename_i a b c ha hb hc
    cases h
    unfold scp3 at h2
    dsimp only at h2
    obtain ⟨s1, s2⟩ := and_inv h2
    obtain ⟨s2, s3⟩ := and_inv s2
    have e1 := valX_ok (xsub_up hg ha (scp_ok rfl s1))
    have e2 := valX_ok (xsub_up hg hb (scp_ok rfl s2))
    have e3 := valX_ok (xsub_up hg hc (scp_ok rfl s3))
    unfold mv
    dsimp only
    rw [← e1, ← e2, ← e3]
  · cases h
theorem mv_pre {ρ ρ' : List Int} (hp : ρ <+: ρ') {m : aX × aX × aX} (h : scp3 ρ.length m = true) : mv ρ' m = mv ρ m ∧ valX ρ' m.1 = valX ρ m.1 ∧ valX ρ' m.2.1 = valX ρ m.2.1 ∧ valX ρ' m.2.2 = valX ρ m.2.2 := by
  unfold scp3 at h
  obtain ⟨s1, s2⟩ := and_inv h
  obtain ⟨s2, s3⟩ := and_inv s2
  have e1 := valX_mono hp rfl s1
  have e2 := valX_mono hp rfl s2
  have e3 := valX_mono hp rfl s3
  refine ⟨?_, e1, e2, e3⟩
  unfold mv
  rw [e1, e2, e3]
theorem okLf_ok {P : aP} {W : aW} {d : Nat} {M : eM} {ρ0 ρ : List Int} {Ls : List aL} {outs : List aU} {m : aX × aX × aX} (hm : scp3 ρ.length m = true) (hpos : 0 ≤ valX ρ m.1 ∧ 0 ≤ valX ρ m.2.1 ∧ 0 ≤ valX ρ m.2.2) (h00 : ρ0 <+: ρ) {h0 : List cC} {b : aS} (h : okLf (p3 P) M ρ0.length Ls outs m b = true) {S2 : cS} (hS : aM P.1 ρ b S2) : (∃ l2 ∈ Ls, ∃ ρ2 : List Int, S2.1 = l2.1.1 ∧ HG P.1 [] S2.2.2.2 ∧ okB ρ2 l2.1.2.2.2.2.1 ∧ okR ρ0 ρ2 S2.2.2.2 l2.1.2.2.2.2.2 ∧ okL ρ2 l2.1.2.1 S2.2.1 ∧ okS ρ2 l2.1.2.2.1 S2.2.2.1 ∧ okF ρ2 l2.1.2.2.2.1 S2.2.2.2 ∧ lt3 (mv ρ2 l2.2) (mv ρ m)) ∨ ∃ r : Option cV, cEnd M S2 = some (r, S2.2.2.2) ∧ HG P.1 [] S2.2.2.2 ∧ ∃ o ∈ outs, ∃ ρ' : List Int, okB ρ' o.2.2.1 ∧ okR ρ0 ρ' S2.2.2.2 o.2.2.2 ∧ okF ρ' o.2.1 S2.2.2.2 ∧ retV ρ' o.1 r := by
  unfold okLf at h
  split at h
  · refine Or.inr ?_
    split at h
    · rename_i o ho
      obtain ⟨out, o1, o2⟩ := List.any_eq_true.mp h
      obtain ⟨r, z1, ρ1, z2, z3, z4, z5⟩ := aEnd_ok ho hS
      unfold toO at o2
      obtain ⟨o3, o2⟩ := and_inv o2
      have hA : aM P.1 ρ (outA o) (0, [], r.toList, S2.2.2.2) := by
        refine ⟨rfl, hS.2.1, ρ1, z2, z3, (fun q hq => by cases hq), ?_, z4⟩
        show okS ρ1 o.1.toList r.toList
        cases hro : o.1 with
        | none =>
          rw [hro] at z5
          cases r with
          | none => exact trivial
          | some v => exact z5.elim
        | some x =>
          rw [hro] at z5
          cases r with
          | none => exact z5.elim
          | some v => exact ⟨z5, trivial⟩
      have hA2 := knoR_ok (R := out.2.2.2) (know_ok (F := out.2.1) hA)
      generalize knoR P.1 out.2.2.2 (know P.1 out.2.1 (outA o)) = b2 at hA2 o2
      dsimp only at o2
      generalize sgO ρ0.length (outA out) b2 0 out.2.2.1 = σ at o2
      obtain ⟨a1, a2, ρ2, a3, a4, a5, a6, a7⟩ := hA2
      obtain ⟨s1, s2, s3, s4, s5, s6, s7, s8⟩ := sub_ok o2 a1 a2 a3 ⟨h00.trans a4.1, a4.2⟩ a5 a6 a7
      refine ⟨r, z1, hS.2.1, out, o1, _, s3, s4, s7, ?_⟩
      have s6 : okS (σ.map (valX ρ2)) out.1.toList r.toList := s6
      cases hro : out.1 with
      | none =>
        rw [hro] at s6
        cases r with
        | none => exact trivial
        | some v => exact s6.elim
      | some x =>
        rw [hro] at s6
        cases r with
        | none => exact s6.elim
        | some v => exact s6.1
    · cases h
  · refine Or.inl ?_
    obtain ⟨l, l1, l2⟩ := List.any_eq_true.mp h
    unfold toL at l2
    obtain ⟨l3, l2⟩ := and_inv l2
    have hA2 := knoR_ok (R := l.1.2.2.2.2.2) (know_ok (F := l.1.2.2.2.1) hS)
    generalize knoR P.1 l.1.2.2.2.2.2 (know P.1 l.1.2.2.2.1 b) = b2 at hA2 l2
    dsimp only at l2
    generalize sgO ρ0.length l.1 b2 0 l.1.2.2.2.2.1 = σ at l2
    obtain ⟨l4, l5⟩ := and_inv l2
    obtain ⟨a1, a2, ρ2, a3, a4, a5, a6, a7⟩ := hA2
    obtain ⟨s1, s2, s3, s4, s5, s6, s7, s8⟩ := sub_ok l4 a1 a2 a3 ⟨h00.trans a4.1, a4.2⟩ a5 a6 a7
    refine ⟨l, l1, _, s1, s2, s3, s4, s5, s6, s7, ?_⟩
    split at l5
    · rename_i m2 hm2
      obtain ⟨c1, c2⟩ := and_inv l5
      obtain ⟨c1, c4⟩ := and_inv c1
      obtain ⟨c2, c3⟩ := and_inv c2
      rw [← a3.1] at c1 c2
      rw [mv_sub s8 hm2 c1]
      obtain ⟨e0, e1, e2, e3⟩ := mv_pre a4.1 hm
      rw [← e0]
      exact lxL_ok a3 a4.2 (by rw [← a3.1]; exact c1) (by rw [← a3.1]; exact c2) c4 (by rw [e1, e2, e3]; exact hpos) c3
    · cases l5
theorem chkL_ok {P : aP} {W : aW} (hJ : pJ P) {d : Nat} {qc : aQ} (hQ : Qok P W d qc) {M : eM} {n0 : Nat} {Ls : List aL} {outs : List aU} {fuel : Nat} {l : aL} (h : chkL (p3 P) W qc M n0 Ls outs fuel l = true) : Obl P W d M n0 outs Ls l := by
  intro ρ0 hn h0 ρ S e1 hG hB hR hL hSt hF hK
  subst hn
  unfold chkL at h
  obtain ⟨c0, c1⟩ := and_inv h
  obtain ⟨c2, c3⟩ := and_inv c0
  have hm : scp3 ρ.length l.2 = true := by rw [hB.1]; exact c3
  have hpos : 0 ≤ valX ρ l.2.1 ∧ 0 ≤ valX ρ l.2.2.1 ∧ 0 ≤ valX ρ l.2.2.2 := by
    unfold pos3 at c2
    unfold scp3 at c3
    simp only [Bool.and_eq_true, iLe_ok] at c2
    obtain ⟨s1, s2⟩ := and_inv c3
    obtain ⟨s2, s3⟩ := and_inv s2
    have x1 := (xb_ok hB (scp_ok hB.1 s1)).1
    have x2 := (xb_ok hB (scp_ok hB.1 s2)).1
    have x3 := (xb_ok hB (scp_ok hB.1 s3)).1
    omega
  have hS : aM P.1 ρ l.1 S := ⟨e1, hG, ρ, hB, ⟨List.prefix_rfl, hR.2⟩, hL, hSt, hF⟩
  split at c1
  · exact ⟨S, Go.rf, hK, okLf_ok hm hpos hR.1 (h0 := h0) (W := W) (d := d) c1 hS⟩
  · split at c1
    · rename_i as has
      split at c1
      · rename_i bs hbs
        obtain ⟨S1, g1, a1, g2, g3, g4⟩ := stpF_ok hJ hQ has hS hK
        obtain ⟨x, g5, g6⟩ := lift_mem hbs a1 g2
        obtain ⟨S2, g7, b, g8, g9, g10, g11⟩ := explF_ok hJ hQ g5 g3 g4
        exact ⟨S2, Go.step g1 g7, g10, okLf_ok hm hpos hR.1 (h0 := h0) (W := W) (d := d) (List.all_eq_true.mp c1 b (g6 b g8)) g9⟩
      · cases c1
    · cases c1
