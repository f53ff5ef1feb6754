/-! THE CHECKER, 24: one state of the checker within another -/
def valX (ρ : List Int) (e : aX) : Int := match e with
  | .inl c => c
  | .inr (c, k, i) => c + k * ρ.getD i 0
theorem valX_ok {ρ : List Int} {e : aX} {z : Int} (h : xv ρ e z) : z = valX ρ e := by
  match e, h with
  | .inl c, h => exact h
  | .inr (c, k, i), ⟨r, h1, h2⟩ =>
    unfold valX
    dsimp only
    rw [List.getD_eq_getElem?_getD, h1]
    exact h2
def scp (n : Nat) (e : aX) : Bool := match e with
  | .inl _ => true
  | .inr (_, _, i) => Nat.ble (i + 1) n
theorem scp_ok {ρ : List Int} {n : Nat} (hn : ρ.length = n) {e : aX} (h : scp n e = true) : xv ρ e (valX ρ e) := by
  match e, h with
  | .inl c, h => exact rfl
  | .inr (c, k, i), h =>
    have h : i + 1 ≤ n := Nat.le_of_ble_eq_true h
    have hi : ρ[i]? = some ρ[i] := List.getElem?_eq_getElem (by omega)
    refine ⟨ρ[i], hi, ?_⟩
    unfold valX
    dsimp only
    rw [List.getD_eq_getElem?_getD, hi]
    rfl
theorem valX_mono {ρ ρ' : List Int} (hp : ρ <+: ρ') {n : Nat} (hn : ρ.length = n) {e : aX} (h : scp n e = true) : valX ρ' e = valX ρ e := (valX_ok (xv_mono hp (scp_ok hn h))).symm
def xsub (σ : List aX) (e : aX) : Option aX := match e with
  | .inl c => some (.inl c)
  | .inr (c, k, i) => match σ[i]? with
    | some (.inl d) => some (.inl (c + k * d))
    | some (.inr (d, k2, j)) => some (.inr (c + k * d, k * k2, j))
    | none => none
/-- ρA is what σ says of the symbols, by ρ -/
def sg (ρ : List Int) (σ : List aX) (ρA : List Int) : Prop := ∀ (i : Nat) (e : aX), σ[i]? = some e → ∃ r : Int, ρA[i]? = some r ∧ xv ρ e r
theorem xsub_up {ρ ρA : List Int} {σ : List aX} (hs : sg ρ σ ρA) {e e2 : aX} (h : xsub σ e = some e2) {z : Int} (hz : xv ρ e2 z) : xv ρA e z := by
  match e, h with
  | .inl c, h => cases h; exact hz
  | .inr (c, k, i), h =>
    unfold xsub at h
    dsimp only at h
    split at h
    · rename_i d hd
      cases h
      obtain ⟨r, r1, r2⟩ := hs i _ hd
      have r2 : r = d := r2
      have hz : z = c + k * d := hz
      exact ⟨r, r1, by rw [hz, r2]⟩
    · rename_i d k2 j hd
      cases h
      obtain ⟨r, r1, s, s1, s2⟩ := hs i _ hd
      obtain ⟨s', s1', s2'⟩ := hz
      rw [s1] at s1'
      cases s1'
      refine ⟨r, r1, ?_⟩
      rw [s2', s2, Int.mul_add, Int.mul_assoc]
      omega
    · cases h
theorem xsub_dn {ρ ρA : List Int} {σ : List aX} (hs : sg ρ σ ρA) {e e2 : aX} (h : xsub σ e = some e2) {z : Int} (hz : xv ρA e z) : xv ρ e2 z := by
  match e, h with
  | .inl c, h => cases h; exact hz
  | .inr (c, k, i), h =>
    unfold xsub at h
    dsimp only at h
    obtain ⟨r', q1, q2⟩ := hz
    split at h
    · rename_i d hd
      cases h
      obtain ⟨r, r1, r2⟩ := hs i _ hd
      have r2 : r = d := r2
      rw [q1] at r1
      cases r1
      show z = c + k * d
      rw [q2, r2]
    · rename_i d k2 j hd
      cases h
      obtain ⟨r, r1, s, s1, s2⟩ := hs i _ hd
      rw [q1] at r1
      cases r1
      refine ⟨s, s1, ?_⟩
      rw [q2, s2, Int.mul_add, Int.mul_assoc]
      omega
    · cases h
def vle (σ : List aX) (p v : aV) : Bool := match p, v with
  | .inl ks, .inl js => js.all (fun j => ks.any (Nat.beq j))
  | .inr (.inl e), .inr (.inl e2) => (match xsub σ e with
    | some e3 => xEq e3 e2
    | none => false)
  | .inr (.inr (.inl e)), .inr (.inr (.inl e2)) => (match xsub σ e with
    | some e3 => xEq e3 e2
    | none => false)
  | .inr (.inr (.inr n)), .inr (.inr (.inr m)) => Nat.beq n m
  | _, _ => false
theorem vle_ok {ρ ρA : List Int} {σ : List aX} (hs : sg ρ σ ρA) {p v : aV} (h : vle σ p v = true) {u : cV} (hu : vV ρ v u) : vV ρA p u := by
  unfold vle at h
  split at h
  · obtain ⟨k, h1, h2⟩ := hu
    have h3 := List.all_eq_true.mp h k h1
    obtain ⟨j, h4, h5⟩ := List.any_eq_true.mp h3
    exact ⟨k, by rw [nbeq_t h5]; exact h4, h2⟩
  · obtain ⟨x, h1, h2⟩ := hu
    split at h
    · rename_i e3 he
      have := xEq_ok h
      subst this
      exact ⟨x, h1, xsub_up hs he h2⟩
    · cases h
  · obtain ⟨x, h1, h2⟩ := hu
    split at h
    · rename_i e3 he
      have := xEq_ok h
      subst this
      exact ⟨x, h1, xsub_up hs he h2⟩
    · cases h
  · have e := nbeq_t h
    subst e
    exact hu
  · cases h
def stk (σ : List aX) : List aV → List aV → Bool
  | [], [] => true
  | p :: ps, v :: vs => vle σ p v && stk σ ps vs
  | _, _ => false
theorem stk_ok {ρ ρA : List Int} {σ : List aX} (hs : sg ρ σ ρA) : ∀ {ps vs : List aV} {us : List cV}, stk σ ps vs = true → okS ρ vs us → okS ρA ps us
  | [], [], [], _, _ => trivial
  | p :: ps, v :: vs, u :: us, h, g => by
    unfold stk at h
    obtain ⟨h1, h2⟩ := and_inv h
    exact ⟨vle_ok hs h1 g.1, stk_ok hs h2 g.2⟩
  | [], [], _ :: _, _, g => g.elim
  | _ :: _, _ :: _, [], _, g => g.elim
  | [], _ :: _, _, h, _ => by cases h
  | _ :: _, [], _, h, _ => by cases h
def bnd (B : List eP) : List aX → List eP → Bool
  | [], [] => true
  | e :: σ, b :: bs => (iLe b.1 (xb B e).1 && iLe (xb B e).2 b.2) && bnd B σ bs
  | _, _ => false
theorem bnd_ok {ρ : List Int} {B : List eP} (hB : okB ρ B) {n : Nat} (hn : ρ.length = n) : ∀ {σ : List aX} {bs : List eP}, bnd B σ bs = true → σ.all (scp n) = true → okB (σ.map (valX ρ)) bs
  | [], [], _, _ => ⟨rfl, fun i b h => by cases h⟩
  | e :: σ, b :: bs, h, hs => by
    unfold bnd at h
    obtain ⟨h1, h2⟩ := and_inv h
    simp only [Bool.and_eq_true, iLe_ok] at h1
    have hs' := List.all_eq_true.mp hs
    have ih := bnd_ok hB hn (σ := σ) (bs := bs) h2 (List.all_eq_true.mpr fun x hx => hs' x (List.mem_cons_of_mem _ hx))
    refine ⟨by rw [List.map_cons, List.length_cons, List.length_cons, ih.1], fun i b' hi => ?_⟩
    cases i with
    | zero =>
      cases hi
      have hx := xb_ok hB (scp_ok hn (hs' e List.mem_cons_self))
      have x1 := hx.1
      have x2 := hx.2
      exact ⟨valX ρ e, rfl, by omega, by omega⟩
    | succ i => exact ih.2 i b' hi
  | [], _ :: _, h, _ => by cases h
  | _ :: _, [], h, _ => by cases h
theorem sg_map {ρ : List Int} {n : Nat} (hn : ρ.length = n) {σ : List aX} (hs : σ.all (scp n) = true) : sg ρ σ (σ.map (valX ρ)) := fun i e hi => by
  refine ⟨valX ρ e, ?_, scp_ok hn (List.all_eq_true.mp hs e (List.mem_of_getElem? hi))⟩
  rw [List.getElem?_map, hi]
  rfl
/-- a row's places below: said by the leaf -/
def preL (B : List eP) (R0 : List aR) (k : Nat) (u : Int) (e : aX) : List aR → Bool
  | [] => false
  | .inr (.inr (.inr (a, v, n))) :: R => (Nat.beq a k && (iLe v u && iLe 0 (lbd B R0 n e))) || preL B R0 k u e R
  | _ :: R => preL B R0 k u e R
theorem preL_ok {ρ : List Int} {h : List cC} {B : List eP} {R0 : List aR} (hB : okB ρ B) (hR0 : ∀ q ∈ R0, okR1 ρ h q) {k : Nat} {u : Int} {e : aX} {z : Int} (he : xv ρ e z) : ∀ {R : List aR}, (∀ q ∈ R, okR1 ρ h q) → preL B R0 k u e R = true → ∃ (kd n : Nat) (f : Nat → Int32), h[k]? = some (.inr (.inl (kd, n, f))) ∧ ∀ j : Nat, (j : Int) < z → bt2 (0, u) (f j).toInt
  | [], _, hp => by cases hp
  | .inr (.inr (.inr (a, v, n))) :: R, hR, hp => by
    unfold preL at hp
    rw [Bool.or_eq_true] at hp
    rcases hp with hp | hp
    · obtain ⟨h1, h2⟩ := and_inv hp
      obtain ⟨h2, h3⟩ := and_inv h2
      have e1 := nbeq_t h1
      subst e1
      rw [iLe_ok] at h2 h3
      obtain ⟨kd, m, f, y, z1, z2, z3⟩ := hR _ List.mem_cons_self
      have l := lbd_ok hB hR0 z2 he
      refine ⟨kd, m, f, z1, fun j hj => ?_⟩
      have := z3 j (by omega)
      have t1 := this.1
      have t2 := this.2
      exact ⟨t1, by show _ ≤ u; dsimp only at t2; omega⟩
    · exact preL_ok hB hR0 he (R := R) (fun q hq => hR q (List.mem_cons_of_mem _ hq)) hp
  | .inl q :: R, hR, hp => preL_ok hB hR0 he (R := R) (fun q hq => hR q (List.mem_cons_of_mem _ hq)) (by unfold preL at hp; exact hp)
  | .inr (.inl q) :: R, hR, hp => preL_ok hB hR0 he (R := R) (fun q hq => hR q (List.mem_cons_of_mem _ hq)) (by unfold preL at hp; exact hp)
  | .inr (.inr (.inl q)) :: R, hR, hp => preL_ok hB hR0 he (R := R) (fun q hq => hR q (List.mem_cons_of_mem _ hq)) (by unfold preL at hp; exact hp)
def rle (σ : List aX) (B : List eP) (R : List aR) (q : aR) : Bool := match q with
  | .inl (i, j, c) => (match σ[i]?, σ[j]? with
    | some a, some b => iLe c (lbd B R a b)
    | _, _ => false)
  | .inr (.inl _) => false
  | .inr (.inr (.inl (k, i, e))) => (match elm R k i, xsub σ e with
    | some v, some e2 => xEq e2 v
    | _, _ => false)
  | .inr (.inr (.inr (k, u, e))) => (match xsub σ e with
    | some e2 => scp B.length e2 && preL B R k u e2 R
    | none => false)
theorem elm_row {ρ : List Int} {h : List cC} {k i : Nat} : ∀ {R : List aR} {e : aX}, (∀ q ∈ R, okR1 ρ h q) → elm R k i = some e → ∃ (kd n : Nat) (f : Nat → Int32), h[k]? = some (.inr (.inl (kd, n, f))) ∧ xv ρ e (f i).toInt
  | [], e, _, hm => by cases hm
  | .inr (.inr (.inl (a, b, e0))) :: R, e, hR, hm => by
    unfold elm at hm
    split at hm
    · rename_i hc
      cases hm
      obtain ⟨h1, h2⟩ := and_inv hc
      have e1 := nbeq_t h1
      have e2 := nbeq_t h2
      subst e1 e2
      exact hR _ List.mem_cons_self
    · exact elm_row (R := R) (fun q hq => hR q (List.mem_cons_of_mem _ hq)) hm
  | .inl q :: R, e, hR, hm => elm_row (R := R) (fun q hq => hR q (List.mem_cons_of_mem _ hq)) (by unfold elm at hm; exact hm)
  | .inr (.inl q) :: R, e, hR, hm => elm_row (R := R) (fun q hq => hR q (List.mem_cons_of_mem _ hq)) (by unfold elm at hm; exact hm)
  | .inr (.inr (.inr q)) :: R, e, hR, hm => elm_row (R := R) (fun q hq => hR q (List.mem_cons_of_mem _ hq)) (by unfold elm at hm; exact hm)
theorem rle_ok {ρ ρA : List Int} {h : List cC} {B : List eP} {R : List aR} (hB : okB ρ B) (hR : ∀ q ∈ R, okR1 ρ h q) {σ : List aX} (hs : sg ρ σ ρA) {q : aR} (hq : rle σ B R q = true) : okR1 ρA h q := by
  match q, hq with
  | .inl (i, j, c), hq =>
    unfold rle at hq
    dsimp only at hq
    split at hq
    · rename_i a b ha hb
      rw [iLe_ok] at hq
      obtain ⟨x, x1, x2⟩ := hs i a ha
      obtain ⟨y, y1, y2⟩ := hs j b hb
      have := lbd_ok hB hR x2 y2
      exact ⟨x, y, x1, y1, by omega⟩
    · cases hq
  | .inr (.inr (.inl (k, i, e))), hq =>
    unfold rle at hq
    dsimp only at hq
    split at hq
    · rename_i v e2 hv he
      have := xEq_ok hq
      subst this
      obtain ⟨kd, n, f, z1, z2⟩ := elm_row hR hv
      exact ⟨kd, n, f, z1, xsub_up hs he z2⟩
    · cases hq
  | .inr (.inr (.inr (k, u, e))), hq =>
    unfold rle at hq
    dsimp only at hq
    split at hq
    · rename_i e2 he
      obtain ⟨c1, c2⟩ := and_inv hq
      have hv := scp_ok hB.1 c1
      obtain ⟨kd, n, f, z1, z2⟩ := preL_ok hB hR hv hR c2
      exact ⟨kd, n, f, _, z1, xsub_up hs he hv, z2⟩
    · cases hq
def preS : Nat → Nat → List aX → Bool
  | _, 0, _ => true
  | i, n + 1, e :: σ => xEq e (xs i) && preS (i + 1) n σ
  | _, _ + 1, [] => false
theorem preS_at : ∀ {n i : Nat} {σ : List aX}, preS i n σ = true → ∀ j : Nat, j < n → σ[j]? = some (xs (i + j))
  | 0, i, σ, h, j, hj => by omega
  | n + 1, i, [], h, j, hj => by cases h
  | n + 1, i, e :: σ, h, j, hj => by
    unfold preS at h
    obtain ⟨h1, h2⟩ := and_inv h
    cases j with
    | zero => rw [xEq_ok h1]; rfl
    | succ j =>
      have := preS_at h2 j (by omega)
      rw [show i + (j + 1) = i + 1 + j by omega]
      exact this
theorem preS_ok {ρ0 ρ : List Int} (hp : ρ0 <+: ρ) {σ : List aX} (h : preS 0 ρ0.length σ = true) : ρ0 <+: σ.map (valX ρ) := by
  rw [List.prefix_iff_getElem?]
  intro i hi
  have h1 := preS_at h i hi
  rw [List.getElem?_map, h1, Nat.zero_add]
  have h2 : ρ0[i]? = some ρ0[i] := List.getElem?_eq_getElem hi
  have h3 := at_mono hp h2
  show some (valX ρ (xs i)) = some ρ0[i]
  rw [← valX_ok (xs_ok h3)]
def sub (σ : List aX) (n0 : Nat) (A b : aS) : Bool := match A, b with
  | (Apc, Als, Ast, AF, AB, AR), (bpc, bls, bst, bF, bB, bR) => Nat.beq Apc bpc && (preS 0 n0 σ && (σ.all (scp bB.length) && (bnd bB σ AB && (Als.all (fun q => match alk bls q.1 with
    | some v => vle σ q.2 v
    | none => false) && (stk σ Ast bst && (AF.all (fun q => match flk bF q.1 q.2.1 with
      | some v => vle σ q.2.2 v
      | none => false) && AR.all (rle σ bB bR)))))))
theorem sub_ok {T : List tT} {ρ0 ρ : List Int} {σ : List aX} {A b : aS} (h : sub σ ρ0.length A b = true) {S : cS} (e1 : S.1 = b.1) (hG : HG T [] S.2.2.2) (hB : okB ρ b.2.2.2.2.1) (hR : okR ρ0 ρ S.2.2.2 b.2.2.2.2.2) (hL : okL ρ b.2.1 S.2.1) (hSt : okS ρ b.2.2.1 S.2.2.1) (hF : okF ρ b.2.2.2.1 S.2.2.2) : S.1 = A.1 ∧ HG T [] S.2.2.2 ∧ okB (σ.map (valX ρ)) A.2.2.2.2.1 ∧ okR ρ0 (σ.map (valX ρ)) S.2.2.2 A.2.2.2.2.2 ∧ okL (σ.map (valX ρ)) A.2.1 S.2.1 ∧ okS (σ.map (valX ρ)) A.2.2.1 S.2.2.1 ∧ okF (σ.map (valX ρ)) A.2.2.2.1 S.2.2.2 ∧ σ.all (scp ρ.length) = true := by
  obtain ⟨Apc, Als, Ast, AF, AB, AR⟩ := A
  obtain ⟨bpc, bls, bst, bF, bB, bR⟩ := b
  unfold sub at h
  dsimp only at h e1 hB hR hL hSt hF ⊢
  obtain ⟨h1, h⟩ := and_inv h
  obtain ⟨h2, h⟩ := and_inv h
  obtain ⟨h3, h⟩ := and_inv h
  obtain ⟨h4, h⟩ := and_inv h
  obtain ⟨h5, h⟩ := and_inv h
  obtain ⟨h6, h⟩ := and_inv h
  obtain ⟨h7, h8⟩ := and_inv h
  have hs := sg_map hB.1 h3
  refine ⟨by rw [e1]; exact (nbeq_t h1).symm, hG, bnd_ok hB hB.1 h4 h3, ⟨preS_ok hR.1 h2, fun q hq => rle_ok hB hR.2 hs (List.all_eq_true.mp h8 q hq)⟩, fun q hq => ?_, stk_ok hs h6 hSt, fun q hq => ?_, by rw [hB.1]; exact h3⟩
  · have h9 := List.all_eq_true.mp h5 q hq
    split at h9
    · rename_i v hv
      obtain ⟨u, u1, u2⟩ := hL _ (alk_mem hv)
      exact ⟨u, u1, vle_ok hs h9 u2⟩
    · cases h9
  · have h9 := List.all_eq_true.mp h7 q hq
    split at h9
    · rename_i v hv
      obtain ⟨ci, vs, u, u1, u2, u3⟩ := hF _ (flk_mem hv)
      exact ⟨ci, vs, u, u1, u2, vle_ok hs h9 u3⟩
    · cases h9
