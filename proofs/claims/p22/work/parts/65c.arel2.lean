/-! THE CHECKER, 16c: branches with what is known; the greater and the less; three ways of lcmp -/
def dif2 (a b : eP) : eP := (a.1 - b.2, a.2 - b.1)
theorem dif2_ok {a b : eP} {x y : Int} (ha : bt2 a x) (hb : bt2 b y) : bt2 (dif2 a b) (x - y) := by
  have h1 := ha.1; have h2 := ha.2; have h3 := hb.1; have h4 := hb.2
  exact ⟨by show a.1 - b.2 ≤ x - y; omega, by show x - y ≤ a.2 - b.1; omega⟩
abbrev xs (i : Nat) : aX := .inr (0, 1, i)
theorem xs_ok {ρ : List Int} {i : Nat} {a : Int} (h : ρ[i]? = some a) : xv ρ (xs i) a := ⟨a, h, by omega⟩
def prop1 (q : aR) (B : List eP) : Option (List eP) := match q with
  | .inl (i, j, c) => (match rfn B (xs j) ((xb B (xs j)).1, (xb B (xs i)).2 - c) with
    | none => none
    | some B1 => rfn B1 (xs i) ((xb B1 (xs j)).1 + c, (xb B1 (xs i)).2))
  | .inr (.inl (t, x, y)) => (match rfn B (xs t) (sum2 (xb B x) (xb B y)) with
    | none => none
    | some B1 => (match rfn B1 x (dif2 (xb B1 (xs t)) (xb B1 y)) with
      | none => none
      | some B2 => rfn B2 y (dif2 (xb B2 (xs t)) (xb B2 x))))
  | _ => some B
theorem prop1_ok {ρ : List Int} {h : List cC} {q : aR} (hq : okR1 ρ h q) {B : List eP} (hB : okB ρ B) : ∃ B2 : List eP, prop1 q B = some B2 ∧ okB ρ B2 := by
  match q, hq with
  | .inl (i, j, c), ⟨a, b, h1, h2, h3⟩ =>
    have q1 := xb_ok hB (xs_ok h2)
    have q2 := xb_ok hB (xs_ok h1)
    have z1 := q1.1
    have z2 := q2.2
    obtain ⟨B1, e1, o1⟩ := rfn_ok hB (xs_ok h2) (b := ((xb B (xs j)).1, (xb B (xs i)).2 - c)) ⟨z1, by show b ≤ (xb B (xs i)).2 - c; omega⟩
    have q3 := xb_ok o1 (xs_ok h2)
    have q4 := xb_ok o1 (xs_ok h1)
    have z3 := q3.1
    have z4 := q4.2
    obtain ⟨B2, e2, o2⟩ := rfn_ok o1 (xs_ok h1) (b := ((xb B1 (xs j)).1 + c, (xb B1 (xs i)).2)) ⟨by show (xb B1 (xs j)).1 + c ≤ a; omega, z4⟩
    exact ⟨B2, by unfold prop1; dsimp only; rw [e1]; exact e2, o2⟩
  | .inr (.inl (t, x, y)), ⟨a, b, z, h1, h2, h3, h4⟩ =>
    obtain ⟨B1, e1, o1⟩ := rfn_ok hB (xs_ok h1) (b := sum2 (xb B x) (xb B y)) (by rw [h4]; exact sum2_ok (xb_ok hB h2) (xb_ok hB h3))
    obtain ⟨B2, e2, o2⟩ := rfn_ok o1 h2 (b := dif2 (xb B1 (xs t)) (xb B1 y)) (by have := dif2_ok (xb_ok o1 (xs_ok h1)) (xb_ok o1 h3); rw [show z - b = a by omega] at this; exact this)
    obtain ⟨B3, e3, o3⟩ := rfn_ok o2 h3 (b := dif2 (xb B2 (xs t)) (xb B2 x)) (by have := dif2_ok (xb_ok o2 (xs_ok h1)) (xb_ok o2 h2); rw [show z - a = b by omega] at this; exact this)
    exact ⟨B3, by unfold prop1; dsimp only; rw [e1]; dsimp only; rw [e2]; exact e3, o3⟩
  | .inr (.inr (.inl _)), _ => exact ⟨B, rfl, hB⟩
  | .inr (.inr (.inr _)), _ => exact ⟨B, rfl, hB⟩
def prop : List aR → List eP → Option (List eP)
  | [], B => some B
  | q :: R, B => match prop1 q B with
    | some B1 => prop R B1
    | none => none
theorem prop_ok {ρ : List Int} {h : List cC} : ∀ {R : List aR} {B : List eP}, (∀ q ∈ R, okR1 ρ h q) → okB ρ B → ∃ B2 : List eP, prop R B = some B2 ∧ okB ρ B2
  | [], B, _, hB => ⟨B, rfl, hB⟩
  | q :: R, B, hR, hB => by
    obtain ⟨B1, h1, h2⟩ := prop1_ok (hR q List.mem_cons_self) hB
    obtain ⟨B2, h3, h4⟩ := prop_ok (R := R) (fun q hq => hR q (List.mem_cons_of_mem _ hq)) h2
    exact ⟨B2, by unfold prop; rw [h1]; exact h3, h4⟩
/-- x + g is at most y -/
def upR (x y : aX) (g : Int) : List aR := match sym1 x, sym1 y with
  | some (c, i), some (d, j) => [.inl (j, i, c + g - d)]
  | _, _ => []
theorem upR_ok {ρ : List Int} {h : List cC} {x y : aX} {a b g : Int} (hx : xv ρ x a) (hy : xv ρ y b) (hg : a + g ≤ b) : ∀ q ∈ upR x y g, okR1 ρ h q := by
  intro q hq
  unfold upR at hq
  split at hq
  · rename_i c i d j h1 h2
    obtain ⟨r, r1, r2⟩ := sym1_ok hx h1
    obtain ⟨s, s1, s2⟩ := sym1_ok hy h2
    have e := List.mem_singleton.mp hq
    subst e
    exact ⟨s, r, s1, r1, by omega⟩
  · cases hq
def relOf (B : List eP) (R : List aR) (k : ClassFile.Cond) (x y : aX) : List aR := match k with
  | .eq => upR x y 0 ++ upR y x 0
  | .ne => (match iLe 0 (lbd B R y x) with
    | true => upR x y 1
    | false => (match iLe 0 (lbd B R x y) with
      | true => upR y x 1
      | false => []))
  | .lt => upR x y 1
  | .ge => upR y x 0
  | .gt => upR y x 1
  | .le => upR x y 0
theorem relOf_ok {ρ : List Int} {h : List cC} {B : List eP} {R : List aR} (hB : okB ρ B) (hR : ∀ q ∈ R, okR1 ρ h q) {k : ClassFile.Cond} {x y : aX} {a b : Int} (hx : xv ρ x a) (hy : xv ρ y b) (hk : relC k a b) : ∀ q ∈ relOf B R k x y, okR1 ρ h q := by
  cases k
  · have hk : a = b := hk
    intro q hq
    rcases List.mem_append.mp hq with hq | hq
    · exact upR_ok hx hy (by omega) q hq
    · exact upR_ok hy hx (by omega) q hq
  · have hk : a ≠ b := hk
    have l1 := lbd_ok hB hR hy hx
    have l2 := lbd_ok hB hR hx hy
    unfold relOf
    dsimp only
    split
    · rename_i h0
      rw [iLe_ok] at h0
      exact upR_ok hx hy (by omega)
    · split
      · rename_i h0
        rw [iLe_ok] at h0
        exact upR_ok hy hx (by omega)
      · intro q hq
        cases hq
  · have hk : a < b := hk
    exact upR_ok hx hy (by omega)
  · have hk : b ≤ a := hk
    exact upR_ok hy hx (by omega)
  · have hk : b < a := hk
    exact upR_ok hy hx (by omega)
  · have hk : a ≤ b := hk
    exact upR_ok hx hy (by omega)
/-- it cannot be so -/
def imp (B : List eP) (R : List aR) (k : ClassFile.Cond) (x y : aX) : Bool := match k with
  | .eq => iLe 1 (lbd B R x y) || iLe 1 (lbd B R y x)
  | .ne => iLe 0 (lbd B R x y) && iLe 0 (lbd B R y x)
  | .lt => iLe 0 (lbd B R x y)
  | .ge => iLe 1 (lbd B R y x)
  | .gt => iLe 0 (lbd B R y x)
  | .le => iLe 1 (lbd B R x y)
theorem imp_ok {ρ : List Int} {h : List cC} {B : List eP} {R : List aR} (hB : okB ρ B) (hR : ∀ q ∈ R, okR1 ρ h q) {k : ClassFile.Cond} {x y : aX} {a b : Int} (hx : xv ρ x a) (hy : xv ρ y b) (hk : relC k a b) : imp B R k x y = false := by
  have l1 := lbd_ok hB hR hy hx
  have l2 := lbd_ok hB hR hx hy
  cases hi : imp B R k x y with
  | false => rfl
  | true =>
    exfalso
    unfold imp at hi
    cases k
    · have hk : a = b := hk
      simp only [Bool.or_eq_true, iLe_ok] at hi
      omega
    · have hk : a ≠ b := hk
      simp only [Bool.and_eq_true, iLe_ok] at hi
      omega
    · have hk : a < b := hk
      simp only [iLe_ok] at hi
      omega
    · have hk : b ≤ a := hk
      simp only [iLe_ok] at hi
      omega
    · have hk : b < a := hk
      simp only [iLe_ok] at hi
      omega
    · have hk : a ≤ b := hk
      simp only [iLe_ok] at hi
      omega
def sideR (B : List eP) (R : List aR) (k : ClassFile.Cond) (x y : aX) : Option (List eP × List aR) := match imp B R k x y with
  | true => none
  | false => (match side B k x y with
    | none => none
    | some B1 => (match prop (relOf B R k x y ++ R) B1 with
      | none => none
      | some B2 => some (B2, relOf B R k x y ++ R)))
theorem sideR_ok {w ρ : List Int} {h : List cC} {B : List eP} {R : List aR} (hB : okB ρ B) (hR : okR w ρ h R) {k : ClassFile.Cond} {x y : aX} {a b : Int} (hx : xv ρ x a) (hy : xv ρ y b) (hk : relC k a b) : ∃ (B2 : List eP) (R2 : List aR), sideR B R k x y = some (B2, R2) ∧ okB ρ B2 ∧ okR w ρ h R2 := by
  obtain ⟨B1, h1, h2⟩ := side_ok hB hx hy hk
  have hR2 : ∀ q ∈ relOf B R k x y ++ R, okR1 ρ h q := fun q hq => by
    rcases List.mem_append.mp hq with hq | hq
    · exact relOf_ok hB hR.2 hx hy hk q hq
    · exact hR.2 q hq
  obtain ⟨B2, h3, h4⟩ := prop_ok hR2 h2
  exact ⟨B2, _, by unfold sideR; rw [imp_ok hB hR.2 hx hy hk]; dsimp only; rw [h1]; dsimp only; rw [h3], h4, hR.1, hR2⟩
def altR (o : Option (List eP × List aR)) (pc : Nat) (ls : List (Nat × aV)) (st : List aV) (F : List (Nat × Nat × aV)) : List aS := match o with
  | some (B, R) => [(pc, ls, st, F, B, R)]
  | none => []
def qIcR (k : ClassFile.Cond) (off : Int) (len : Nat) (a : aS) : Option (List aS) := match a with
  | (pc, ls, .inr (.inl y) :: .inr (.inl x) :: st, F, B, R) => (match tgtOf pc off, Nat.beq len 3 with
    | some t, true => some (altR (sideR B R k x y) t ls st F ++ altR (sideR B R (negC k) x y) (pc + 3) ls st F)
    | _, _ => none)
  | _ => none
theorem qIcR_ok {T : List tT} {w : List Int} {k : ClassFile.Cond} {off : Int} {len : Nat} {a : aS} {as : List aS} (h : qIcR k off len a = some as) : Snd T w a as (kIc k off len) := by
  intro S hS
  obtain ⟨Spc, Sls, Sst, Sh⟩ := S
  unfold qIcR at h
  split at h
  · rename_i pc ls y x st F B R
    split at h
    · rename_i t ht hl
      cases h
      obtain ⟨e1, hG, ρ, hB, hR, hL, hSt, hF⟩ := hS
      dsimp only at e1 hG hB hR hL hSt hF
      obtain ⟨v1, vs1, e2, ⟨y', e3, hy⟩, hS1⟩ := okS_cons hSt
      obtain ⟨v2, vs2, e4, ⟨x', e5, hx⟩, hS2⟩ := okS_cons hS1
      subst e1 e3 e5 e4 e2
      have hstep : kIc k off len Spc Sls (cI y' :: cI x' :: vs2) Sh = some ((match cDec k x' y' with
        | true => t
        | false => Spc + 3), Sls, vs2, Sh) := by
        unfold kIc
        dsimp only
        rw [ht]
        exact cNx_t hl
      refine ⟨_, hstep, ?_⟩
      cases hd : cDec k x' y' with
      | true =>
        obtain ⟨B2, R2, s1, s2, s3⟩ := sideR_ok hB hR hx hy (cDec_t hd)
        exact ⟨(t, ls, st, F, B2, R2), List.mem_append_left _ (by rw [s1]; exact List.mem_singleton.mpr rfl), rfl, hG, ρ, s2, s3, hL, hS2, hF⟩
      | false =>
        obtain ⟨B2, R2, s1, s2, s3⟩ := sideR_ok hB hR hx hy (cDec_f hd)
        exact ⟨(Spc + 3, ls, st, F, B2, R2), List.mem_append_right _ (by rw [s1]; exact List.mem_singleton.mpr rfl), rfl, hG, ρ, s2, s3, hL, hS2, hF⟩
    · cases h
  · cases h
def qIfR (k : ClassFile.Cond) (off : Int) (len : Nat) (a : aS) : Option (List aS) := match a with
  | (pc, ls, .inr (.inl x) :: st, F, B, R) => (match tgtOf pc off, Nat.beq len 3 with
    | some t, true => some (altR (sideR B R k x (.inl 0)) t ls st F ++ altR (sideR B R (negC k) x (.inl 0)) (pc + 3) ls st F)
    | _, _ => none)
  | _ => none
theorem qIfR_ok {T : List tT} {w : List Int} {k : ClassFile.Cond} {off : Int} {len : Nat} {a : aS} {as : List aS} (h : qIfR k off len a = some as) : Snd T w a as (kIf k off len) := by
  intro S hS
  obtain ⟨Spc, Sls, Sst, Sh⟩ := S
  unfold qIfR at h
  split at h
  · rename_i pc ls x st F B R
    split at h
    · rename_i t ht hl
      cases h
      obtain ⟨e1, hG, ρ, hB, hR, hL, hSt, hF⟩ := hS
      dsimp only at e1 hG hB hR hL hSt hF
      obtain ⟨v2, vs2, e4, ⟨x', e5, hx⟩, hS2⟩ := okS_cons hSt
      subst e1 e5 e4
      have hy : xv ρ (.inl 0) (0 : Int32).toInt := rfl
      have hstep : kIf k off len Spc Sls (cI x' :: vs2) Sh = some ((match cDec k x' 0 with
        | true => t
        | false => Spc + 3), Sls, vs2, Sh) := by
        unfold kIf
        dsimp only
        rw [ht]
        exact cNx_t hl
      refine ⟨_, hstep, ?_⟩
      cases hd : cDec k x' 0 with
      | true =>
        obtain ⟨B2, R2, s1, s2, s3⟩ := sideR_ok hB hR hx hy (cDec_t hd)
        exact ⟨(t, ls, st, F, B2, R2), List.mem_append_left _ (by rw [s1]; exact List.mem_singleton.mpr rfl), rfl, hG, ρ, s2, s3, hL, hS2, hF⟩
      | false =>
        obtain ⟨B2, R2, s1, s2, s3⟩ := sideR_ok hB hR hx hy (cDec_f hd)
        exact ⟨(Spc + 3, ls, st, F, B2, R2), List.mem_append_right _ (by rw [s1]; exact List.mem_singleton.mpr rfl), rfl, hG, ρ, s2, s3, hL, hS2, hF⟩
    · cases h
  · cases h
/-- one way of lcmp: how the two stand, and the bounds of the answer -/
def altC (o : Option (List eP × List aR)) (r : eP) (pc : Nat) (ls : List (Nat × aV)) (st : List aV) (F : List (Nat × Nat × aV)) : List aS := match o with
  | some (B, R) => [(pc, ls, aI (put B (.inr r)).1 :: st, F, (put B (.inr r)).2, R)]
  | none => []
def ways (k : Option ClassFile.Cond) : List (ClassFile.Cond × eP) := match k with
  | some .lt => [(.lt, (-1, -1)), (.ge, (0, 1))]
  | some .ge => [(.lt, (-1, -1)), (.ge, (0, 1))]
  | some .gt => [(.gt, (1, 1)), (.le, (-1, 0))]
  | some .le => [(.gt, (1, 1)), (.le, (-1, 0))]
  | _ => [(.lt, (-1, -1)), (.eq, (0, 0)), (.gt, (1, 1))]
def qCmpR (k : Option ClassFile.Cond) (len : Nat) (a : aS) : Option (List aS) := match a with
  | (pc, ls, .inr (.inr (.inl y)) :: .inr (.inr (.inl x)) :: st, F, B, R) => (match Nat.beq len 1 with
    | true => some ((ways k).flatMap (fun q => altC (sideR B R q.1 x y) q.2 (pc + 1) ls st F))
    | false => none)
  | _ => none
theorem ways_ok (k : Option ClassFile.Cond) (x y : Int) : ∃ q ∈ ways k, relC q.1 x y ∧ bt2 q.2 (if y < x then 1 else if x = y then 0 else -1) := by
  have two1 : ∃ q ∈ [((.lt, (-1, -1)) : ClassFile.Cond × eP), (.ge, (0, 1))], relC q.1 x y ∧ bt2 q.2 (if y < x then 1 else if x = y then 0 else -1) := by
    by_cases h : x < y
    · refine ⟨_, List.mem_cons_self, h, ?_⟩
      rw [if_neg (by omega), if_neg (by omega)]
      exact ⟨by show (-1 : Int) ≤ -1; omega, by show (-1 : Int) ≤ -1; omega⟩
    · refine ⟨_, List.mem_cons_of_mem _ List.mem_cons_self, by show y ≤ x; omega, ?_⟩
      by_cases h2 : y < x
      · rw [if_pos h2]
        exact ⟨by show (0 : Int) ≤ 1; omega, by show (1 : Int) ≤ 1; omega⟩
      · rw [if_neg h2, if_pos (by omega)]
        exact ⟨by show (0 : Int) ≤ 0; omega, by show (0 : Int) ≤ 1; omega⟩
  have two2 : ∃ q ∈ [((.gt, (1, 1)) : ClassFile.Cond × eP), (.le, (-1, 0))], relC q.1 x y ∧ bt2 q.2 (if y < x then 1 else if x = y then 0 else -1) := by
    by_cases h : y < x
    · refine ⟨_, List.mem_cons_self, h, ?_⟩
      rw [if_pos h]
      exact ⟨by show (1 : Int) ≤ 1; omega, by show (1 : Int) ≤ 1; omega⟩
    · refine ⟨_, List.mem_cons_of_mem _ List.mem_cons_self, by show x ≤ y; omega, ?_⟩
      rw [if_neg h]
      by_cases h2 : x = y
      · rw [if_pos h2]
        exact ⟨by show (-1 : Int) ≤ 0; omega, by show (0 : Int) ≤ 0; omega⟩
      · rw [if_neg h2]
        exact ⟨by show (-1 : Int) ≤ -1; omega, by show (-1 : Int) ≤ 0; omega⟩
  have thr : ∃ q ∈ [((.lt, (-1, -1)) : ClassFile.Cond × eP), (.eq, (0, 0)), (.gt, (1, 1))], relC q.1 x y ∧ bt2 q.2 (if y < x then 1 else if x = y then 0 else -1) := by
    by_cases h : x < y
    · refine ⟨_, List.mem_cons_self, h, ?_⟩
      rw [if_neg (by omega), if_neg (by omega)]
      exact ⟨by show (-1 : Int) ≤ -1; omega, by show (-1 : Int) ≤ -1; omega⟩
    · by_cases h2 : y < x
      · refine ⟨_, List.mem_cons_of_mem _ (List.mem_cons_of_mem _ List.mem_cons_self), h2, ?_⟩
        rw [if_pos h2]
        exact ⟨by show (1 : Int) ≤ 1; omega, by show (1 : Int) ≤ 1; omega⟩
      · refine ⟨_, List.mem_cons_of_mem _ List.mem_cons_self, by show x = y; omega, ?_⟩
        rw [if_neg h2, if_pos (by omega)]
        exact ⟨by show (0 : Int) ≤ 0; omega, by show (0 : Int) ≤ 0; omega⟩
  match k with
  | some .lt => exact two1
  | some .ge => exact two1
  | some .gt => exact two2
  | some .le => exact two2
  | some .eq => exact thr
  | some .ne => exact thr
  | none => exact thr
theorem lg_cmp_int (x y : Int64) : (lg_cmp x y).toInt = if y.toInt < x.toInt then 1 else if x.toInt = y.toInt then 0 else -1 := by
  unfold lg_cmp
  simp only [gt_iff_lt, Int64.lt_iff_toInt_lt, ← Int64.toInt_inj]
  repeat' split
  all_goals rfl
theorem qCmpR_ok {T : List tT} {w : List Int} {k : Option ClassFile.Cond} {len : Nat} {a : aS} {as : List aS} (h : qCmpR k len a = some as) : Snd T w a as (kCmp (fun _ => true) (fun x y => lg_cmp x y) len) := by
  intro S hS
  obtain ⟨Spc, Sls, Sst, Sh⟩ := S
  unfold qCmpR at h
  split at h
  · rename_i pc ls y x st F B R
    split at h
    · rename_i hl
      cases h
      obtain ⟨e1, hG, ρ, hB, hR, hL, hSt, hF⟩ := hS
      dsimp only at e1 hG hB hR hL hSt hF
      obtain ⟨v1, vs1, e2, ⟨y', e3, hy⟩, hS1⟩ := okS_cons hSt
      obtain ⟨v2, vs2, e4, ⟨x', e5, hx⟩, hS2⟩ := okS_cons hS1
      subst e1 e3 e5 e4 e2
      obtain ⟨q, q1, q2, q3⟩ := ways_ok k x'.toInt y'.toInt
      rw [← lg_cmp_int] at q3
      obtain ⟨B2, R2, s1, s2, s3⟩ := sideR_ok hB hR hx hy q2
      have hr : rv ρ (.inr q.2) (lg_cmp x' y').toInt := q3
      obtain ⟨ρ', p1, p2, p3⟩ := put_ok s2 hr
      refine ⟨(Spc + 1, Sls, cI (lg_cmp x' y') :: vs2, Sh), cNx_t (by rw [hl]; rfl), (Spc + 1, ls, aI (put B2 (.inr q.2)).1 :: st, F, (put B2 (.inr q.2)).2, R2), List.mem_flatMap.mpr ⟨q, q1, by rw [s1]; exact List.mem_singleton.mpr rfl⟩, rfl, hG, ρ', p2, okR_mono p1 s3, okL_mono p1 hL, ⟨⟨_, rfl, p3⟩, okS_mono p1 hS2⟩, okF_mono p1 hF⟩
    · cases h
  · cases h
/-- the greater and the less -/
def qMathR (g : List eP → List aR → aX → aX → aX ⊕ eP) (rel : aX → aX → Nat → List aR) (len : Nat) (a : aS) : Option (List aS) := match a with
  | (pc, ls, .inr (.inl y) :: .inr (.inl x) :: st, F, B, R) => aNx (Nat.beq len 3 && Nat.ble (acat st) 8) (match putR B R (g B R x y) (rel x y) with
    | (e, B2, R2) => (pc + 3, ls, aI e :: st, F, B2, R2))
  | _ => none
theorem qMathR_ok {T : List tT} {w : List Int} {g : List eP → List aR → aX → aX → aX ⊕ eP} {rel : aX → aX → Nat → List aR} {f : Int32 → Int32 → Int32} (hg : ∀ (ρ : List Int) (h : List cC) (B : List eP) (R : List aR) (a b : aX) (x y : Int32), okB ρ B → (∀ q ∈ R, okR1 ρ h q) → xv ρ a x.toInt → xv ρ b y.toInt → rv ρ (g B R a b) (f x y).toInt) (hl : ∀ (ρ ρ' : List Int) (h : List cC) (a b : aX) (x y : Int32) (t : Nat), xv ρ a x.toInt → xv ρ b y.toInt → ρ <+: ρ' → ρ'[t]? = some (f x y).toInt → ∀ q ∈ rel a b t, okR1 ρ' h q) {len : Nat} {a : aS} {as : List aS} (h : qMathR g rel len a = some as) : Snd T w a as (kMath f len) := by
  intro S hS
  obtain ⟨Spc, Sls, Sst, Sh⟩ := S
  unfold qMathR at h
  split at h
  · rename_i pc ls y x st F B R
    obtain ⟨g0, rfl⟩ := aNx_inv h
    obtain ⟨g1, g2⟩ := and_inv g0
    obtain ⟨e1, hG, ρ, hB, hR, hL, hSt, hF⟩ := hS
    dsimp only at e1 hG hB hR hL hSt hF
    obtain ⟨v1, vs1, e2, ⟨y', e3, hy⟩, hS1⟩ := okS_cons hSt
    obtain ⟨v2, vs2, e4, ⟨x', e5, hx⟩, hS2⟩ := okS_cons hS1
    subst e1 e3 e5 e4 e2
    obtain ⟨ρ', p1, p2, p4, p3⟩ := putR_ok hB hR (rel := rel x y) (hg ρ Sh B R x y x' y' hB hR.2 hx hy) (fun ρ' hp ht => hl ρ ρ' Sh x y x' y' _ hx hy hp ht)
    refine ⟨(Spc + 3, Sls, cI (f x' y') :: vs2, Sh), ?_, _, List.mem_singleton.mpr rfl, rfl, hG, ρ', p2, p4, okL_mono p1 hL, ⟨⟨_, rfl, p3⟩, okS_mono p1 hS2⟩, okF_mono p1 hF⟩
    show cNx (Nat.beq len 3 && Nat.ble (catC vs2) 8) _ = _
    exact cNx_t (by rw [acat_ok hS2]; exact g0)
  · cases h
def gMax (B : List eP) (R : List aR) (x y : aX) : aX ⊕ eP := match iLe 0 (lbd B R x y) with
  | true => .inl x
  | false => (match iLe 0 (lbd B R y x) with
    | true => .inl y
    | false => .inr (zMax (xb B x).1 (xb B y).1, zMax (xb B x).2 (xb B y).2))
def gMin (B : List eP) (R : List aR) (x y : aX) : aX ⊕ eP := match iLe 0 (lbd B R x y) with
  | true => .inl y
  | false => (match iLe 0 (lbd B R y x) with
    | true => .inl x
    | false => .inr (zMin (xb B x).1 (xb B y).1, zMin (xb B x).2 (xb B y).2))
theorem mx_int (x y : Int32) : (if x < y then y else x : Int32).toInt = if x.toInt < y.toInt then y.toInt else x.toInt := by
  simp only [Int32.lt_iff_toInt_lt]
  split <;> rfl
theorem mn_int (x y : Int32) : (if y < x then y else x : Int32).toInt = if y.toInt < x.toInt then y.toInt else x.toInt := by
  simp only [Int32.lt_iff_toInt_lt]
  split <;> rfl
theorem sn_maxR {T : List tT} {w : List Int} {len : Nat} {a : aS} {as : List aS} (h : qMathR gMax (fun x y t => geR x t ++ geR y t) len a = some as) : Snd T w a as (kMath (fun x y => if x < y then y else x) len) := by
  refine qMathR_ok (f := fun x y => if x < y then y else x) (fun ρ h B R a b x y hB hR ha hb => ?_) (fun ρ ρ' h a b x y t ha hb hp ht q hq => ?_) h
  · have l1 := lbd_ok hB hR ha hb
    have l2 := lbd_ok hB hR hb ha
    rw [mx_int]
    unfold gMax
    split
    · rename_i h0
      rw [iLe_ok] at h0
      rw [if_neg (by omega)]
      exact ha
    · split
      · rename_i h0
        rw [iLe_ok] at h0
        show xv ρ b _
        split
        · exact hb
        · rw [show x.toInt = y.toInt by omega]; exact hb
      · have a0 := xb_ok hB ha
        have b0 := xb_ok hB hb
        have a1 := a0.1; have a2 := a0.2; have b1 := b0.1; have b2 := b0.2
        have m1 := zMax_ok (xb B a).1 (xb B b).1
        have m2 := zMax_ok (xb B a).2 (xb B b).2
        show bt2 _ _
        split
        · exact ⟨by show zMax _ _ ≤ _; omega, by show _ ≤ zMax _ _; omega⟩
        · exact ⟨by show zMax _ _ ≤ _; omega, by show _ ≤ zMax _ _; omega⟩
  · rw [mx_int] at ht
    rcases List.mem_append.mp hq with hq | hq
    · exact geR_ok ha hp ht (by split <;> omega) q hq
    · exact geR_ok hb hp ht (by split <;> omega) q hq
theorem sn_minR {T : List tT} {w : List Int} {len : Nat} {a : aS} {as : List aS} (h : qMathR gMin (fun x y t => leR x t ++ leR y t) len a = some as) : Snd T w a as (kMath (fun x y => if y < x then y else x) len) := by
  refine qMathR_ok (f := fun x y => if y < x then y else x) (fun ρ h B R a b x y hB hR ha hb => ?_) (fun ρ ρ' h a b x y t ha hb hp ht q hq => ?_) h
  · have l1 := lbd_ok hB hR ha hb
    have l2 := lbd_ok hB hR hb ha
    rw [mn_int]
    unfold gMin
    split
    · rename_i h0
      rw [iLe_ok] at h0
      show xv ρ b _
      split
      · exact hb
      · rw [show x.toInt = y.toInt by omega]; exact hb
    · split
      · rename_i h0
        rw [iLe_ok] at h0
        rw [if_neg (by omega)]
        exact ha
      · have a0 := xb_ok hB ha
        have b0 := xb_ok hB hb
        have a1 := a0.1; have a2 := a0.2; have b1 := b0.1; have b2 := b0.2
        have m1 := zMin_ok (xb B a).1 (xb B b).1
        have m2 := zMin_ok (xb B a).2 (xb B b).2
        show bt2 _ _
        split
        · exact ⟨by show zMin _ _ ≤ _; omega, by show _ ≤ zMin _ _; omega⟩
        · exact ⟨by show zMin _ _ ≤ _; omega, by show _ ≤ zMin _ _; omega⟩
  · rw [mn_int] at ht
    rcases List.mem_append.mp hq with hq | hq
    · exact leR_ok ha hp ht (by split <;> omega) q hq
    · exact leR_ok hb hp ht (by split <;> omega) q hq
