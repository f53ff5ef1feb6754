/-! THE CHECKER, 14: branches: both sides, with bounds drawn closer -/
def relC (k : ClassFile.Cond) (a b : Int) : Prop := match k with
  | .eq => a = b
  | .ne => a ≠ b
  | .lt => a < b
  | .ge => b ≤ a
  | .gt => b < a
  | .le => a ≤ b
def negC (k : ClassFile.Cond) : ClassFile.Cond := match k with
  | .eq => .ne
  | .ne => .eq
  | .lt => .ge
  | .ge => .lt
  | .gt => .le
  | .le => .gt
def swapC (k : ClassFile.Cond) : ClassFile.Cond := match k with
  | .eq => .eq
  | .ne => .ne
  | .lt => .gt
  | .ge => .le
  | .gt => .lt
  | .le => .ge
theorem swapC_ok {k : ClassFile.Cond} {a b : Int} (h : relC k a b) : relC (swapC k) b a := by
  cases k
  · exact Eq.symm h
  · exact Ne.symm h
  all_goals exact h
theorem cDec_t {k : ClassFile.Cond} {x y : Int32} (h : cDec k x y = true) : relC k x.toInt y.toInt := by
  cases k
  · have h1 : x = y := of_decide_eq_true h
    subst h1
    rfl
  · have h1 : ¬ x = y := of_decide_eq_true h
    exact fun z => h1 (Int32.toInt_inj.mp z)
  · exact Int32.lt_iff_toInt_lt.mp (of_decide_eq_true h)
  · exact Int32.le_iff_toInt_le.mp (of_decide_eq_true h)
  · exact Int32.lt_iff_toInt_lt.mp (of_decide_eq_true h)
  · exact Int32.le_iff_toInt_le.mp (of_decide_eq_true h)
theorem cDec_f {k : ClassFile.Cond} {x y : Int32} (h : cDec k x y = false) : relC (negC k) x.toInt y.toInt := by
  cases k
  · have h1 : ¬ x = y := of_decide_eq_false h
    exact fun z => h1 (Int32.toInt_inj.mp z)
  · have h1 : ¬ ¬ x = y := of_decide_eq_false h
    have h2 : x = y := Classical.not_not.mp h1
    subst h2
    rfl
  · have h1 : ¬ x < y := of_decide_eq_false h
    rw [Int32.lt_iff_toInt_lt] at h1
    show y.toInt ≤ x.toInt
    omega
  · have h1 : ¬ y ≤ x := of_decide_eq_false h
    rw [Int32.le_iff_toInt_le] at h1
    show x.toInt < y.toInt
    omega
  · have h1 : ¬ y < x := of_decide_eq_false h
    rw [Int32.lt_iff_toInt_lt] at h1
    show x.toInt ≤ y.toInt
    omega
  · have h1 : ¬ x ≤ y := of_decide_eq_false h
    rw [Int32.le_iff_toInt_le] at h1
    show y.toInt < x.toInt
    omega
/-- what the first is between, when it stands so to the second -/
def cndX (k : ClassFile.Cond) (a b : eP) : eP := match k with
  | .eq => meet a b
  | .ne => (match iLe b.2 b.1 && (iLe a.1 b.1 && iLe b.1 a.1) with
    | true => (a.1 + 1, a.2)
    | false => (match iLe b.2 b.1 && (iLe a.2 b.1 && iLe b.1 a.2) with
      | true => (a.1, a.2 - 1)
      | false => a))
  | .lt => meet a (a.1, b.2 - 1)
  | .ge => meet a (b.1, a.2)
  | .gt => meet a (b.1 + 1, a.2)
  | .le => meet a (a.1, b.2)
theorem cndX_ok {k : ClassFile.Cond} {a b : eP} {x y : Int} (ha : bt2 a x) (hb : bt2 b y) (h : relC k x y) : bt2 (cndX k a b) x := by
  have a1 := ha.1; have a2 := ha.2; have b1 := hb.1; have b2 := hb.2
  cases k
  · have h : x = y := h
    subst h
    exact meet_ok ha hb
  · have h : x ≠ y := h
    unfold cndX
    dsimp only
    split
    · rename_i hc
      simp only [Bool.and_eq_true, iLe_ok] at hc
      exact ⟨by show a.1 + 1 ≤ x; omega, a2⟩
    · split
      · rename_i hc
        simp only [Bool.and_eq_true, iLe_ok] at hc
        exact ⟨a1, by show x ≤ a.2 - 1; omega⟩
      · exact ha
  · have h : x < y := h
    exact meet_ok ha ⟨a1, by show x ≤ b.2 - 1; omega⟩
  · have h : y ≤ x := h
    exact meet_ok ha ⟨by show b.1 ≤ x; omega, a2⟩
  · have h : y < x := h
    exact meet_ok ha ⟨by show b.1 + 1 ≤ x; omega, a2⟩
  · have h : x ≤ y := h
    exact meet_ok ha ⟨a1, by show x ≤ b.2; omega⟩
/-- bounds of an expression drawn closer; none: it cannot be -/
def rfn (B : List eP) (e : aX) (b : eP) : Option (List eP) := match iLe b.1 b.2 with
  | false => none
  | true => match e with
    | .inl _ => some B
    | .inr (c, k, i) => match B[i]? with
      | none => some B
      | some q => match iLe 1 k && iLe k 1 with
        | true => some (B.set i (meet q (b.1 - c, b.2 - c)))
        | false => match iLe (-1) k && iLe k (-1) with
          | true => some (B.set i (meet q (c - b.2, c - b.1)))
          | false => some B
theorem rfn_ok {ρ : List Int} {B : List eP} (hB : okB ρ B) {e : aX} {b : eP} {z : Int} (hv : xv ρ e z) (hz : bt2 b z) : ∃ B2 : List eP, rfn B e b = some B2 ∧ okB ρ B2 := by
  have z1 := hz.1
  have z2 := hz.2
  have h0 : iLe b.1 b.2 = true := iLe_ok.mpr (by omega)
  unfold rfn
  rw [h0]
  dsimp only
  match e, hv with
  | .inl c, _ => exact ⟨B, rfl, hB⟩
  | .inr (c, k, i), hv =>
    dsimp only
    cases hb : B[i]? with
    | none => exact ⟨B, rfl, hB⟩
    | some q =>
      dsimp only
      obtain ⟨r, r1, r2⟩ := hv
      obtain ⟨r', q1, q2⟩ := hB.2 i q hb
      rw [r1] at q1
      cases q1
      cases c1 : iLe 1 k && iLe k 1 with
      | true =>
        simp only [Bool.and_eq_true, iLe_ok] at c1
        have hk : k = 1 := by omega
        subst hk
        refine ⟨_, rfl, okB_set hB (fun r2' hr => ?_)⟩
        rw [r1] at hr
        cases hr
        exact meet_ok q2 ⟨by show b.1 - c ≤ r; omega, by show r ≤ b.2 - c; omega⟩
      | false =>
        cases c2 : iLe (-1) k && iLe k (-1) with
        | true =>
          simp only [Bool.and_eq_true, iLe_ok] at c2
          have hk : k = -1 := by omega
          subst hk
          refine ⟨_, rfl, okB_set hB (fun r2' hr => ?_)⟩
          rw [r1] at hr
          cases hr
          exact meet_ok q2 ⟨by show c - b.2 ≤ r; omega, by show r ≤ c - b.1; omega⟩
        | false => exact ⟨B, rfl, hB⟩
def side (B : List eP) (k : ClassFile.Cond) (x y : aX) : Option (List eP) := match rfn B x (cndX k (xb B x) (xb B y)) with
  | none => none
  | some B1 => rfn B1 y (cndX (swapC k) (xb B y) (xb B x))
theorem side_ok {ρ : List Int} {B : List eP} (hB : okB ρ B) {k : ClassFile.Cond} {x y : aX} {a b : Int} (hx : xv ρ x a) (hy : xv ρ y b) (h : relC k a b) : ∃ B2 : List eP, side B k x y = some B2 ∧ okB ρ B2 := by
  obtain ⟨B1, h1, h2⟩ := rfn_ok hB hx (cndX_ok (xb_ok hB hx) (xb_ok hB hy) h)
  obtain ⟨B2, h3, h4⟩ := rfn_ok h2 hy (cndX_ok (xb_ok hB hy) (xb_ok hB hx) (swapC_ok h))
  exact ⟨B2, by unfold side; rw [h1]; exact h3, h4⟩
def alt (o : Option (List eP)) (pc : Nat) (ls : List (Nat × aV)) (st : List aV) (F : List (Nat × Nat × aV)) (R : List aR) : List aS := match o with
  | some B => [(pc, ls, st, F, B, R)]
  | none => []
def qIc (k : ClassFile.Cond) (off : Int) (len : Nat) (a : aS) : Option (List aS) := match a with
  | (pc, ls, .inr (.inl y) :: .inr (.inl x) :: st, F, B, R) => (match tgtOf pc off, Nat.beq len 3 with
    | some t, true => some (alt (side B k x y) t ls st F R ++ alt (side B (negC k) x y) (pc + 3) ls st F R)
    | _, _ => none)
  | _ => none
theorem qIc_ok {T : List tT} {w : List Int} {k : ClassFile.Cond} {off : Int} {len : Nat} {a : aS} {as : List aS} (h : qIc k off len a = some as) : Snd T w a as (kIc k off len) := by
  intro S hS
  obtain ⟨Spc, Sls, Sst, Sh⟩ := S
  unfold qIc at h
  split at h
  · rename_i pc ls y x st F B R
    split at h
    · rename_i t ht hl
      cases h
      obtain ⟨e1, hG, ρ, hB, hR, hL, hSt, hF⟩ := hS
      dsimp only at e1 hG hB hR hL hSt hF
      obtain ⟨v1, vs1, e2, ⟨y', e3, hy⟩, hS1⟩ := okS_cons hSt
      obtain ⟨v2, vs2, e4, ⟨x', e5, hx⟩, hS2⟩ := okS_cons hS1
      subst e1 e3 e5 e4 e2
      have hstep : kIc k off len Spc Sls (cI y' :: cI x' :: vs2) Sh = some ((match cDec k x' y' with
        | true => t
        | false => Spc + 3), Sls, vs2, Sh) := by
        unfold kIc
        dsimp only
        rw [ht]
        exact cNx_t hl
      refine ⟨_, hstep, ?_⟩
      cases hd : cDec k x' y' with
      | true =>
        obtain ⟨B2, s1, s2⟩ := side_ok hB hx hy (cDec_t hd)
        exact ⟨(t, ls, st, F, B2, R), List.mem_append_left _ (by rw [s1]; exact List.mem_singleton.mpr rfl), rfl, hG, ρ, s2, hR, hL, hS2, hF⟩
      | false =>
        obtain ⟨B2, s1, s2⟩ := side_ok hB hx hy (cDec_f hd)
        exact ⟨(Spc + 3, ls, st, F, B2, R), List.mem_append_right _ (by rw [s1]; exact List.mem_singleton.mpr rfl), rfl, hG, ρ, s2, hR, hL, hS2, hF⟩
    · cases h
  · cases h
def qIf (k : ClassFile.Cond) (off : Int) (len : Nat) (a : aS) : Option (List aS) := match a with
  | (pc, ls, .inr (.inl x) :: st, F, B, R) => (match tgtOf pc off, Nat.beq len 3 with
    | some t, true => some (alt (side B k x (.inl 0)) t ls st F R ++ alt (side B (negC k) x (.inl 0)) (pc + 3) ls st F R)
    | _, _ => none)
  | _ => none
theorem qIf_ok {T : List tT} {w : List Int} {k : ClassFile.Cond} {off : Int} {len : Nat} {a : aS} {as : List aS} (h : qIf k off len a = some as) : Snd T w a as (kIf k off len) := by
  intro S hS
  obtain ⟨Spc, Sls, Sst, Sh⟩ := S
  unfold qIf at h
  split at h
  · rename_i pc ls x st F B R
    split at h
    · rename_i t ht hl
      cases h
      obtain ⟨e1, hG, ρ, hB, hR, hL, hSt, hF⟩ := hS
      dsimp only at e1 hG hB hR hL hSt hF
      obtain ⟨v2, vs2, e4, ⟨x', e5, hx⟩, hS2⟩ := okS_cons hSt
      subst e1 e5 e4
      have hy : xv ρ (.inl 0) (0 : Int32).toInt := rfl
      have hstep : kIf k off len Spc Sls (cI x' :: vs2) Sh = some ((match cDec k x' 0 with
        | true => t
        | false => Spc + 3), Sls, vs2, Sh) := by
        unfold kIf
        dsimp only
        rw [ht]
        exact cNx_t hl
      refine ⟨_, hstep, ?_⟩
      cases hd : cDec k x' 0 with
      | true =>
        obtain ⟨B2, s1, s2⟩ := side_ok hB hx hy (cDec_t hd)
        exact ⟨(t, ls, st, F, B2, R), List.mem_append_left _ (by rw [s1]; exact List.mem_singleton.mpr rfl), rfl, hG, ρ, s2, hR, hL, hS2, hF⟩
      | false =>
        obtain ⟨B2, s1, s2⟩ := side_ok hB hx hy (cDec_f hd)
        exact ⟨(Spc + 3, ls, st, F, B2, R), List.mem_append_right _ (by rw [s1]; exact List.mem_singleton.mpr rfl), rfl, hG, ρ, s2, hR, hL, hS2, hF⟩
    · cases h
  · cases h
