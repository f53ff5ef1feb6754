/-! THE CHECKER, 16: constants by the tables, the greater and the less -/
def acat : List aV → Nat
  | [] => 0
  | a :: r => (match awide a with
    | true => 2
    | false => 1) + acat r
theorem acat_ok {ρ : List Int} : ∀ {as : List aV} {vs : List cV}, okS ρ as vs → catC vs = acat as
  | [], [], _ => rfl
  | a :: as, v :: vs, g => by
    have ih := acat_ok g.2
    unfold catC acat
    rw [awide_ok g.1, ih]
    cases awide a <;> rfl
  | [], _ :: _, g => g.elim
  | _ :: _, [], g => g.elim
def in32 (n : Int) : Bool := iLe (-2147483648) n && iLe n 2147483647
theorem in32_ok {n : Int} (h : in32 n = true) : (Int32.ofInt n).toInt = n := by
  simp only [in32, Bool.and_eq_true, iLe_ok] at h
  exact ofInt_in h.1 h.2
def qIcon (ln : Nat) (n : Int) (len : Nat) (a : aS) : Option (List aS) := match in32 n with
  | true => qConst ln (aI (.inl n)) len a
  | false => none
theorem qIcon_ok {T : List tT} {w : List Int} {ln len : Nat} {n : Int} {a : aS} {as : List aS} (h : qIcon ln n len a = some as) : Snd T w a as (kConst ln (cI (Int32.ofInt n)) len) := by
  unfold qIcon at h
  split at h
  · rename_i hn
    exact qConst_ok (v := aI (.inl n)) (u := cI (Int32.ofInt n)) (fun ρ => ⟨_, rfl, in32_ok hn⟩) h
  · cases h
def qLdc (oc idx : Nat) (len : Nat) (a : aS) : Option (List aS) := match fnd (sTab.getD oc []) idx with
  | some (_, i) => qConst 2 (aO (2 * i + 1)) len a
  | none => (match fnd (iTab.getD oc []) idx with
    | some n => qIcon 2 n len a
    | none => none)
theorem qLdc_ok {T : List tT} {w : List Int} {oc idx len : Nat} {a : aS} {as : List aS} (h : qLdc oc idx len a = some as) : Snd T w a as (kLdc oc idx len) := by
  intro S hS
  unfold qLdc at h
  unfold kLdc
  split at h
  · rename_i x i hf
    rw [hf]
    exact qConst_ok (v := aO (2 * i + 1)) (u := cO (2 * i + 1)) (fun ρ => rfl) h S hS
  · rename_i hf
    rw [hf]
    split at h
    · rename_i n hn
      dsimp only
      rw [hn]
      exact qIcon_ok h S hS
    · cases h
def qLdcw (oc idx : Nat) (len : Nat) (a : aS) : Option (List aS) := match fnd (iTab.getD oc []) idx with
  | some n => qIcon 3 n len a
  | none => none
theorem qLdcw_ok {T : List tT} {w : List Int} {oc idx len : Nat} {a : aS} {as : List aS} (h : qLdcw oc idx len a = some as) : Snd T w a as (kLdcw oc idx len) := by
  intro S hS
  unfold qLdcw at h
  unfold kLdcw
  split at h
  · rename_i n hn
    rw [hn]
    exact qIcon_ok h S hS
  · cases h
def in64 (n : Int) : Bool := iLe (-9223372036854775808) n && iLe n 9223372036854775807
theorem in64_ok {n : Int} (h : in64 n = true) : (Int64.ofInt n).toInt = n := by
  simp only [in64, Bool.and_eq_true, iLe_ok] at h
  rw [Int64.toInt_ofInt]
  show n.bmod 18446744073709551616 = n
  rw [Int.bmod_def]
  split <;> omega
def qLdc2 (oc idx : Nat) (len : Nat) (a : aS) : Option (List aS) := match fnd (jTab.getD oc []) idx with
  | some n => (match in64 n with
    | true => qConst 3 (aJ (.inl n)) len a
    | false => none)
  | none => none
theorem qLdc2_ok {T : List tT} {w : List Int} {oc idx len : Nat} {a : aS} {as : List aS} (h : qLdc2 oc idx len a = some as) : Snd T w a as (kLdc2 oc idx len) := by
  intro S hS
  unfold qLdc2 at h
  unfold kLdc2
  split at h
  · rename_i n hn
    rw [hn]
    split at h
    · rename_i h6
      exact qConst_ok (v := aJ (.inl n)) (u := cJ (Int64.ofInt n)) (fun ρ => ⟨_, rfl, in64_ok h6⟩) h S hS
    · cases h
  · cases h
def qMath (g : eP → eP → eP) (len : Nat) (a : aS) : Option (List aS) := match a with
  | (pc, ls, .inr (.inl y) :: .inr (.inl x) :: st, F, B, R) => aNx (Nat.beq len 3 && Nat.ble (acat st) 8) (pc + 3, ls, aI (put B (.inr (g (xb B x) (xb B y)))).1 :: st, F, (put B (.inr (g (xb B x) (xb B y)))).2, R)
  | _ => none
theorem qMath_ok {T : List tT} {w : List Int} {g : eP → eP → eP} {f : Int32 → Int32 → Int32} (hg : ∀ (a b : eP) (x y : Int32), bt2 a x.toInt → bt2 b y.toInt → bt2 (g a b) (f x y).toInt) {len : Nat} {a : aS} {as : List aS} (h : qMath g len a = some as) : Snd T w a as (kMath f len) := by
  intro S hS
  obtain ⟨Spc, Sls, Sst, Sh⟩ := S
  unfold qMath at h
  split at h
  · rename_i pc ls y x st F B R
    obtain ⟨g0, rfl⟩ := aNx_inv h
    obtain ⟨g1, g2⟩ := and_inv g0
    obtain ⟨e1, hG, ρ, hB, hR, hL, hSt, hF⟩ := hS
    dsimp only at e1 hG hB hR hL hSt hF
    obtain ⟨v1, vs1, e2, ⟨y', e3, hy⟩, hS1⟩ := okS_cons hSt
    obtain ⟨v2, vs2, e4, ⟨x', e5, hx⟩, hS2⟩ := okS_cons hS1
    subst e1 e3 e5 e4 e2
    have hr : rv ρ (.inr (g (xb B x) (xb B y))) (f x' y').toInt := hg _ _ _ _ (xb_ok hB hx) (xb_ok hB hy)
    obtain ⟨ρ', p1, p2, p3⟩ := put_ok hB hr
    refine ⟨(Spc + 3, Sls, cI (f x' y') :: vs2, Sh), ?_, _, List.mem_singleton.mpr rfl, rfl, hG, ρ', p2, okR_mono p1 hR, okL_mono p1 hL, ⟨⟨_, rfl, p3⟩, okS_mono p1 hS2⟩, okF_mono p1 hF⟩
    show cNx (Nat.beq len 3 && Nat.ble (catC vs2) 8) _ = _
    exact cNx_t (by rw [acat_ok hS2]; exact g0)
  · cases h
def zMax (a b : Int) : Int := match iLe a b with
  | true => b
  | false => a
def zMin (a b : Int) : Int := match iLe a b with
  | true => a
  | false => b
theorem zMax_ok (a b : Int) : a ≤ zMax a b ∧ b ≤ zMax a b ∧ (zMax a b = a ∨ zMax a b = b) := by
  unfold zMax
  cases h : iLe a b with
  | true => rw [iLe_ok] at h; dsimp only; omega
  | false =>
    have : ¬ a ≤ b := fun q => by rw [iLe_ok.mpr q] at h; cases h
    dsimp only
    omega
theorem zMin_ok (a b : Int) : zMin a b ≤ a ∧ zMin a b ≤ b ∧ (zMin a b = a ∨ zMin a b = b) := by
  unfold zMin
  cases h : iLe a b with
  | true => rw [iLe_ok] at h; dsimp only; omega
  | false =>
    have : ¬ a ≤ b := fun q => by rw [iLe_ok.mpr q] at h; cases h
    dsimp only
    omega
theorem sn_max {T : List tT} {w : List Int} {len : Nat} {a : aS} {as : List aS} (h : qMath (fun a b => (zMax a.1 b.1, zMax a.2 b.2)) len a = some as) : Snd T w a as (kMath (fun x y => if x < y then y else x) len) := by
  refine qMath_ok (fun a b x y ha hb => ?_) h
  have a1 := ha.1; have a2 := ha.2; have b1 := hb.1; have b2 := hb.2
  have m1 := zMax_ok a.1 b.1
  have m2 := zMax_ok a.2 b.2
  by_cases hl : x < y
  · rw [if_pos hl]
    rw [Int32.lt_iff_toInt_lt] at hl
    exact ⟨by show zMax a.1 b.1 ≤ _; omega, by show _ ≤ zMax a.2 b.2; omega⟩
  · rw [if_neg hl]
    rw [Int32.lt_iff_toInt_lt] at hl
    exact ⟨by show zMax a.1 b.1 ≤ _; omega, by show _ ≤ zMax a.2 b.2; omega⟩
theorem sn_min {T : List tT} {w : List Int} {len : Nat} {a : aS} {as : List aS} (h : qMath (fun a b => (zMin a.1 b.1, zMin a.2 b.2)) len a = some as) : Snd T w a as (kMath (fun x y => if y < x then y else x) len) := by
  refine qMath_ok (fun a b x y ha hb => ?_) h
  have a1 := ha.1; have a2 := ha.2; have b1 := hb.1; have b2 := hb.2
  have m1 := zMin_ok a.1 b.1
  have m2 := zMin_ok a.2 b.2
  by_cases hl : y < x
  · rw [if_pos hl]
    rw [Int32.lt_iff_toInt_lt] at hl
    exact ⟨by show zMin a.1 b.1 ≤ _; omega, by show _ ≤ zMin a.2 b.2; omega⟩
  · rw [if_neg hl]
    rw [Int32.lt_iff_toInt_lt] at hl
    exact ⟨by show zMin a.1 b.1 ≤ _; omega, by show _ ≤ zMin a.2 b.2; omega⟩
