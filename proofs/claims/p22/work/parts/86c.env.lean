/-! THE START, 3: what the Statement gives is what the engine needs -/
def tmS (i : Nat) : Term := match i with
  | 0 => .string "TwoMouths$LawReader" 37
  | 1 => .string "TwoMouths$LawReader" 43
  | 2 => .string "TwoMouths$LawReader" 72
  | 3 => .string "TwoMouths$LawReader" 81
  | 4 => .string "TwoMouths$LawReader" 86
  | 5 => .string "TwoMouths$LawReader" 126
  | 6 => .string "TwoMouths$LawReader" 128
  | 7 => .string "TwoMouths$LawReader" 130
  | 8 => .string "TwoMouths$LawReader" 132
  | 9 => .string "TwoMouths$LawReader" 134
  | 10 => .string "TwoMouths$LawReader" 136
  | 11 => .string "TwoMouths$LawReader" 138
  | 12 => .string "TwoMouths$LawReader" 140
  | 13 => .string "TwoMouths$LawReader" 142
  | 14 => .string "TwoMouths$TownReader" 48
  | 15 => .string "TwoMouths$TownReader" 54
  | 16 => .string "TwoMouths$TownReader" 56
  | _ => .string "TwoMouths$TownReader" 58
theorem nr_ex : ∀ i, i < 18 → Cond.exactly (tmS i) "java/lang/String" ∈ flatC (Jvm.Cond.and given_1 narrow_1) := by decide +kernel
theorem nr_co : ∀ i, i < 18 → Cond.eq (.field (tmS i) "java/lang/String" "coder" "B") (.int 0) ∈ flatC (Jvm.Cond.and given_1 narrow_1) := by decide +kernel
theorem nr_ar : ∀ i, i < 18 → Cond.arrayOf (.field (tmS i) "java/lang/String" "value" "[B") .byte ∈ flatC (Jvm.Cond.and given_1 narrow_1) := by decide +kernel
theorem nr_le : ∀ i, i < 18 → Cond.eq (.length (.field (tmS i) "java/lang/String" "value" "[B")) (.int (Int32.ofNat (lenS.getD i 0))) ∈ flatC (Jvm.Cond.and given_1 narrow_1) := by decide +kernel
theorem nr_el : ∀ i, i < 18 → ∀ j, j < lenS.getD i 0 → Cond.eq (.elem (.field (tmS i) "java/lang/String" "value" "[B") (.int (Int32.ofNat j))) (.int ((bytS.getD i []).getD j 0)) ∈ flatC (Jvm.Cond.and given_1 narrow_1) := by decide +kernel
def neF : Cond → Option (Nat × Nat × String × String)
  | .not (.eq (.string o1 n1) (.string o2 n2)) => some (n1, n2, o1, o2)
  | _ => none
theorem neF_ok {c : Cond} {q : Nat × Nat × String × String} (h : neF c = some q) : c = .not (.eq (.string q.2.2.1 q.1) (.string q.2.2.2 q.2.1)) := by
  unfold neF at h
  split at h
  · cases h
    rfl
  · cases h
def neL : List (Nat × Nat × String × String) := (flatC (Jvm.Cond.and given_1 narrow_1)).filterMap neF
theorem neL_ok {q : Nat × Nat × String × String} (h : q ∈ neL) : Cond.not (Cond.eq (.string q.2.2.1 q.1) (.string q.2.2.2 q.2.1)) ∈ flatC (Jvm.Cond.and given_1 narrow_1) := by
  obtain ⟨c, c1, c2⟩ := List.mem_filterMap.mp h
  rw [← neF_ok c2]
  exact c1
def tmO (i : Nat) : String := match Nat.ble i 13 with
  | true => "TwoMouths$LawReader"
  | false => "TwoMouths$TownReader"
def tmN (i : Nat) : Nat := [37, 43, 72, 81, 86, 126, 128, 130, 132, 134, 136, 138, 140, 142, 48, 54, 56, 58].getD i 0
theorem tmS_eq : ∀ i, i < 18 → tmS i = .string (tmO i) (tmN i) := by decide +kernel
def neB (a b : Nat) (c d : String) : Bool := neL.any (fun r => Nat.beq a r.1 && (Nat.beq b r.2.1 && (decide (c = r.2.2.1) && decide (d = r.2.2.2))))
theorem neB_ok {a b : Nat} {c d : String} (h : neB a b c d = true) : (a, b, c, d) ∈ neL := by
  obtain ⟨r, r1, r2⟩ := List.any_eq_true.mp h
  obtain ⟨x1, x2⟩ := and_inv r2
  obtain ⟨x2, x3⟩ := and_inv x2
  obtain ⟨x3, x4⟩ := and_inv x3
  have e1 := Nat.eq_of_beq_eq_true x1
  have e2 := Nat.eq_of_beq_eq_true x2
  have e3 := of_decide_eq_true x3
  have e4 := of_decide_eq_true x4
  subst e1 e2 e3 e4
  exact r1
theorem nr_ne1 : ∀ i, i < 18 → ∀ j, j < 18 → i ≠ j → (neB (tmN i) (tmN j) (tmO i) (tmO j) || neB (tmN j) (tmN i) (tmO j) (tmO i)) = true := by decide +kernel
theorem nr_ne0 (i : Nat) (hi : i < 18) (j : Nat) (hj : j < 18) (hij : i ≠ j) : (tmN i, tmN j, tmO i, tmO j) ∈ neL ∨ (tmN j, tmN i, tmO j, tmO i) ∈ neL := by
  have h := nr_ne1 i hi j hj hij
  cases hc : neB (tmN i) (tmN j) (tmO i) (tmO j) with
  | true => exact Or.inl (neB_ok hc)
  | false =>
    rw [hc] at h
    exact Or.inr (neB_ok h)
theorem nr_ne (i : Nat) (hi : i < 18) (j : Nat) (hj : j < 18) (hij : i ≠ j) : (Cond.not (Cond.eq (tmS i) (tmS j)) ∈ flatC (Jvm.Cond.and given_1 narrow_1) ∨ Cond.not (Cond.eq (tmS j) (tmS i)) ∈ flatC (Jvm.Cond.and given_1 narrow_1)) := by
  rw [tmS_eq i hi, tmS_eq j hj]
  rcases nr_ne0 i hi j hj hij with z | z
  · exact Or.inl (neL_ok z)
  · exact Or.inr (neL_ok z)
theorem nr_cs : Cond.eq (Term.static "java/lang/String" "COMPACT_STRINGS" "Z") (.int 1) ∈ flatC (Jvm.Cond.and given_1 narrow_1) := by decide +kernel
theorem nr_ls : Cond.laysStatic "java/lang/String" "COMPACT_STRINGS" "Z" ∈ lw_tbl ∧ Cond.initialized "java/lang/String" ∈ lw_tbl := by decide +kernel
theorem nr_ao : Cond.arrayOver (.object "TwoMouths$Law") ∈ lw_tbl ∧ Cond.arrayOver (.object "TwoMouths$RowSet") ∈ lw_tbl ∧ Cond.arrayOver (.object "TwoMouths$State") ∈ lw_tbl := by decide +kernel
theorem nr_st : ∀ oc, oc < 20 → ∀ q ∈ sTab.getD oc [], (Cond.stringRef (oNm.getD oc "") q.1 q.2.1 ∈ lw_tbl ∧ Term.string (oNm.getD oc "") q.1 = tmS q.2.2 ∧ q.2.2 < 18) := by decide +kernel
theorem nest_on {w : Cond} (h : isNest w = true) : w.onTables = true := by
  match w, h with
  | .fieldLinkNest .., _ => rfl
  | .methodLinkNest .., _ => rfl
theorem nr_fo : Cond.isRef (.static "jdk/internal/util/Preconditions" "SIOOBE_FORMATTER" "Ljava/util/function/BiFunction;") ∈ flatC (Jvm.Cond.and given_1 narrow_1) := by decide +kernel
theorem nr_fl : Cond.laysStatic "jdk/internal/util/Preconditions" "SIOOBE_FORMATTER" "Ljava/util/function/BiFunction;" ∈ lw_tbl ∧ Cond.initialized "jdk/internal/util/Preconditions" ∈ lw_tbl := by decide +kernel
theorem isRef_ev {args : Array Value} {s : State} {t : Term} (h : (Cond.isRef t).before args s = true) : ∃ (z a : Nat), t.eval args s none [] s = some (match Nat.beq z 0 with | true => .null | false => .ref a) := by
  unfold Cond.before Cond.holds at h
  simp only [Cond.value] at h
  cases hv : t.eval args s none [] s with
  | none => rw [hv] at h; simp at h
  | some v =>
    rw [hv] at h
    cases v with
    | null => exact ⟨0, 0, rfl⟩
    | ref a => exact ⟨1, a, rfl⟩
    | _ => simp at h
def oeS (b z f : Nat) (adK adV : Nat → Nat) (n : Nat) : Nat := if n = 0 then b else if n = 98 then z else if n = 99 then f else if n % 2 = 1 then adK (n / 2) else adV (n / 2 - 1)
theorem oeS_K (b z f : Nat) (adK adV : Nat → Nat) {i : Nat} (hi : i < 18) : oeS b z f adK adV (2 * i + 1) = adK i := by
  unfold oeS
  rw [if_neg (by omega), if_neg (by omega), if_neg (by omega), if_pos (by omega), show (2 * i + 1) / 2 = i by omega]
theorem oeS_V (b z f : Nat) (adK adV : Nat → Nat) {i : Nat} (hi : i < 18) : oeS b z f adK adV (2 * i + 2) = adV i := by
  unfold oeS
  rw [if_neg (by omega), if_neg (by omega), if_neg (by omega), if_neg (by omega), show (2 * i + 2) / 2 - 1 = i by omega]
theorem env_start {s : State} {b : Nat} (hts : ∀ w ∈ lw_tbl, w.before #[Value.ref b] s = true) (hgv : (Jvm.Cond.and given_1 narrow_1).before #[Value.ref b] s = true) : ∃ oe : Nat → Nat, oe 0 = b ∧ cEnv (fun q => s.heap.size ≤ q) oe s := by
  have hs := flat_of_before _ hgv
  have hA : ∀ a : Nat, a < s.heap.size → ¬ (fun q : Nat => s.heap.size ≤ q) a := fun a h => Nat.not_le.mpr h
  obtain ⟨adK, adV, hS, hT⟩ := vk_Sof (args := #[Value.ref b]) (s := s) (N := 18) (tm := tmS) (len := lenS) (byt := bytS) (A := fun q => s.heap.size ≤ q) (fun i _ => lenS_lt i) (fun i hi => hs _ (nr_ex i hi)) (fun i hi => hs _ (nr_co i hi)) (fun i hi => hs _ (nr_ar i hi)) (fun i hi => hs _ (nr_le i hi)) (fun i hi j hj => hs _ (nr_el i hi j hj)) (fun i j hi hj hij => by
    rcases nr_ne i hi j hj hij with z | z
    · exact Or.inl (hs _ z)
    · exact Or.inr (hs _ z)) hA
  obtain ⟨z, f, hz⟩ := isRef_ev (hs _ nr_fo)
  refine ⟨oeS b z f adK adV, rfl, ?_, ?_⟩
  · refine ⟨fun w hw hn => va_Nw.of (nest_on hn) (hts w hw), fun ci hci r hr => ?_, ⟨fun i hi => ?_, fun i j hi hj hij => ?_⟩, va_Zof (hts _ nr_ls.1) (hts _ nr_ls.2) (va_eqt (hs _ nr_cs)) hA, fun oc own ho idx tx i hi => ?_⟩
    · have h3 : ci = 0 ∨ ci = 3 ∨ ci = 5 := by
        unfold aoL at hci
        simpa using hci
      rcases h3 with rfl | rfl | rfl
      · cases hr
        exact va_AO.of (hts _ nr_ao.1)
      · cases hr
        exact va_AO.of (hts _ nr_ao.2.1)
      · cases hr
        exact va_AO.of (hts _ nr_ao.2.2)
    · dsimp only
      rw [oeS_K b z f adK adV hi, oeS_V b z f adK adV hi]
      exact hS.1 i hi
    · dsimp only at hij
      rw [oeS_K b z f adK adV hi, oeS_K b z f adK adV hj] at hij
      exact hS.2 i j hi hj hij
    · have hoc : oc < 20 := (List.getElem?_eq_some_iff.mp ho).1
      obtain ⟨z1, z2, z3⟩ := nr_st oc hoc _ hi
      have eo : oNm.getD oc "" = own := by rw [List.getD_eq_getElem?_getD, ho]; rfl
      rw [eo] at z1 z2
      dsimp only at z1 z2 z3 ⊢
      rw [oeS_K b z f adK adV z3]
      have h9 := hT i z3
      rw [← z2] at h9
      exact vk_R.of (hts _ z1) h9
  · have e9 : tv [] (oeS b z f adK adV) (cO 99) = (match Nat.beq z 0 with | true => Value.null | false => .ref f) := by
      show ov (oeS b z f adK adV) 99 = _
      unfold ov
      show (match Nat.beq 99 99 && Nat.beq z 0 with | true => Value.null | false => .ref f) = _
      cases Nat.beq z 0 <;> rfl
    rw [e9]
    exact va_Zof (hts _ nr_fl.1) (hts _ nr_fl.2) hz hA
theorem know_start {s : State} {b : Nat} (hts : ∀ w ∈ lw_tbl, w.before #[Value.ref b] s = true) : ∃ D : va_G, va_K D classes [] s := by
  have h0 : ∀ k : Nat, ∃ q : ClassId × (Nat → Nat), ∀ r : vw_C, classes[k]? = some r → u_Kn s r.1 r.2.1 r.2.2 q.1 q.2 := by
    intro k
    cases hk : classes[k]? with
    | none => exact ⟨(0, fun _ => 0), fun r h => by cases h⟩
    | some r =>
      obtain ⟨C, T, N⟩ := r
      obtain ⟨h1, -, -, h4, -⟩ := clOK k C T N hk
      obtain ⟨c, iS, hKn⟩ := u_known (C := C) (T := T) (N := N) (n := N) hts (fun w hw => (List.mem_filter.mp (h1 w hw)).1) (hts _ (List.mem_filter.mp h4).1)
      exact ⟨(c, iS), fun r h => by cases h; exact hKn⟩
  obtain ⟨f, hf⟩ := Classical.axiomOfChoice h0
  exact ⟨(fun k => (f k).1, fun k => (f k).2), fun k q hq => hf k q hq, fun k q h => by simp at h⟩
