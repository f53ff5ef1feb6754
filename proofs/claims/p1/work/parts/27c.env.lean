/-! THE START: what the Statement gives is what the engine needs -/
def tmS (i : Nat) : Term := match i with
  | 0 => .string "TwoMouths$TownReader" 48
  | 1 => .string "TwoMouths$TownReader" 54
  | 2 => .string "TwoMouths$TownReader" 56
  | 3 => .string "TwoMouths$TownReader" 58
  | 4 => .string "TwoMouths$LawReader" 37
  | _ => .string "TwoMouths$LawReader" 43
theorem nr_ex : ∀ i, i < 6 → Cond.exactly (tmS i) "java/lang/String" ∈ flatC (Jvm.Cond.and given_1 narrow_1) := by decide +kernel
theorem nr_co : ∀ i, i < 6 → Cond.eq (.field (tmS i) "java/lang/String" "coder" "B") (.int 0) ∈ flatC (Jvm.Cond.and given_1 narrow_1) := by decide +kernel
theorem nr_ar : ∀ i, i < 6 → Cond.arrayOf (.field (tmS i) "java/lang/String" "value" "[B") .byte ∈ flatC (Jvm.Cond.and given_1 narrow_1) := by decide +kernel
theorem nr_le : ∀ i, i < 6 → Cond.eq (.length (.field (tmS i) "java/lang/String" "value" "[B")) (.int (Int32.ofNat (lenS.getD i 0))) ∈ flatC (Jvm.Cond.and given_1 narrow_1) := by decide +kernel
theorem nr_el : ∀ i, i < 6 → ∀ j, j < lenS.getD i 0 → Cond.eq (.elem (.field (tmS i) "java/lang/String" "value" "[B") (.int (Int32.ofNat j))) (.int ((bytS.getD i []).getD j 0)) ∈ flatC (Jvm.Cond.and given_1 narrow_1) := by decide +kernel
theorem nr_ne : ∀ i, i < 6 → ∀ j, j < 6 → i ≠ j → (Cond.not (Cond.eq (tmS i) (tmS j)) ∈ flatC (Jvm.Cond.and given_1 narrow_1) ∨ Cond.not (Cond.eq (tmS j) (tmS i)) ∈ flatC (Jvm.Cond.and given_1 narrow_1)) := by decide +kernel
theorem nr_cs : Cond.eq (Term.static "java/lang/String" "COMPACT_STRINGS" "Z") (.int 1) ∈ flatC (Jvm.Cond.and given_1 narrow_1) := by decide +kernel
theorem nr_ls : Cond.laysStatic "java/lang/String" "COMPACT_STRINGS" "Z" ∈ lw_tbl ∧ Cond.initialized "java/lang/String" ∈ lw_tbl := by decide +kernel
theorem nr_ao : Cond.arrayOver (.object "TwoMouths$Law") ∈ lw_tbl ∧ Cond.arrayOver (.object "TwoMouths$RowSet") ∈ lw_tbl ∧ Cond.arrayOver (.object "TwoMouths$State") ∈ lw_tbl := by decide +kernel
theorem nr_st : ∀ oc, oc < 17 → ∀ q ∈ sTab.getD oc [], (Cond.stringRef (oNm.getD oc "") q.1 q.2.1 ∈ lw_tbl ∧ Term.string (oNm.getD oc "") q.1 = tmS q.2.2 ∧ q.2.2 < 6) := by decide +kernel
theorem nest_on {w : Cond} (h : isNest w = true) : w.onTables = true := by
  match w, h with
  | .fieldLinkNest .., _ => rfl
  | .methodLinkNest .., _ => rfl
theorem env_start {s : State} {b : Nat} (hts : ∀ w ∈ lw_tbl, w.before #[Value.ref b] s = true) (hgv : (Jvm.Cond.and given_1 narrow_1).before #[Value.ref b] s = true) : ∃ oe : Nat → Nat, oe 0 = b ∧ eEnv (fun q => s.heap.size ≤ q) oe s := by
  have hs := flat_of_before _ hgv
  have hA : ∀ a : Nat, a < s.heap.size → ¬ (fun q : Nat => s.heap.size ≤ q) a := fun a h => Nat.not_le.mpr h
  obtain ⟨adK, adV, hS, hT⟩ := vk_Sof (args := #[Value.ref b]) (s := s) (N := 6) (tm := tmS) (len := lenS) (byt := bytS) (A := fun q => s.heap.size ≤ q) (fun i _ => lenS_lt i) (fun i hi => hs _ (nr_ex i hi)) (fun i hi => hs _ (nr_co i hi)) (fun i hi => hs _ (nr_ar i hi)) (fun i hi => hs _ (nr_le i hi)) (fun i hi j hj => hs _ (nr_el i hi j hj)) (fun i j hi hj hij => by
    rcases nr_ne i hi j hj hij with z | z
    · exact Or.inl (hs _ z)
    · exact Or.inr (hs _ z)) hA
  refine ⟨fun n => if n = 0 then b else if n % 2 = 1 then adK (n / 2) else adV (n / 2 - 1), rfl, ?_⟩
  have eK1 : ∀ i : Nat, (if 2 * i + 1 = 0 then b else if (2 * i + 1) % 2 = 1 then adK ((2 * i + 1) / 2) else adV ((2 * i + 1) / 2 - 1)) = adK i := fun i => by
    rw [if_neg (by omega), if_pos (by omega), show (2 * i + 1) / 2 = i by omega]
  have eV1 : ∀ i : Nat, (if 2 * i + 2 = 0 then b else if (2 * i + 2) % 2 = 1 then adK ((2 * i + 2) / 2) else adV ((2 * i + 2) / 2 - 1)) = adV i := fun i => by
    rw [if_neg (by omega), if_neg (by omega), show (2 * i + 2) / 2 - 1 = i by omega]
  refine ⟨fun w hw hn => va_Nw.of (nest_on hn) (hts w hw), fun ci hci r hr => ?_, ?_, va_Zof (hts _ nr_ls.1) (hts _ nr_ls.2) (va_eqt (hs _ nr_cs)) hA, fun oc own ho idx tx i hi => ?_⟩
  · have h3 : ci = 0 ∨ ci = 3 ∨ ci = 5 := by
      unfold aoL at hci
      simpa using hci
    rcases h3 with rfl | rfl | rfl
    · cases hr
      exact va_AO.of (hts _ nr_ao.1)
    · cases hr
      exact va_AO.of (hts _ nr_ao.2.1)
    · cases hr
      exact va_AO.of (hts _ nr_ao.2.2)
  · dsimp only
    rw [show (fun i : Nat => (if 2 * i + 1 = 0 then b else if (2 * i + 1) % 2 = 1 then adK ((2 * i + 1) / 2) else adV ((2 * i + 1) / 2 - 1))) = adK from funext eK1, show (fun i : Nat => (if 2 * i + 2 = 0 then b else if (2 * i + 2) % 2 = 1 then adK ((2 * i + 2) / 2) else adV ((2 * i + 2) / 2 - 1))) = adV from funext eV1]
    exact hS
  · have hoc : oc < 17 := (List.getElem?_eq_some_iff.mp ho).1
    obtain ⟨z1, z2, z3⟩ := nr_st oc hoc _ hi
    have eo : oNm.getD oc "" = own := by rw [List.getD_eq_getElem?_getD, ho]; rfl
    rw [eo] at z1 z2
    dsimp only at z1 z2 z3 ⊢
    rw [eK1 i]
    have h9 := hT i z3
    rw [← z2] at h9
    exact vk_R.of (hts _ z1) h9
theorem know_start {s : State} {b : Nat} (hts : ∀ w ∈ lw_tbl, w.before #[Value.ref b] s = true) : ∃ D : va_G, va_K D classes [] s := by
  have h0 : ∀ k : Nat, ∃ q : ClassId × (Nat → Nat), ∀ r : vw_C, classes[k]? = some r → u_Kn s r.1 r.2.1 r.2.2 q.1 q.2 := by
    intro k
    cases hk : classes[k]? with
    | none => exact ⟨(0, fun _ => 0), fun r h => by cases h⟩
    | some r =>
      obtain ⟨C, T, N⟩ := r
      obtain ⟨h1, -, -, h4, -⟩ := clOK k C T N hk
      obtain ⟨c, iS, hKn⟩ := u_known (C := C) (T := T) (N := N) (n := N) hts (fun w hw => (List.mem_filter.mp (h1 w hw)).1) (hts _ (List.mem_filter.mp h4).1)
      exact ⟨(c, iS), fun r h => by cases h; exact hKn⟩
  obtain ⟨f, hf⟩ := Classical.axiomOfChoice h0
  exact ⟨(fun k => (f k).1, fun k => (f k).2), fun k q hq => hf k q hq, fun k q h => by simp at h⟩
