/-! THE WALK OF THE LAW -/
abbrev bx7 : List eP := [((-2147483648), 2147483647), ((-2147483648), 2147483647), ((-2147483648), 2147483647), ((-2147483648), 2147483647), ((-2147483648), 2147483647), ((-2147483648), 2147483647), ((-2147483648), 2147483647)]
theorem s1_b : eqOS (eLoop (eCall 8) mL (some bx7) 33 100 S0) (33, S0.2.1, [eI (0, 63)], S0.2.2.2.1, 205, 23799) = true := by decide +kernel
theorem s1_ok : eLoop (eCall 8) mL (some bx7) 33 100 S0 = some (33, S0.2.1, [eI (0, 63)], S0.2.2.2.1, 205, 23799) := eqOS_ok s1_b
noncomputable def shRun (bx : List eP) : Bool := match eLoop (eCall 8) mL (some bx) 999999 100 S0 with
  | some S => eFin S
  | none => false
theorem sh_all : ∀ k, k < 7 → shRun (List.replicate k f32) = true := by decide +kernel
theorem bx7_in : ∀ q ∈ bx7, q = f32 := by decide +kernel
/-- from the entry, for every script of at most 7 ints, the law comes to its end with true -/
theorem whole_start {p : Program} {e : Env} {s : State} {m : MethodId} {below : List Frame} {meth : Method} {c : Code} (l : Launch) {b L : Nat} {xs : Nat → Int32} (hL : L ≤ 7) (C0 : lw_At p s m meth c b L xs) : W p l e room_1 s m #[Value.ref b] below meth c s.heap [] 0 0 (lw_Z below #[Value.ref b] s) (entryFrame m ([Value.ref b] : List Value).toArray 4) := by
  obtain ⟨hx, hb, hr, hml, hown, hts, hX, hbl, hlocks, hgv⟩ := id C0
  obtain ⟨oe, ho0, hE⟩ := env_start hts hgv
  obtain ⟨D, hK⟩ := know_start hts
  have hgt : ∀ w ∈ gtbl, w.before #[Value.ref b] s = true := fun w hw => hts w (List.mem_filter.mp hw).1
  have hni : isInit mL = false := by decide +kernel
  have mk : ∀ sc : Option (List eP), eScr (fun q => s.heap.size ≤ q) oe s sc → eCx p l room_1 s m #[Value.ref b] meth c D (fun q => s.heap.size ≤ q) oe mL (eCall 8) 8 sc := fun sc hsc =>
    ⟨hx, by rw [mL_b]; exact hb, hml, hown, hgt, fun _ h => h, hE, mLk_ok.2, fun h => by (rw [hni] at h; cases h), rfl, rfl, by decide, by decide, hsc, eCall_ok l D _ oe 8⟩
  have hscr : ∀ bx : List eP, bx.length = L → (∀ q ∈ bx, q = f32) → eScr (fun q => s.heap.size ≤ q) oe s (some bx) := fun bx h1 h2 bx9 h9 => by
    cases h9
    refine ⟨b, xs, by rw [h1]; exact hX, hbl, Nat.not_le.mpr hbl, ho0, by omega, fun j q hj => ?_⟩
    rw [h2 q (List.mem_of_getElem? hj)]
    exact in_f32 _
  have hAA : ∀ q : Nat, (fun q : Nat => s.heap.size ≤ q) q → s.heap.size ≤ q := fun _ h => h
  have hS0 : eK p l e room_1 s m #[Value.ref b] below meth c (lw_Z below #[Value.ref b] s) D (fun q => s.heap.size ≤ q) [] oe 4 S0.1 S0.2.1 S0.2.2.1 S0.2.2.2.1 S0.2.2.2.2.1 S0.2.2.2.2.2 := by
    by_cases h7 : L < 7
    · have hs := sh_all L h7
      unfold shRun at hs
      split at hs
      · rename_i S hS
        exact eLoop_ok (mk _ (hscr (List.replicate L f32) List.length_replicate (fun q hq => List.eq_of_mem_replicate hq))) mL_dec (eFin_ok hx hb hr hlocks hAA hs) 100 S0 hS
      · cases hs
    · have hL7 : 7 = L := by omega
      have X := mk (some bx7) (hscr bx7 hL7 bx7_in)
      exact eLoop_ok X mL_dec (op_all p l e s m b below meth c D _ oe X hr hlocks hAA) 100 S0 s1_ok
  have k0 := eLoop_ok (mk none (fun bx h => by cases h)) mL_dec hS0 200 _ s0_ok
  have hl := lv_entry ([.ref b]) (n := 4) (Nat.le_of_ble_eq_true rfl)
  rw [lg_entry_eq]
  refine k0 s.heap [] _ [] ⟨[], [], hK, fun k q h => by simp at h, ⟨fun i j p q h => by simp at h, fun k q h => by simp at h⟩, va_S.rf, List.prefix_refl _, ⟨rfl, fun k q h => by simp at h⟩, ⟨_, hl, ?_⟩, trivial⟩
  exact gL_args (as := [eO 0]) (vs := [.ref b]) 0 ⟨by show Value.ref b = .ref (oe 0); rw [ho0], trivial⟩
