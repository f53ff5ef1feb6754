/-! THE WALK OF THE LAW, given what is owed -/
theorem whole_start_of (oL : owLaw) (oW : owWay) {p : Program} {e : Env} {s : State} {m : MethodId} {below : List Frame} {meth : Method} {c : Code} (l : Launch) {b L : Nat} {xs : Nat → Int32} (hL : L ≤ 3584) (C0 : lw_At p s m meth c b L xs) : W p l e room_1 s m #[Value.ref b] below meth c s.heap [] 0 0 (lw_Z below #[Value.ref b] s) (entryFrame m ([Value.ref b] : List Value).toArray 4) := by
  obtain ⟨hx, hb, hr, hml, hown, hts, hX, hbl, hlocks, hgv⟩ := id C0
  obtain ⟨oe, ho0, hE⟩ := env_start hts hgv
  obtain ⟨D, hK⟩ := know_start hts
  have hgt : ∀ w ∈ gtbl, w.before #[Value.ref b] s = true := fun w hw => hts w (List.mem_filter.mp hw).1
  have hni : isInit mL = false := by decide +kernel
  have X : eCx p l room_1 s m #[Value.ref b] meth c D (fun q => s.heap.size ≤ q) oe mL (eCall 8) 8 none :=
    ⟨hx, by rw [mL_b]; exact hb, hml, hown, hgt, fun _ h => h, hE.1, mLk_ok.2, fun h => by (rw [hni] at h; cases h), rfl, rfl, by decide, by decide, fun bx h => (by cases h), eCall_ok l D _ oe 8⟩
  have hS0 := law_K (p := p) (l := l) (e := e) (s := s) (m := m) (b := b) (below := below) (meth := meth) (c := c) (D := D) (oe := oe) oL oW hx hb hr hml hown hlocks hgt hE hL hX hbl ho0 mL_dec
  have k0 := eLoop_ok X mL_dec hS0 200 _ s0_ok
  have hl := lv_entry ([.ref b]) (n := 4) (Nat.le_of_ble_eq_true rfl)
  rw [lg_entry_eq]
  refine k0 s.heap [] _ [] ⟨[], [], hK, fun k q h => by simp at h, ⟨fun i j p q h => by simp at h, fun k q h => by simp at h⟩, va_S.rf, List.prefix_refl _, ⟨rfl, fun k q h => by simp at h⟩, ⟨_, hl, ?_⟩, trivial⟩
  exact gL_args (as := [eO 0]) (vs := [.ref b]) 0 ⟨by show Value.ref b = .ref (oe 0); rw [ho0], trivial⟩
