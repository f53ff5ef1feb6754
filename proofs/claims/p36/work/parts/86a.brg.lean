/-! THE START, 1: behind the constructors: from cells over intervals to a pure heap -/
def fFit (a : eV) (v : cV) : Prop := match a with
  | .inl none => v = cN
  | .inl (some k) => v = cR k
  | .inr (.inl q) => ∃ x : Int32, v = cI x ∧ bt2 q x.toInt
  | .inr (.inr (.inl q)) => ∃ x : Int64, v = cJ x ∧ bt2 q x.toInt
  | .inr (.inr (.inr n)) => v = cO n
def sFit : List eV → List cV → Prop
  | [], [] => True
  | a :: as, v :: vs => fFit a v ∧ sFit as vs
  | _, _ => False
def cFit (c : eC) (d : cC) : Prop := match c with
  | .inl (ci, fs) => ∃ vs : List cV, d = .inl (ci, vs) ∧ sFit fs vs
  | .inr (.inl (kd, n, q)) => (kd < 3 ∧ ∃ f : Nat → Int32, d = .inr (.inl (kd, n, f)) ∧ ∀ j, j < n → bt2 (aLook q.2 q.1 j) (f j).toInt) ∨ (kd = 3 ∧ ∃ f : Nat → Int64, d = .inr (.inr (.inl (n, f))))
  | .inr (.inr (ci, n, rs)) => d = .inr (.inr (.inr (ci, n, rs)))
/-- no field lies outside -/
def notO (a : eV) : Bool := match a with
  | .inr (.inr (.inr _)) => false
  | _ => true
def noO (fs : List eV) : Bool := fs.all notO
theorem bg_f {al : List Nat} {oe : Nat → Nat} {a : eV} {v : Value} (g : gV al oe a v) (hn : notO a = true) : ∃ u : cV, v = tv al oe u ∧ fFit a u := by
  match a, g, hn with
  | .inl none, g, _ =>
    have g : v = .null := g
    subst g
    exact ⟨cN, rfl, rfl⟩
  | .inl (some k), ⟨x, h1, h2⟩, _ =>
    subst h2
    exact ⟨cR k, by show Value.ref x = .ref (al.getD k 0); rw [List.getD_eq_getElem?_getD, h1]; rfl, rfl⟩
  | .inr (.inl q), ⟨x, h1, h2⟩, _ =>
    subst h1
    exact ⟨cI x, rfl, x, rfl, h2⟩
  | .inr (.inr (.inl q)), ⟨x, h1, h2⟩, _ =>
    subst h1
    exact ⟨cJ x, rfl, x, rfl, h2⟩
theorem bg_s {al : List Nat} {oe : Nat → Nat} : ∀ {as : List eV} {vs : List Value}, gS al oe as vs → noO as = true → ∃ us : List cV, vs = us.map (tv al oe) ∧ sFit as us
  | [], [], _, _ => ⟨[], rfl, trivial⟩
  | a :: as, v :: vs, g, hn => by
    have hn' := List.all_eq_true.mp hn
    obtain ⟨u, h1, h2⟩ := bg_f g.1 (hn' a List.mem_cons_self)
    obtain ⟨us, h3, h4⟩ := bg_s g.2 (List.all_eq_true.mpr fun x hx => hn' x (List.mem_cons_of_mem _ hx))
    exact ⟨u :: us, by rw [List.map_cons, ← h1, ← h3], h2, h4⟩
  | [], _ :: _, g, _ => g.elim
  | _ :: _, [], g, _ => g.elim
def noC (c : eC) : Bool := match c with
  | .inl (_, fs) => noO fs
  | _ => true
theorem bg_c {tys : List (ClassId × FieldType)} {al : List Nat} {oe : Nat → Nat} {c : eC} {e : va_E} (g : gC tys al oe c e) (hn : noC c = true) : ∃ d : cC, hC tys al oe d e ∧ cFit c d := by
  match c, g, hn with
  | .inl (ci, fs), ⟨vs, h1, h2⟩, hn =>
    obtain ⟨us, h3, h4⟩ := bg_s h2 hn
    exact ⟨.inl (ci, us), by show e = .inr (ci, us.map (tv al oe)); rw [h1, h3], us, rfl, h4⟩
  | .inr (.inl (kd, n, q)), ⟨cA, ⟨t0, h1⟩, h2, h3⟩, _ =>
    rcases h3 with ⟨h3, f, h4, h5⟩ | ⟨h3, f, h4, h5⟩
    · exact ⟨.inr (.inl (kd, n, f)), ⟨h3, h2, cA, t0, h1, h4⟩, Or.inl ⟨h3, f, rfl, h5⟩⟩
    · subst h3
      exact ⟨.inr (.inr (.inl (n, f))), ⟨h2, cA, t0, h1, h4⟩, Or.inr ⟨rfl, f, rfl⟩⟩
  | .inr (.inr (ci, n, rs)), ⟨cA, r, f, h1, ⟨t0, h2⟩, h3, h4, h5⟩, _ =>
    refine ⟨.inr (.inr (.inr (ci, n, rs))), ⟨h3, cA, t0, r, f, h1, h2, h4, fun j hj => ?_⟩, rfl⟩
    have := h5 j hj
    unfold gR at this
    cases hr : rs.getD j none with
    | none => rw [hr] at this; rw [this]; rfl
    | some k =>
      rw [hr] at this
      obtain ⟨x, x1, x2⟩ := this
      rw [x2]
      show some x = some (al.getD k 0)
      rw [List.getD_eq_getElem?_getD, x1]
      rfl
theorem bg_h {tys : List (ClassId × FieldType)} {oe : Nat → Nat} {h : List eC} {ws : va_W} (g : gW tys oe h ws) (hn : h.all noC = true) : ∃ h9 : List cC, hW tys (adr ws) oe h9 ws ∧ h9.length = h.length ∧ ∀ (k : Nat) (c : eC), h[k]? = some c → ∃ d : cC, h9[k]? = some d ∧ cFit c d := by
  have hn' := List.all_eq_true.mp hn
  have hx : ∀ k : Nat, ∃ d : cC, ∀ c : eC, h[k]? = some c → ∃ e : va_E, ws[k]? = some ((adr ws).getD k 0, e) ∧ hC tys (adr ws) oe d e ∧ cFit c d := by
    intro k
    cases hk : h[k]? with
    | none => exact ⟨.inl (0, []), fun c hc => by cases hc⟩
    | some c =>
      obtain ⟨a, e, h1, h2⟩ := g.2 k c hk
      obtain ⟨d, h3, h4⟩ := bg_c h2 (hn' c (List.mem_of_getElem? hk))
      refine ⟨d, fun c' hc' => ?_⟩
      cases hc'
      refine ⟨e, ?_, h3, h4⟩
      have : (adr ws).getD k 0 = a := by
        unfold adr
        rw [List.getD_eq_getElem?_getD, List.getElem?_map, h1]
        rfl
      rw [this]
      exact h1
  obtain ⟨F9, hF⟩ := Classical.axiomOfChoice hx
  have hl : ((List.range h.length).map F9).length = h.length := by rw [List.length_map, List.length_range]
  have hat : ∀ k : Nat, k < h.length → ((List.range h.length).map F9)[k]? = some (F9 k) := fun k hk => by
    rw [List.getElem?_map, List.getElem?_range hk]
    rfl
  refine ⟨(List.range h.length).map F9, ⟨by rw [hl]; exact g.1, fun k c hk => ?_⟩, hl, fun k c hk => ?_⟩
  · have hlt : k < h.length := by
      have := (List.getElem?_eq_some_iff.mp hk).1
      rw [hl] at this
      exact this
    rw [hat k hlt] at hk
    cases hk
    obtain ⟨e, h1, h2, _⟩ := hF k _ (List.getElem?_eq_getElem hlt)
    exact ⟨e, h1, h2⟩
  · have hlt := (List.getElem?_eq_some_iff.mp hk).1
    obtain ⟨e, _, _, h3⟩ := hF k c hk
    exact ⟨_, hat k hlt, h3⟩
/-- cells over intervals within types -/
def inE (q b : eP) : Bool := iLe b.1 q.1 && iLe q.2 b.2
def fT9 (a : eV) (t : fT) : Bool := match a, t with
  | .inr (.inl q), .inl b => inE q b
  | .inr (.inr (.inl _)), .inr (.inr (.inl _)) => true
  | .inl (some k), .inr (.inr (.inr (.inl ks))) => ks.any (Nat.beq k)
  | _, _ => false
def fsT9 : List eV → List fT → Bool
  | [], [] => true
  | a :: as, t :: ts => fT9 a t && fsT9 as ts
  | _, _ => false
def cT9 (c : eC) (t : tT) : Bool := match c, t with
  | .inl (ci, fs), .inl (cj, ts) => Nat.beq ci cj && fsT9 fs ts
  | .inr (.inl (kd, n, q)), .inr (.inl (kd2, n2, d, gs)) => (Nat.beq kd kd2 && (Nat.ble (kd + 1) 3 && Nat.beq n n2)) && (((inE q.1 d && q.2.all (fun x => inE x.2 d)) || (List.range n).all (fun j => inE (aLook q.2 q.1 j) d)) && gs.all (fun s => inE q.1 s.2.2.2 && q.2.all (fun x => inE x.2 s.2.2.2)))
  | .inr (.inl (kd, n, _)), .inr (.inr (.inl n2)) => Nat.beq kd 3 && Nat.beq n n2
  | .inr (.inr (ci, n, rs)), .inr (.inr (.inr (cj, n2, rs2))) => Nat.beq ci cj && (Nat.beq n n2 && decide (rs = rs2))
  | _, _ => false
def hT9 : List eC → List tT → Bool
  | [], [] => true
  | c :: cs, t :: ts => cT9 c t && hT9 cs ts
  | _, _ => false
theorem inE_ok {q b : eP} (h : inE q b = true) {z : Int} (hz : bt2 q z) : bt2 b z := by
  unfold inE at h
  simp only [Bool.and_eq_true, iLe_ok] at h
  have h1 := hz.1
  have h2 := hz.2
  exact ⟨by omega, by omega⟩
theorem aLook_in {b : eP} : ∀ {l : List (Nat × eP)} {d : eP} {j : Nat}, inE d b = true → l.all (fun x => inE x.2 b) = true → inE (aLook l d j) b = true
  | [], d, j, h, _ => h
  | (k, v) :: r, d, j, h, hl => by
    have hl' := List.all_eq_true.mp hl
    unfold aLook
    split
    · exact hl' _ List.mem_cons_self
    · exact aLook_in h (List.all_eq_true.mpr fun x hx => hl' x (List.mem_cons_of_mem _ hx))
theorem fT9_ok {a : eV} {t : fT} {v : cV} (h : fT9 a t = true) (hf : fFit a v) : fV [] t v := by
  unfold fT9 at h
  split at h
  · obtain ⟨x, h1, h2⟩ := hf
    exact ⟨x, h1, inE_ok h h2⟩
  · obtain ⟨x, h1, _⟩ := hf
    exact ⟨x, h1⟩
  · rename_i k ks
    obtain ⟨j, h1, h2⟩ := List.any_eq_true.mp h
    have hf : v = cR k := hf
    exact ⟨k, by rw [nbeq_t h2]; exact h1, hf⟩
  · cases h
theorem fsT9_ok : ∀ {as : List eV} {ts : List fT} {vs : List cV}, fsT9 as ts = true → sFit as vs → fsV [] ts vs
  | [], [], [], _, _ => trivial
  | a :: as, t :: ts, v :: vs, h, g => by
    unfold fsT9 at h
    obtain ⟨h1, h2⟩ := and_inv h
    exact ⟨fT9_ok h1 g.1, fsT9_ok h2 g.2⟩
  | [], [], _ :: _, _, g => g.elim
  | _ :: _, _ :: _, [], _, g => g.elim
  | [], _ :: _, _, h, _ => by cases h
  | _ :: _, [], _, h, _ => by cases h
theorem cT9_ok {c : eC} {t : tT} {d : cC} (h : cT9 c t = true) (hf : cFit c d) : tC [] t d := by
  unfold cT9 at h
  split at h
  · obtain ⟨vs, h1, h2⟩ := hf
    obtain ⟨h3, h4⟩ := and_inv h
    have e := nbeq_t h3
    subst e
    exact ⟨vs, h1, fsT9_ok h4 h2⟩
  · rename_i kd n q kd2 n2 b gs
    obtain ⟨h1, h2⟩ := and_inv h
    obtain ⟨h3, h40⟩ := and_inv h1
    obtain ⟨h4, h5⟩ := and_inv h40
    obtain ⟨h60, h7⟩ := and_inv h2
    have hlk : ∀ j : Nat, j < n → inE (aLook q.2 q.1 j) b = true := fun j hj => by
      rw [Bool.or_eq_true] at h60
      rcases h60 with h60 | h60
      · obtain ⟨h6, h8⟩ := and_inv h60
        exact aLook_in h6 h8
      · exact List.all_eq_true.mp h60 j (List.mem_range.mpr hj)
    have e1 := nbeq_t h3
    have e2 := nbeq_t h5
    have h9 := Nat.le_of_ble_eq_true h4
    subst e1 e2
    rcases hf with ⟨_, f, f1, f2⟩ | ⟨f0, _⟩
    · refine ⟨f, f1, fun j hj => ⟨inE_ok (hlk j hj) (f2 j hj), fun s hs _ => ?_⟩⟩
      obtain ⟨g1, g2⟩ := and_inv (List.all_eq_true.mp h7 s hs)
      exact inE_ok (aLook_in g1 g2) (f2 j hj)
    · omega
  · rename_i kd n q n2
    obtain ⟨h1, h2⟩ := and_inv h
    have e1 := nbeq_t h1
    have e2 := nbeq_t h2
    subst e1 e2
    rcases hf with ⟨f0, _⟩ | ⟨_, f, f1⟩
    · omega
    · exact ⟨f, f1⟩
  · obtain ⟨h1, h2⟩ := and_inv h
    obtain ⟨h2, h3⟩ := and_inv h2
    have e1 := nbeq_t h1
    have e2 := nbeq_t h2
    have e3 := of_decide_eq_true h3
    subst e1 e2 e3
    exact hf
  · cases h
theorem hT9_ok : ∀ {cs : List eC} {ts : List tT}, hT9 cs ts = true → cs.length = ts.length ∧ ∀ (k : Nat) (t : tT), ts[k]? = some t → ∃ c : eC, cs[k]? = some c ∧ cT9 c t = true
  | [], [], _ => ⟨rfl, fun k t h => by cases h⟩
  | c :: cs, t :: ts, h => by
    unfold hT9 at h
    obtain ⟨h1, h2⟩ := and_inv h
    obtain ⟨i1, i2⟩ := hT9_ok h2
    refine ⟨by rw [List.length_cons, List.length_cons, i1], fun k t' hk => ?_⟩
    cases k with
    | zero => cases hk; exact ⟨c, rfl, h1⟩
    | succ k => exact i2 k t' hk
  | [], _ :: _, h => by cases h
  | _ :: _, [], h => by cases h
set_option maxRecDepth 100000 in
theorem S0_T : hT9 S0.2.2.2.1 TT = true := by decide +kernel
set_option maxRecDepth 100000 in
theorem S0_n : S0.2.2.2.1.all noC = true := by decide +kernel
/-- what the start says of single cells -/
def zrow (k n : Nat) : Prop := ∃ kd : Nat, kd < 3 ∧ S0.2.2.2.1[k]? = some (.inr (.inl (kd, n, ((0, 0), []))))
theorem z_row {h9 : List cC} (hf : ∀ (k : Nat) (c : eC), S0.2.2.2.1[k]? = some c → ∃ d : cC, h9[k]? = some d ∧ cFit c d) {k n : Nat} (hz : zrow k n) : ∃ (kd : Nat) (f : Nat → Int32), h9[k]? = some (.inr (.inl (kd, n, f))) ∧ ∀ j : Nat, j < n → f j = 0 := by
  obtain ⟨kd, hk, h1⟩ := hz
  obtain ⟨d, h2, h3⟩ := hf k _ h1
  rcases h3 with ⟨_, f, f1, f2⟩ | ⟨f0, _⟩
  · refine ⟨kd, f, by rw [h2, f1], fun j hj => Int32.toInt_inj.mp ?_⟩
    have := f2 j hj
    have g1 : (0 : Int) ≤ (f j).toInt := this.1
    have g2 : (f j).toInt ≤ (0 : Int) := this.2
    show (f j).toInt = 0
    omega
  · omega
theorem z_fld {h9 : List cC} (hf : ∀ (k : Nat) (c : eC), S0.2.2.2.1[k]? = some c → ∃ d : cC, h9[k]? = some d ∧ cFit c d) {k ci : Nat} {a b c0 c1 : eV} {fs : List eV} (hz : S0.2.2.2.1[k]? = some (.inl (ci, a :: b :: c0 :: c1 :: .inr (.inl (0, 0)) :: fs))) : fI h9 k 4 = some 0 := by
  obtain ⟨d, h2, vs, h3, h4⟩ := hf k _ hz
  match vs, h4 with
  | v0 :: v1 :: w0 :: w1 :: v2 :: vs, ⟨_, _, _, _, ⟨x, x1, x2⟩, _⟩ =>
    subst x1
    have g1 : (0 : Int) ≤ x.toInt := x2.1
    have g2 : x.toInt ≤ (0 : Int) := x2.2
    have e : x = 0 := Int32.toInt_inj.mp (by show x.toInt = 0; omega)
    subst e
    exact fI_at (by rw [h2, h3]) rfl
theorem INV_0 {h9 : List cC} (hl : h9.length = S0.2.2.2.1.length) (hf : ∀ (k : Nat) (c : eC), S0.2.2.2.1[k]? = some c → ∃ d : cC, h9[k]? = some d ∧ cFit c d) : INV h9 := by
  obtain ⟨t1, t2⟩ := hT9_ok S0_T
  refine ⟨⟨hl.trans t1, fun k t hk => ?_⟩, ⟨fun k hk kd n f hkf => ?_, fun f g c e1 e2 e3 t j ht hj hlt => ?_⟩, ⟨0, z_fld hf rfl, ?_⟩, fun k hk => ⟨0, ?_, ?_, Or.inl rfl⟩⟩
  · obtain ⟨c, h1, h2⟩ := t2 k t hk
    obtain ⟨d, h3, h4⟩ := hf k c h1
    exact ⟨d, h3, cT9_ok h2 h4⟩
  · have hz : zrow (k + 1) 400 := by
      unfold lawK at hk
      simp only [List.mem_cons, List.not_mem_nil, or_false] at hk
      rcases hk with rfl | rfl | rfl | rfl | rfl | rfl <;> exact ⟨0, by decide, rfl⟩
    obtain ⟨kd', f', h1, h2⟩ := z_row hf hz
    rw [hkf] at h1
    cases h1
    intro i hi hq
    rw [h2 i hi] at hq
    exact absurd hq (by decide)
  · obtain ⟨kd', f', h1, h2⟩ := z_row hf (k := 175) (n := 6) ⟨0, by decide, rfl⟩
    rw [e3] at h1
    cases h1
    rw [h2 t ht] at hlt
    have : ((0 : Int32).toInt) = 0 := rfl
    omega
  · obtain ⟨d, h2, h3⟩ := hf 183 _ rfl
    rcases h3 with ⟨_, f, f1, f2⟩ | ⟨f0, _⟩
    · have := f2 6 (by decide)
      have g1 : (0 : Int) ≤ (f 6).toInt := this.1
      have g2 : (f 6).toInt ≤ (0 : Int) := this.2
      have e : f 6 = 0 := Int32.toInt_inj.mp (by show (f 6).toInt = 0; omega)
      rw [f1] at h2
      rw [rE_at 6 h2, e]
    · exact absurd f0 (by decide)
  · obtain ⟨kd', f', h1, h2⟩ := z_row hf (k := 78) (n := 4) ⟨2, by decide, rfl⟩
    rw [rE_at k h1, h2 k hk]
  · obtain ⟨kd', f', h1, h2⟩ := z_row hf (k := 204) (n := 4) ⟨2, by decide, rfl⟩
    rw [rE_at k h1, h2 k hk]
theorem IV2_0 {h9 : List cC} (hl : h9.length = S0.2.2.2.1.length) (hf : ∀ (k : Nat) (c : eC), S0.2.2.2.1[k]? = some c → ∃ d : cC, h9[k]? = some d ∧ cFit c d) : IV2 h9 := by
  have hi := INV_0 hl hf
  refine ⟨hi.1, hi, fun f hf' t ht => ?_, fun g hg' k hk t ht => ?_⟩
  · obtain ⟨d, h2, h3⟩ := hf 183 _ rfl
    rcases h3 with ⟨_, f', f1, f2⟩ | ⟨f0, _⟩
    · rw [hf'] at h2
      have h2 := Option.some.inj h2
      rw [f1] at h2
      cases h2
      have g2 : (f 0).toInt ≤ (0 : Int) := (f2 0 (by decide)).2
      omega
    · exact absurd f0 (by decide)
  · obtain ⟨kd', g', h1, h2⟩ := z_row hf (k := 203) (n := 920) ⟨0, by decide, rfl⟩
    rw [hg'] at h1
    cases h1
    have e : g (230 * k + 0) = 0 := h2 (230 * k + 0) (by omega)
    have e0 : (0 : Int32).toInt = 0 := rfl
    dsimp only at ht
    rw [e] at ht
    omega
