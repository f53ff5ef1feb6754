/-! THE ENGINE, 5: rows for instructions that read, write or make cells (printed by wip/engine/gen15.py) -/
theorem gS_get {al : List Nat} {oe : Nat → Nat} : ∀ {as : List eV} {vs : List Value} {i : Nat} {a : eV}, gS al oe as vs → as[i]? = some a → ∃ v : Value, vs[i]? = some v ∧ gV al oe a v
  | [], [], i, a, _, h => by simp at h
  | b :: as, v :: vs, 0, a, g, h => by
    rw [List.getElem?_cons_zero] at h
    cases h
    exact ⟨v, by rw [List.getElem?_cons_zero], g.1⟩
  | b :: as, v :: vs, i + 1, a, g, h => by
    rw [List.getElem?_cons_succ] at h
    obtain ⟨u, h1, h2⟩ := gS_get g.2 h
    exact ⟨u, by rw [List.getElem?_cons_succ]; exact h1, h2⟩
  | [], _ :: _, _, _, g, _ => g.elim
  | _ :: _, [], _, _, g, _ => g.elim
theorem gS_set {al : List Nat} {oe : Nat → Nat} : ∀ {as : List eV} {vs : List Value} {i : Nat} {a : eV} {v : Value}, gS al oe as vs → gV al oe a v → gS al oe (as.set i a) (vs.set i v)
  | [], [], i, a, v, _, _ => trivial
  | b :: as, u :: vs, 0, a, v, g, h => ⟨h, g.2⟩
  | b :: as, u :: vs, i + 1, a, v, g, h => ⟨g.1, gS_set g.2 h⟩
  | [], _ :: _, _, _, _, g, _ => g.elim
  | _ :: _, [], _, _, _, g, _ => g.elim
theorem gS_len {al : List Nat} {oe : Nat → Nat} : ∀ {as : List eV} {vs : List Value}, gS al oe as vs → as.length = vs.length
  | [], [], _ => rfl
  | b :: as, u :: vs, g => by rw [List.length_cons, List.length_cons, gS_len g.2]
  | [], _ :: _, g => g.elim
  | _ :: _, [], g => g.elim
theorem gS_app {al : List Nat} {oe : Nat → Nat} : ∀ {as bs : List eV} {us vs : List Value}, gS al oe as us → gS al oe bs vs → gS al oe (as ++ bs) (us ++ vs)
  | [], bs, [], vs, _, h => h
  | a :: as, bs, u :: us, vs, g, h => ⟨g.1, gS_app g.2 h⟩
  | [], _, _ :: _, _, g, _ => g.elim
  | _ :: _, _, [], _, g, _ => g.elim
theorem gS_rev {al : List Nat} {oe : Nat → Nat} : ∀ {as : List eV} {us : List Value}, gS al oe as us → gS al oe as.reverse us.reverse
  | [], [], _ => trivial
  | a :: as, u :: us, g => by
    rw [List.reverse_cons, List.reverse_cons]
    exact gS_app (gS_rev g.2) ⟨g.1, trivial⟩
  | [], _ :: _, g => g.elim
  | _ :: _, [], g => g.elim
/-- the cell at a place of the world -/
theorem gW_at {tys : List (ClassId × FieldType)} {oe : Nat → Nat} {h : List eC} {ws : va_W} (g : gW tys oe h ws) {k x : Nat} {c : eC} (hh : h[k]? = some c) (hx : (adr ws)[k]? = some x) : ∃ e : va_E, ws[k]? = some (x, e) ∧ gC tys (adr ws) oe c e := by
  obtain ⟨a, e, h1, h2⟩ := g.2 k c hh
  have h3 := adr_at h1
  rw [h3] at hx
  cases hx
  exact ⟨e, h1, h2⟩
/-- how many fields, and what they hold in a new object -/
def dV : FieldType → eV
  | .long => eJ (0, 0)
  | .int => eI (0, 0)
  | .boolean => eI (0, 0)
  | .byte => eI (0, 0)
  | .char => eI (0, 0)
  | .short => eI (0, 0)
  | _ => .inl none
theorem vp_of_bt {i : Int32} {a : eP} {n : Nat} (hi : bt2 a i.toInt) (h : (iLe 0 a.1 && iLt a.2 (Int.ofNat n)) = true) (hn : n < 2147483648) : vp_in i n ∧ i.toNatClampNeg = i.toInt.toNat ∧ i.toInt.toNat < n := by
  simp only [Bool.and_eq_true, iLe_ok, iLt_ok] at h
  have h1 := hi.1
  have h2 := hi.2
  have h3 : Int.ofNat n = (n : Int) := rfl
  refine ⟨vp_in_iff.mpr ⟨by omega, by omega⟩, rfl, by omega⟩
section

variable {p : Program} {l : Launch} {e : Env} {R : Room} {s : State} {m : MethodId} {args : Array Value} {below : List Frame} {meth : Method} {c : Code} {Q : State → Prop} {D : va_G} {A : Nat → Prop} {al0 : List Nat} {oe : Nat → Nat} {nL : Nat} {cc : ByteArray} {pc cl sl : Nat} {ls : List (Nat × eV)} {st : List eV} {h : List eC}
theorem q_get (hx : p.tables.exec = Jvm.exec) (hb : c.code = cc) (hts : ∀ w ∈ gtbl, w.before args s = true) {own : String} (hown : s.vm.findClass own = some m.cls) {index ci k0 fi N : Nat} {C : String} {T : u_T} {fs : List eV} {a : eV} (hc : classes[ci]? = some (C, T, N)) (hfi : fi < N) (hlink : Cond.fieldLink own index C (T fi).2.1 (T fi).2.2.1 ∈ gtbl) (hh : h[k0]? = some (.inl (ci, fs))) (hf : fs[fi]? = some a) (hd : decode cc pc = .ok (.getfield index, 3)) (k : eK p l e R s m args below meth c Q D A al0 oe nL (pc + 3) ls (a :: st) h cl sl) : eK p l e R s m args below meth c Q D A al0 oe nL pc ls (eR k0 :: st) h cl sl := by
  intro H locs lsC stC g
  obtain ⟨ws, tys, hK, hP, hD, hS, ha, hW, ⟨lv, hl, hL⟩, hst⟩ := g
  match stC, hst with
  | _ :: stC, ⟨⟨x, hxa, rfl⟩, hst⟩ =>
    obtain ⟨e1, hw, vs, rfl, hg⟩ := gW_at hW hh hxa
    obtain ⟨v, hv, gv⟩ := gS_get hg hf
    obtain ⟨hin, -, -, -, -, hdecl⟩ := clOK ci C T N hc
    exact va_get hx hb hts hin hown hK hP k0 hw hc fi hfi (hts _ hlink) (fun z hz => by rw [← hdecl fi hfi]; exact hz) hv hd (k H locs lsC _ ⟨ws, tys, hK, hP, hD, hS, ha, hW, ⟨lv, hl, hL⟩, gv, hst⟩)
theorem q_getN (hx : p.tables.exec = Jvm.exec) (hb : c.code = cc) (hts : ∀ w ∈ gtbl, w.before args s = true) {own host : String} (hown : s.vm.findClass own = some m.cls) {index ci k0 fi N : Nat} {C : String} {T : u_T} {fs : List eV} {a : eV} (hc : classes[ci]? = some (C, T, N)) (hfi : fi < N) (hlink : va_Nw (.fieldLinkNest own index C (T fi).2.1 (T fi).2.2.1 host) s) (hh : h[k0]? = some (.inl (ci, fs))) (hf : fs[fi]? = some a) (hd : decode cc pc = .ok (.getfield index, 3)) (k : eK p l e R s m args below meth c Q D A al0 oe nL (pc + 3) ls (a :: st) h cl sl) : eK p l e R s m args below meth c Q D A al0 oe nL pc ls (eR k0 :: st) h cl sl := by
  intro H locs lsC stC g
  obtain ⟨ws, tys, hK, hP, hD, hS, ha, hW, ⟨lv, hl, hL⟩, hst⟩ := g
  match stC, hst with
  | _ :: stC, ⟨⟨x, hxa, rfl⟩, hst⟩ =>
    obtain ⟨e1, hw, vs, rfl, hg⟩ := gW_at hW hh hxa
    obtain ⟨v, hv, gv⟩ := gS_get hg hf
    obtain ⟨hin, -, -, -, -, hdecl⟩ := clOK ci C T N hc
    exact va_getN (host := host) hx hb hts hin hown hK hP k0 hw hc fi hfi (hlink.use rfl) (fun z hz => by rw [← hdecl fi hfi]; exact hz) hv hd (k H locs lsC _ ⟨ws, tys, hK, hP, hD, hS, ha, hW, ⟨lv, hl, hL⟩, gv, hst⟩)
/-- may the value stand in a field of that type? -/
def okT (ty : FieldType) (a : eV) : Bool := match ty, a with
  | .int, .inr (.inl _) => true
  | .long, .inr (.inr (.inl _)) => true
  | .object _, .inl (some _) => true
  | .array _, .inl (some _) => true
  | _, _ => false
theorem okT_ok {al : List Nat} {ty : FieldType} {a : eV} {v : Value} (g : gV al oe a v) (hr : okT ty a = true) : narrow ty v = v ∧ fits ty v = true := by
  match ty, a, g with
  | .int, .inr (.inl _), ⟨x, hv, _⟩ => cases hv; exact ⟨rfl, rfl⟩
  | .long, .inr (.inr (.inl _)), ⟨x, hv, _⟩ => cases hv; exact ⟨rfl, rfl⟩
  | .object _, .inl (some _), ⟨x, _, hv⟩ => cases hv; exact ⟨rfl, rfl⟩
  | .array _, .inl (some _), ⟨x, _, hv⟩ => cases hv; exact ⟨rfl, rfl⟩

theorem q_put (hx : p.tables.exec = Jvm.exec) (hb : c.code = cc) (hts : ∀ w ∈ gtbl, w.before args s = true) {own host : String} (hown : s.vm.findClass own = some m.cls) {index ci k0 fi N : Nat} {C : String} {T : u_T} {fs : List eV} {a a0 : eV} {ty : FieldType} (hc : classes[ci]? = some (C, T, N)) (hfi : fi < N) (hlink : Cond.fieldLink own index C (T fi).2.1 (T fi).2.2.1 ∈ gtbl) (hfin : (T fi).2.2.2 = false) (hpd : parseFieldDescriptor (T fi).2.2.1 = some ty) (hok : okT ty a = true) (hh : h[k0]? = some (.inl (ci, fs))) (hf : fs[fi]? = some a0) (hd : decode cc pc = .ok (.putfield index, 3)) (k : eK p l e R s m args below meth c Q D A al0 oe nL (pc + 3) ls st (h.set k0 (.inl (ci, fs.set fi a))) cl sl) : eK p l e R s m args below meth c Q D A al0 oe nL pc ls (a :: eR k0 :: st) h cl sl := by
  intro H locs lsC stC g
  obtain ⟨ws, tys, hK, hP, hD, hS, ha, hW, ⟨lv, hl, hL⟩, hst⟩ := g
  match stC, hst with
  | v :: _ :: stC, ⟨gv, ⟨x, hxa, rfl⟩, hst⟩ =>
    obtain ⟨e1, hw, vs, rfl, hg⟩ := gW_at hW hh hxa
    obtain ⟨hin, ⟨ty0, hty⟩, hnm, -, -, hdecl⟩ := clOK ci C T N hc
    exact va_put (ty := ty) hx hb hts hin ty0 hty hnm hown hK hP hD hS k0 hw hc fi hfi (hts _ hlink) (fun z hz => by rw [← hdecl fi hfi]; exact hz) hfin hpd (okT_ok gv hok).1 (okT_ok gv hok).2 (by rw [← gS_len hg]; exact (List.getElem?_eq_some_iff.mp hf).1) hd (fun H1 locs1 hP1 hD1 hS1 => k H1 locs1 lsC _ ⟨_, tys, hK, hP1, hD1, hS1, by rw [adr_set hw]; exact ha, gW_set hW hw ⟨_, rfl, gS_set hg gv⟩, ⟨lv, hl, by rw [adr_set hw]; exact hL⟩, by rw [adr_set hw]; exact hst⟩)
theorem q_putN (hx : p.tables.exec = Jvm.exec) (hb : c.code = cc) (hts : ∀ w ∈ gtbl, w.before args s = true) {own host : String} (hown : s.vm.findClass own = some m.cls) {index ci k0 fi N : Nat} {C : String} {T : u_T} {fs : List eV} {a a0 : eV} {ty : FieldType} (hc : classes[ci]? = some (C, T, N)) (hfi : fi < N) (hlink : va_Nw (.fieldLinkNest own index C (T fi).2.1 (T fi).2.2.1 host) s) (hfin : (T fi).2.2.2 = false) (hpd : parseFieldDescriptor (T fi).2.2.1 = some ty) (hok : okT ty a = true) (hh : h[k0]? = some (.inl (ci, fs))) (hf : fs[fi]? = some a0) (hd : decode cc pc = .ok (.putfield index, 3)) (k : eK p l e R s m args below meth c Q D A al0 oe nL (pc + 3) ls st (h.set k0 (.inl (ci, fs.set fi a))) cl sl) : eK p l e R s m args below meth c Q D A al0 oe nL pc ls (a :: eR k0 :: st) h cl sl := by
  intro H locs lsC stC g
  obtain ⟨ws, tys, hK, hP, hD, hS, ha, hW, ⟨lv, hl, hL⟩, hst⟩ := g
  match stC, hst with
  | v :: _ :: stC, ⟨gv, ⟨x, hxa, rfl⟩, hst⟩ =>
    obtain ⟨e1, hw, vs, rfl, hg⟩ := gW_at hW hh hxa
    obtain ⟨hin, ⟨ty0, hty⟩, hnm, -, -, hdecl⟩ := clOK ci C T N hc
    exact va_putN (host := host) (ty := ty) hx hb hts hin ty0 hty hnm hown hK hP hD hS k0 hw hc fi hfi (hlink.use rfl) (fun z hz => by rw [← hdecl fi hfi]; exact hz) hfin hpd (okT_ok gv hok).1 (okT_ok gv hok).2 (by rw [← gS_len hg]; exact (List.getElem?_eq_some_iff.mp hf).1) hd (fun H1 locs1 hP1 hD1 hS1 => k H1 locs1 lsC _ ⟨_, tys, hK, hP1, hD1, hS1, by rw [adr_set hw]; exact ha, gW_set hW hw ⟨_, rfl, gS_set hg gv⟩, ⟨lv, hl, by rw [adr_set hw]; exact hL⟩, by rw [adr_set hw]; exact hst⟩)
theorem q_putF (hx : p.tables.exec = Jvm.exec) (hb : c.code = cc) (hts : ∀ w ∈ gtbl, w.before args s = true) {own host : String} (hown : s.vm.findClass own = some m.cls) {index ci k0 fi N : Nat} {C : String} {T : u_T} {fs : List eV} {a a0 : eV} {ty : FieldType} (hin2 : meth.name = "<init>") (hCo : C = own) (hc : classes[ci]? = some (C, T, N)) (hfi : fi < N) (hlink : Cond.fieldLink own index C (T fi).2.1 (T fi).2.2.1 ∈ gtbl) (hfin : (T fi).2.2.2 = true) (hpd : parseFieldDescriptor (T fi).2.2.1 = some ty) (hok : okT ty a = true) (hh : h[k0]? = some (.inl (ci, fs))) (hf : fs[fi]? = some a0) (hd : decode cc pc = .ok (.putfield index, 3)) (k : eK p l e R s m args below meth c Q D A al0 oe nL (pc + 3) ls st (h.set k0 (.inl (ci, fs.set fi a))) cl sl) : eK p l e R s m args below meth c Q D A al0 oe nL pc ls (a :: eR k0 :: st) h cl sl := by
  intro H locs lsC stC g
  obtain ⟨ws, tys, hK, hP, hD, hS, ha, hW, ⟨lv, hl, hL⟩, hst⟩ := g
  match stC, hst with
  | v :: _ :: stC, ⟨gv, ⟨x, hxa, rfl⟩, hst⟩ =>
    obtain ⟨e1, hw, vs, rfl, hg⟩ := gW_at hW hh hxa
    obtain ⟨hin, ⟨ty0, hty⟩, hnm, -, -, hdecl⟩ := clOK ci C T N hc
    exact va_putF (ty := ty) hx hb hts hin ty0 hty hnm hown hK hP hD hS k0 hw hc fi hfi (hts _ hlink) (fun z hz => by rw [← hdecl fi hfi]; exact hz) hfin hin2 (by rw [hdecl fi hfi]; exact hCo) hpd (okT_ok gv hok).1 (okT_ok gv hok).2 (by rw [← gS_len hg]; exact (List.getElem?_eq_some_iff.mp hf).1) hd (fun H1 locs1 hP1 hD1 hS1 => k H1 locs1 lsC _ ⟨_, tys, hK, hP1, hD1, hS1, by rw [adr_set hw]; exact ha, gW_set hW hw ⟨_, rfl, gS_set hg gv⟩, ⟨lv, hl, by rw [adr_set hw]; exact hL⟩, by rw [adr_set hw]; exact hst⟩)
def okD : FieldType → Bool
  | .float => false
  | .double => false
  | _ => true
theorem gS_def {al : List Nat} (ty : Nat → FieldType) (hty : ∀ k, okD (ty k) = true) : ∀ (N : Nat) (fs : List eV), fs = (List.range N).map (fun k => dV (ty k)) → gS al oe fs ((List.range N).map (fun k => defaultValue (ty k))) := by
  intro N fs e
  subst e
  induction N with
  | zero => trivial
  | succ n ih =>
    rw [List.range_succ, List.map_append, List.map_append]
    refine gS_app ih ⟨?_, trivial⟩
    dsimp only
    have hn := hty n
    generalize ty n = t at hn ⊢
    cases t with
    | float => cases hn
    | double => cases hn
    | int => exact ⟨0, rfl, by decide, by decide⟩
    | long => exact ⟨0, rfl, by decide, by decide⟩
    | byte => exact ⟨0, rfl, by decide, by decide⟩
    | boolean => exact ⟨0, rfl, by decide, by decide⟩
    | char => exact ⟨0, rfl, by decide, by decide⟩
    | short => exact ⟨0, rfl, by decide, by decide⟩
    | object C => exact rfl
    | array t => exact rfl
theorem okD_get {tyl : List FieldType} (h : tyl.all okD = true) (k : Nat) : okD (tyl.getD k .int) = true := by
  show okD (tyl[k]?.getD .int) = true
  cases hk : tyl[k]? with
  | none => rfl
  | some t => exact List.all_eq_true.mp h t (List.mem_of_getElem? hk)
theorem q_new (hx : p.tables.exec = Jvm.exec) (hb : c.code = cc) (hts : ∀ w ∈ gtbl, w.before args s = true) {own : String} (hown : s.vm.findClass own = some m.cls) (hA : ∀ q, s.heap.size ≤ q → A q) {index ci N : Nat} {C : String} {T : u_T} (tyl : List FieldType) (hc : classes[ci]? = some (C, T, N)) (hlink : Cond.classLink own index C ∈ gtbl) (htl : ∀ k, k < N → parseFieldDescriptor (T k).2.2.1 = some (tyl.getD k .int)) (hod : tyl.all okD = true) (hcells : cl + 1 ≤ R.cells) (hslots : sl + N ≤ R.slots) (hd : decode cc pc = .ok (.new index, 3)) (k : eK p l e R s m args below meth c Q D A al0 oe nL (pc + 3) ls (eR h.length :: st) (h ++ [.inl (ci, (List.range N).map (fun k => dV (tyl.getD k .int)))]) (cl + 1) (sl + N)) : eK p l e R s m args below meth c Q D A al0 oe nL pc ls st h cl sl := by
  intro H locs lsC stC g
  obtain ⟨ws, tys, hK, hP, hD, hS, ha, hW, ⟨lv, hl, hL⟩, hst⟩ := g
  obtain ⟨hin, -, -, hins, hini, hdecl⟩ := clOK ci C T N hc
  refine va_new (fs := (List.range N).map (fun k => defaultValue (tyl.getD k .int))) hx hb hts hin (fun k => tyl.getD k .int) htl hown (hts _ hlink) (hts _ hins) (hts _ hini) hK hP hD hS hA hc (fun j hj => ?_) hcells hslots hd (fun q H1 hP1 hD1 hS1 => k H1 locs lsC _ ⟨_, tys, hK, hP1, hD1, hS1, ha.trans (adr_pre ws q _), gW_push hW (List.prefix_refl _) ⟨_, rfl, gS_def _ (okD_get hod) N _ rfl⟩, ⟨lv, hl, gL_mono (adr_pre ws q _) hL⟩, ⟨q, by rw [hW.1]; exact adr_new ws q _, rfl⟩, gS_mono (adr_pre ws q _) hst⟩)
  show defaultValue (tyl.getD j .int) = ((List.range N).map (fun k => defaultValue (tyl.getD k .int)))[j]?.getD .null
  rw [List.getElem?_map, List.getElem?_range hj]
  rfl
def zA : eA := ((0, 0), [])
def aK : ArrayType → Option Nat
  | .int => some 0
  | .byte => some 1
  | .boolean => some 2
  | .long => some 3
  | _ => none
theorem q_newa (hx : p.tables.exec = Jvm.exec) (hb : c.code = cc) (hts : ∀ w ∈ gtbl, w.before args s = true) (hA : ∀ q, s.heap.size ≤ q → A q) {t : ArrayType} {kd n : Nat} {a : eP} (hk : aK t = some kd) (ho : onePos a = true) (hn : a.1.toNat = n) (hlim : n < 50000000) (hac : Cond.arrayClass (newarray.typeOf t) ∈ gtbl) (hcells : cl + 1 ≤ R.cells) (hslots : sl + n ≤ R.slots) (hd : decode cc pc = .ok (.newarray t, 2)) (k : eK p l e R s m args below meth c Q D A al0 oe nL (pc + 2) ls (eR h.length :: st) (h ++ [.inr (.inl (kd, n, zA))]) (cl + 1) (sl + n)) : eK p l e R s m args below meth c Q D A al0 oe nL pc ls (eI a :: st) h cl sl := by
  intro H locs lsC stC g
  obtain ⟨ws, tys, hK, hP, hD, hS, ha, hW, ⟨lv, hl, hL⟩, hst⟩ := g
  match stC, hst with
  | _ :: stC, ⟨⟨x, rfl, hx2⟩, hst⟩ =>
    obtain ⟨ex, px, lx, fx⟩ := onePos_ok ho hx2
    have hneg : ¬ x < 0 := by rw [Int32.lt_iff_toInt_lt]; show ¬ x.toInt < 0; omega
    have hcl : x.toNatClampNeg = n := by rw [fx, nI_clamp (by omega)]; exact hn
    have fin : ∀ (a0 : vp_A) (ty : FieldType), newarray.typeOf t = ty → (∀ cA : ClassId, vp_cell cA a0 = arrV cA n (fun _ => defaultValue ty)) → n * componentBytes ty ≤ 536870912 → (∀ (tys2 : List (ClassId × FieldType)) (al : List Nat) (cA : ClassId), (∃ t0 : Nat, tys2[t0]? = some (cA, ty)) → gC tys2 al oe (.inr (.inl (kd, n, zA))) (.inl (cA, a0))) → W p l e R s m args below meth c H locs cl sl Q (F0 m pc lsC (.int x :: stC)) := by
      intro a0 ty hty hcell hby hg
      refine va_newa hx hb (hts _ hac) hty hK hP hD hS hA hcell hneg hcl hby hcells hslots hd (fun q cA H1 hK1 hP1 hD1 hS1 => k H1 locs lsC _ ⟨_, _, hK1, hP1, hD1, hS1, ha.trans (adr_pre ws q _), gW_push hW (List.prefix_append _ _) (hg _ _ _ ⟨tys.length, by rw [List.getElem?_append_right (Nat.le_refl _), Nat.sub_self]; rfl⟩), ⟨lv, hl, gL_mono (adr_pre ws q _) hL⟩, ⟨q, by rw [hW.1]; exact adr_new ws q _, rfl⟩, gS_mono (adr_pre ws q _) hst⟩)
    have z0 : ∀ j : Nat, bt2 (aLook zA.2 zA.1 j) (0 : Int32).toInt := fun j => (⟨by decide, by decide⟩ : bt2 (0, 0) (0 : Int32).toInt)
    have z1 : ∀ j : Nat, bt2 (aLook zA.2 zA.1 j) (0 : Int64).toInt := fun j => (⟨by decide, by decide⟩ : bt2 (0, 0) (0 : Int64).toInt)
    cases t with
    | int => cases hk; exact fin (n, .inl (fun _ => 0)) .int rfl (fun _ => rfl) (by show n * 4 ≤ _; omega) (fun tys2 al cA ht => ⟨cA, ht, by omega, Or.inl ⟨by decide, _, rfl, fun j _ => z0 j⟩⟩)
    | byte => cases hk; exact fin (n, .inl (fun _ => 0)) .byte rfl (fun _ => rfl) (by show n * 1 ≤ _; omega) (fun tys2 al cA ht => ⟨cA, ht, by omega, Or.inl ⟨by decide, _, rfl, fun j _ => z0 j⟩⟩)
    | boolean => cases hk; exact fin (n, .inl (fun _ => 0)) .boolean rfl (fun _ => rfl) (by show n * 1 ≤ _; omega) (fun tys2 al cA ht => ⟨cA, ht, by omega, Or.inl ⟨by decide, _, rfl, fun j _ => z0 j⟩⟩)
    | long => cases hk; exact fin (n, .inr (.inl (fun _ => 0))) .long rfl (fun _ => rfl) (by show n * 8 ≤ _; omega) (fun tys2 al cA ht => ⟨cA, ht, by omega, Or.inr ⟨rfl, _, rfl, fun j _ => z1 j⟩⟩)
    | char => cases hk
    | float => cases hk
    | double => cases hk
    | short => cases hk
theorem q_newq (hx : p.tables.exec = Jvm.exec) (hb : c.code = cc) (hts : ∀ w ∈ gtbl, w.before args s = true) {own : String} (hown : s.vm.findClass own = some m.cls) (hA : ∀ q, s.heap.size ≤ q → A q) {index ci n N : Nat} {C : String} {T : u_T} {a : eP} (hc : classes[ci]? = some (C, T, N)) (hlink : Cond.classLink own index C ∈ gtbl) (hao : va_AO C s) (ho : onePos a = true) (hn : a.1.toNat = n) (hlim : n < 50000000) (hcells : cl + 1 ≤ R.cells) (hslots : sl + n ≤ R.slots) (hd : decode cc pc = .ok (.anewarray index, 3)) (k : eK p l e R s m args below meth c Q D A al0 oe nL (pc + 3) ls (eR h.length :: st) (h ++ [.inr (.inr (ci, n, List.replicate n none))]) (cl + 1) (sl + n)) : eK p l e R s m args below meth c Q D A al0 oe nL pc ls (eI a :: st) h cl sl := by
  intro H locs lsC stC g
  obtain ⟨ws, tys, hK, hP, hD, hS, ha, hW, ⟨lv, hl, hL⟩, hst⟩ := g
  match stC, hst with
  | _ :: stC, ⟨⟨x, rfl, hx2⟩, hst⟩ =>
    obtain ⟨ex, px, lx, fx⟩ := onePos_ok ho hx2
    have hneg : ¬ x < 0 := by rw [Int32.lt_iff_toInt_lt]; show ¬ x.toInt < 0; omega
    have hcl : x.toNatClampNeg = n := by rw [fx, nI_clamp (by omega)]; exact hn
    refine va_newq hx hb hown (hts _ hlink) hao hK hP hD hS hA hneg hcl (by omega) hcells hslots hd (fun q cA H1 hK1 hP1 hD1 hS1 => k H1 locs lsC _ ⟨_, _, hK1, hP1, hD1, hS1, ha.trans (adr_pre ws q _), gW_push hW (List.prefix_append _ _) ⟨cA, (C, T, N), _, hc, ⟨tys.length, by rw [List.getElem?_append_right (Nat.le_refl _), Nat.sub_self]; rfl⟩, by omega, rfl, fun j hj => ?_⟩, ⟨lv, hl, gL_mono (adr_pre ws q _) hL⟩, ⟨q, by rw [hW.1]; exact adr_new ws q _, rfl⟩, gS_mono (adr_pre ws q _) hst⟩)
    have e : (List.replicate n (none : Option Nat)).getD j none = none := by
      show (List.replicate n (none : Option Nat))[j]?.getD none = none
      rw [List.getElem?_replicate]
      split <;> rfl
    rw [e]
    rfl
theorem q_alen (hx : p.tables.exec = Jvm.exec) (hb : c.code = cc) {k0 kd n : Nat} {q : eA} (hh : h[k0]? = some (.inr (.inl (kd, n, q)))) (hd : decode cc pc = .ok (.arraylength, 1)) (k : eK p l e R s m args below meth c Q D A al0 oe nL (pc + 1) ls (eI (Int.ofNat n, Int.ofNat n) :: st) h cl sl) : eK p l e R s m args below meth c Q D A al0 oe nL pc ls (eR k0 :: st) h cl sl := by
  intro H locs lsC stC g
  obtain ⟨ws, tys, hK, hP, hD, hS, ha, hW, ⟨lv, hl, hL⟩, hst⟩ := g
  match stC, hst with
  | _ :: stC, ⟨⟨x, hxa, rfl⟩, hst⟩ =>
    obtain ⟨e1, hw, cA, ⟨t0, ht⟩, hn, hg⟩ := gW_at hW hh hxa
    have hv : bt2 (Int.ofNat n, Int.ofNat n) (Int32.ofNat n).toInt := by
      rw [Int32.toInt_ofNat_of_lt (by omega)]
      exact ⟨Int.le_refl _, Int.le_refl _⟩
    rcases hg with ⟨hk3, f, rfl, hf⟩ | ⟨hk3, f, rfl, hf⟩
    · exact va_alen hx hb hK hP k0 t0 hw ht rfl hd (k H locs lsC _ ⟨ws, tys, hK, hP, hD, hS, ha, hW, ⟨lv, hl, hL⟩, ⟨_, rfl, hv⟩, hst⟩)
    · exact va_alen hx hb hK hP k0 t0 hw ht rfl hd (k H locs lsC _ ⟨ws, tys, hK, hP, hD, hS, ha, hW, ⟨lv, hl, hL⟩, ⟨_, rfl, hv⟩, hst⟩)

theorem q_iald (hx : p.tables.exec = Jvm.exec) (hb : c.code = cc) {k0 n : Nat} {q : eA} {i : eP} (hh : h[k0]? = some (.inr (.inl (0, n, q)))) (hi : (iLe 0 i.1 && iLt i.2 (Int.ofNat n)) = true) (hd : decode cc pc = .ok (.iaload, 1)) (k : eK p l e R s m args below meth c Q D A al0 oe nL (pc + 1) ls (eI (aGet q i) :: st) h cl sl) : eK p l e R s m args below meth c Q D A al0 oe nL pc ls (eI i :: eR k0 :: st) h cl sl := by
  intro H locs lsC stC g
  obtain ⟨ws, tys, hK, hP, hD, hS, ha, hW, ⟨lv, hl, hL⟩, hst⟩ := g
  match stC, hst with
  | _ :: _ :: stC, ⟨⟨y, rfl, hy⟩, ⟨x, hxa, rfl⟩, hst⟩ =>
    obtain ⟨e1, hw, cA, ⟨t0, ht⟩, hn, hg⟩ := gW_at hW hh hxa
    obtain ⟨hv1, hv2, hv3⟩ := vp_of_bt hy hi hn
    rcases hg with ⟨hk3, f, rfl, hf⟩ | ⟨hk3, f, rfl, hf⟩
    · exact va_iald hx hb hK hP k0 t0 hw ht hv1 hd (k H locs lsC _ ⟨ws, tys, hK, hP, hD, hS, ha, hW, ⟨lv, hl, hL⟩, ⟨_, rfl, aGet_ok hy (by rw [hv2]; exact hf _ hv3)⟩, hst⟩)
    · cases hk3
theorem q_bald (hx : p.tables.exec = Jvm.exec) (hb : c.code = cc) {k0 n : Nat} {q : eA} {i : eP} (hh : h[k0]? = some (.inr (.inl (1, n, q)))) (hi : (iLe 0 i.1 && iLt i.2 (Int.ofNat n)) = true) (hd : decode cc pc = .ok (.baload, 1)) (k : eK p l e R s m args below meth c Q D A al0 oe nL (pc + 1) ls (eI (aGet q i) :: st) h cl sl) : eK p l e R s m args below meth c Q D A al0 oe nL pc ls (eI i :: eR k0 :: st) h cl sl := by
  intro H locs lsC stC g
  obtain ⟨ws, tys, hK, hP, hD, hS, ha, hW, ⟨lv, hl, hL⟩, hst⟩ := g
  match stC, hst with
  | _ :: _ :: stC, ⟨⟨y, rfl, hy⟩, ⟨x, hxa, rfl⟩, hst⟩ =>
    obtain ⟨e1, hw, cA, ⟨t0, ht⟩, hn, hg⟩ := gW_at hW hh hxa
    obtain ⟨hv1, hv2, hv3⟩ := vp_of_bt hy hi hn
    rcases hg with ⟨hk3, f, rfl, hf⟩ | ⟨hk3, f, rfl, hf⟩
    · exact va_bald hx hb hK hP k0 t0 hw ht hv1 hd (k H locs lsC _ ⟨ws, tys, hK, hP, hD, hS, ha, hW, ⟨lv, hl, hL⟩, ⟨_, rfl, aGet_ok hy (by rw [hv2]; exact hf _ hv3)⟩, hst⟩)
    · cases hk3
theorem q_zald (hx : p.tables.exec = Jvm.exec) (hb : c.code = cc) {k0 n : Nat} {q : eA} {i : eP} (hh : h[k0]? = some (.inr (.inl (2, n, q)))) (hi : (iLe 0 i.1 && iLt i.2 (Int.ofNat n)) = true) (hd : decode cc pc = .ok (.baload, 1)) (k : eK p l e R s m args below meth c Q D A al0 oe nL (pc + 1) ls (eI (aGet q i) :: st) h cl sl) : eK p l e R s m args below meth c Q D A al0 oe nL pc ls (eI i :: eR k0 :: st) h cl sl := by
  intro H locs lsC stC g
  obtain ⟨ws, tys, hK, hP, hD, hS, ha, hW, ⟨lv, hl, hL⟩, hst⟩ := g
  match stC, hst with
  | _ :: _ :: stC, ⟨⟨y, rfl, hy⟩, ⟨x, hxa, rfl⟩, hst⟩ =>
    obtain ⟨e1, hw, cA, ⟨t0, ht⟩, hn, hg⟩ := gW_at hW hh hxa
    obtain ⟨hv1, hv2, hv3⟩ := vp_of_bt hy hi hn
    rcases hg with ⟨hk3, f, rfl, hf⟩ | ⟨hk3, f, rfl, hf⟩
    · exact va_zald hx hb hK hP k0 t0 hw ht hv1 hd (k H locs lsC _ ⟨ws, tys, hK, hP, hD, hS, ha, hW, ⟨lv, hl, hL⟩, ⟨_, rfl, aGet_ok hy (by rw [hv2]; exact hf _ hv3)⟩, hst⟩)
    · cases hk3
theorem q_lald (hx : p.tables.exec = Jvm.exec) (hb : c.code = cc) {k0 n : Nat} {q : eA} {i : eP} (hh : h[k0]? = some (.inr (.inl (3, n, q)))) (hi : (iLe 0 i.1 && iLt i.2 (Int.ofNat n)) = true) (hd : decode cc pc = .ok (.laload, 1)) (k : eK p l e R s m args below meth c Q D A al0 oe nL (pc + 1) ls (eJ (aGet q i) :: st) h cl sl) : eK p l e R s m args below meth c Q D A al0 oe nL pc ls (eI i :: eR k0 :: st) h cl sl := by
  intro H locs lsC stC g
  obtain ⟨ws, tys, hK, hP, hD, hS, ha, hW, ⟨lv, hl, hL⟩, hst⟩ := g
  match stC, hst with
  | _ :: _ :: stC, ⟨⟨y, rfl, hy⟩, ⟨x, hxa, rfl⟩, hst⟩ =>
    obtain ⟨e1, hw, cA, ⟨t0, ht⟩, hn, hg⟩ := gW_at hW hh hxa
    obtain ⟨hv1, hv2, hv3⟩ := vp_of_bt hy hi hn
    rcases hg with ⟨hk3, f, rfl, hf⟩ | ⟨hk3, f, rfl, hf⟩
    · omega
    · exact va_lald hx hb hK hP k0 t0 hw ht hv1 hd (k H locs lsC _ ⟨ws, tys, hK, hP, hD, hS, ha, hW, ⟨lv, hl, hL⟩, ⟨_, rfl, aGet_ok hy (by rw [hv2]; exact hf _ hv3)⟩, hst⟩)
theorem upd_bt {q : eA} {i v : eP} {y x : Int32} {n : Nat} {f : Nat → Int32} (hy : bt2 i y.toInt) (hx : bt2 v x.toInt) (hc : y.toNatClampNeg = y.toInt.toNat) (hf : ∀ j, j < n → bt2 (aLook q.2 q.1 j) (f j).toInt) : ∀ j, j < n → bt2 (aLook (aSet q i v).2 (aSet q i v).1 j) (upd f y.toNatClampNeg x j).toInt := by
  intro j hj
  by_cases hjy : j = y.toInt.toNat
  · subst hjy
    rw [hc, pk_us]
    exact aSet_ok hy hx
  · rw [pk_un (by rw [hc]; exact hjy)]
    exact aSet_old hy hjy (hf j hj)
theorem updL_bt {q : eA} {i v : eP} {y : Int32} {x : Int64} {n : Nat} {f : Nat → Int64} (hy : bt2 i y.toInt) (hx : bt2 v x.toInt) (hc : y.toNatClampNeg = y.toInt.toNat) (hf : ∀ j, j < n → bt2 (aLook q.2 q.1 j) (f j).toInt) : ∀ j, j < n → bt2 (aLook (aSet q i v).2 (aSet q i v).1 j) (vp_updL f y.toNatClampNeg x j).toInt := by
  intro j hj
  by_cases hjy : j = y.toInt.toNat
  · subst hjy
    rw [hc, pk_uLs]
    exact aSet_ok hy hx
  · rw [pk_uLn (by rw [hc]; exact hjy)]
    exact aSet_old hy hjy (hf j hj)
def eZ (a : eP) : eP := match iLe 0 a.1 && iLe a.2 1 with
  | true => a
  | false => (0, 1)
theorem n_z {a : eP} {x : Int32} (ha : bt2 a x.toInt) : bt2 (eZ a) (vp_nar .boolean x).toInt := by
  have e0 : vp_nar .boolean x = x &&& 1 := rfl
  have h01 : bt2 (0, 1) (x &&& 1).toInt := by
    have h := n_and (a := f32) (b := (1, 1)) (in_f32 x) (y := 1) ⟨by decide, by decide⟩
    exact h
  rw [e0]
  unfold eZ
  cases hc : iLe 0 a.1 && iLe a.2 1 with
  | true =>
    simp only [Bool.and_eq_true, iLe_ok] at hc
    have h1 := ha.1; have h2 := ha.2
    have e : x &&& 1 = x := by
      have hcase : x.toInt = 0 ∨ x.toInt = 1 := by omega
      rcases hcase with z | z
      · have : x = 0 := Int32.toInt_inj.mp z
        subst this; rfl
      · have : x = 1 := Int32.toInt_inj.mp z
        subst this; rfl
    rw [e]
    exact ha
  | false => exact h01
theorem n_nb {a : eP} {x : Int32} (ha : bt2 a x.toInt) : bt2 (eB a) (vp_nar .byte x).toInt := n_b ha

theorem q_iast (hx : p.tables.exec = Jvm.exec) (hb : c.code = cc) {k0 n : Nat} {q : eA} {i v : eP} (hh : h[k0]? = some (.inr (.inl (0, n, q)))) (hi : (iLe 0 i.1 && iLt i.2 (Int.ofNat n)) = true) (hd : decode cc pc = .ok (.iastore, 1)) (k : eK p l e R s m args below meth c Q D A al0 oe nL (pc + 1) ls st (h.set k0 (.inr (.inl (0, n, aSet q i (v))))) cl sl) : eK p l e R s m args below meth c Q D A al0 oe nL pc ls (eI v :: eI i :: eR k0 :: st) h cl sl := by
  intro H locs lsC stC g
  obtain ⟨ws, tys, hK, hP, hD, hS, ha, hW, ⟨lv, hl, hL⟩, hst⟩ := g
  match stC, hst with
  | _ :: _ :: _ :: stC, ⟨⟨z, rfl, hx2⟩, ⟨y, rfl, hy⟩, ⟨x, hxa, rfl⟩, hst⟩ =>
    obtain ⟨e1, hw, cA, ⟨t0, ht⟩, hn, hg⟩ := gW_at hW hh hxa
    obtain ⟨hv1, hv2, hv3⟩ := vp_of_bt hy hi hn
    rcases hg with ⟨hk3, f, rfl, hf⟩ | ⟨hk3, f, rfl, hf⟩
    · exact va_iast hx hb hK hP hD hS k0 t0 hw ht hv1 hd (fun H1 locs1 hP1 hD1 hS1 => k H1 locs1 lsC _ ⟨_, tys, hK, hP1, hD1, hS1, by rw [adr_set hw]; exact ha, gW_set hW hw ⟨cA, ⟨t0, ht⟩, hn, Or.inl ⟨hk3, _, rfl, upd_bt hy (hx2) hv2 hf⟩⟩, ⟨lv, hl, by rw [adr_set hw]; exact hL⟩, by rw [adr_set hw]; exact hst⟩)
    · cases hk3
theorem q_bast (hx : p.tables.exec = Jvm.exec) (hb : c.code = cc) {k0 n : Nat} {q : eA} {i v : eP} (hh : h[k0]? = some (.inr (.inl (1, n, q)))) (hi : (iLe 0 i.1 && iLt i.2 (Int.ofNat n)) = true) (hd : decode cc pc = .ok (.bastore, 1)) (k : eK p l e R s m args below meth c Q D A al0 oe nL (pc + 1) ls st (h.set k0 (.inr (.inl (1, n, aSet q i (eB v))))) cl sl) : eK p l e R s m args below meth c Q D A al0 oe nL pc ls (eI v :: eI i :: eR k0 :: st) h cl sl := by
  intro H locs lsC stC g
  obtain ⟨ws, tys, hK, hP, hD, hS, ha, hW, ⟨lv, hl, hL⟩, hst⟩ := g
  match stC, hst with
  | _ :: _ :: _ :: stC, ⟨⟨z, rfl, hx2⟩, ⟨y, rfl, hy⟩, ⟨x, hxa, rfl⟩, hst⟩ =>
    obtain ⟨e1, hw, cA, ⟨t0, ht⟩, hn, hg⟩ := gW_at hW hh hxa
    obtain ⟨hv1, hv2, hv3⟩ := vp_of_bt hy hi hn
    rcases hg with ⟨hk3, f, rfl, hf⟩ | ⟨hk3, f, rfl, hf⟩
    · exact va_bast hx hb hK hP hD hS k0 t0 hw ht hv1 hd (fun H1 locs1 hP1 hD1 hS1 => k H1 locs1 lsC _ ⟨_, tys, hK, hP1, hD1, hS1, by rw [adr_set hw]; exact ha, gW_set hW hw ⟨cA, ⟨t0, ht⟩, hn, Or.inl ⟨hk3, _, rfl, upd_bt hy (n_nb hx2) hv2 hf⟩⟩, ⟨lv, hl, by rw [adr_set hw]; exact hL⟩, by rw [adr_set hw]; exact hst⟩)
    · cases hk3
theorem q_zast (hx : p.tables.exec = Jvm.exec) (hb : c.code = cc) {k0 n : Nat} {q : eA} {i v : eP} (hh : h[k0]? = some (.inr (.inl (2, n, q)))) (hi : (iLe 0 i.1 && iLt i.2 (Int.ofNat n)) = true) (hd : decode cc pc = .ok (.bastore, 1)) (k : eK p l e R s m args below meth c Q D A al0 oe nL (pc + 1) ls st (h.set k0 (.inr (.inl (2, n, aSet q i (eZ v))))) cl sl) : eK p l e R s m args below meth c Q D A al0 oe nL pc ls (eI v :: eI i :: eR k0 :: st) h cl sl := by
  intro H locs lsC stC g
  obtain ⟨ws, tys, hK, hP, hD, hS, ha, hW, ⟨lv, hl, hL⟩, hst⟩ := g
  match stC, hst with
  | _ :: _ :: _ :: stC, ⟨⟨z, rfl, hx2⟩, ⟨y, rfl, hy⟩, ⟨x, hxa, rfl⟩, hst⟩ =>
    obtain ⟨e1, hw, cA, ⟨t0, ht⟩, hn, hg⟩ := gW_at hW hh hxa
    obtain ⟨hv1, hv2, hv3⟩ := vp_of_bt hy hi hn
    rcases hg with ⟨hk3, f, rfl, hf⟩ | ⟨hk3, f, rfl, hf⟩
    · exact va_zast hx hb hK hP hD hS k0 t0 hw ht hv1 hd (fun H1 locs1 hP1 hD1 hS1 => k H1 locs1 lsC _ ⟨_, tys, hK, hP1, hD1, hS1, by rw [adr_set hw]; exact ha, gW_set hW hw ⟨cA, ⟨t0, ht⟩, hn, Or.inl ⟨hk3, _, rfl, upd_bt hy (n_z hx2) hv2 hf⟩⟩, ⟨lv, hl, by rw [adr_set hw]; exact hL⟩, by rw [adr_set hw]; exact hst⟩)
    · cases hk3
theorem q_last (hx : p.tables.exec = Jvm.exec) (hb : c.code = cc) {k0 n : Nat} {q : eA} {i v : eP} (hh : h[k0]? = some (.inr (.inl (3, n, q)))) (hi : (iLe 0 i.1 && iLt i.2 (Int.ofNat n)) = true) (hd : decode cc pc = .ok (.lastore, 1)) (k : eK p l e R s m args below meth c Q D A al0 oe nL (pc + 1) ls st (h.set k0 (.inr (.inl (3, n, aSet q i v)))) cl sl) : eK p l e R s m args below meth c Q D A al0 oe nL pc ls (eJ v :: eI i :: eR k0 :: st) h cl sl := by
  intro H locs lsC stC g
  obtain ⟨ws, tys, hK, hP, hD, hS, ha, hW, ⟨lv, hl, hL⟩, hst⟩ := g
  match stC, hst with
  | _ :: _ :: _ :: stC, ⟨⟨z, rfl, hx2⟩, ⟨y, rfl, hy⟩, ⟨x, hxa, rfl⟩, hst⟩ =>
    obtain ⟨e1, hw, cA, ⟨t0, ht⟩, hn, hg⟩ := gW_at hW hh hxa
    obtain ⟨hv1, hv2, hv3⟩ := vp_of_bt hy hi hn
    rcases hg with ⟨hk3, f, rfl, hf⟩ | ⟨hk3, f, rfl, hf⟩
    · omega
    · exact va_last hx hb hK hP hD hS k0 t0 hw ht hv1 hd (fun H1 locs1 hP1 hD1 hS1 => k H1 locs1 lsC _ ⟨_, tys, hK, hP1, hD1, hS1, by rw [adr_set hw]; exact ha, gW_set hW hw ⟨cA, ⟨t0, ht⟩, hn, Or.inr ⟨hk3, _, rfl, updL_bt hy hx2 hv2 hf⟩⟩, ⟨lv, hl, by rw [adr_set hw]; exact hL⟩, by rw [adr_set hw]; exact hst⟩)
theorem q_aald (hx : p.tables.exec = Jvm.exec) (hb : c.code = cc) {k0 ci n kr : Nat} {rs : List (Option Nat)} {i : eP} (hh : h[k0]? = some (.inr (.inr (ci, n, rs)))) (ho : onePos i = true) (hi : (iLe 0 i.1 && iLt i.2 (Int.ofNat n)) = true) (hr : rs.getD i.1.toNat none = some kr) (hd : decode cc pc = .ok (.aaload, 1)) (k : eK p l e R s m args below meth c Q D A al0 oe nL (pc + 1) ls (eR kr :: st) h cl sl) : eK p l e R s m args below meth c Q D A al0 oe nL pc ls (eI i :: eR k0 :: st) h cl sl := by
  intro H locs lsC stC g
  obtain ⟨ws, tys, hK, hP, hD, hS, ha, hW, ⟨lv, hl, hL⟩, hst⟩ := g
  match stC, hst with
  | _ :: _ :: stC, ⟨⟨y, rfl, hy⟩, ⟨x, hxa, rfl⟩, hst⟩ =>
    obtain ⟨e1, hw, cA, r, f, hc, ⟨t0, ht⟩, hn, rfl, hf⟩ := gW_at hW hh hxa
    obtain ⟨hv1, hv2, hv3⟩ := vp_of_bt hy hi hn
    obtain ⟨ey, py, ly, fy⟩ := onePos_ok ho hy
    have h5 := hf _ hv3
    rw [ey, hr] at h5
    obtain ⟨b, hb1, hb2⟩ := h5
    refine va_aldq hx hb hK hP k0 t0 hw ht hv1 hd (k H locs lsC _ ⟨ws, tys, hK, hP, hD, hS, ha, hW, ⟨lv, hl, hL⟩, ⟨b, hb1, ?_⟩, hst⟩)
    rw [hv2, ey, hb2]
    rfl
theorem q_aast (hx : p.tables.exec = Jvm.exec) (hb : c.code = cc) {k0 ci n kr : Nat} {rs : List (Option Nat)} {i : eP} {fs : List eV} (hh : h[k0]? = some (.inr (.inr (ci, n, rs)))) (hv : h[kr]? = some (.inl (ci, fs))) (ho : onePos i = true) (hl2 : rs.length = n) (hi : (iLe 0 i.1 && iLt i.2 (Int.ofNat n)) = true) (hd : decode cc pc = .ok (.aastore, 1)) (k : eK p l e R s m args below meth c Q D A al0 oe nL (pc + 1) ls st (h.set k0 (.inr (.inr (ci, n, rs.set i.1.toNat (some kr))))) cl sl) : eK p l e R s m args below meth c Q D A al0 oe nL pc ls (eR kr :: eI i :: eR k0 :: st) h cl sl := by
  intro H locs lsC stC g
  obtain ⟨ws, tys, hK, hP, hD, hS, ha, hW, ⟨lv, hl, hL⟩, hst⟩ := g
  match stC, hst with
  | _ :: _ :: _ :: stC, ⟨⟨z, hza, rfl⟩, ⟨y, rfl, hy⟩, ⟨x, hxa, rfl⟩, hst⟩ =>
    obtain ⟨e1, hw, cA, r, f, hc, ⟨t0, ht⟩, hn, rfl, hf⟩ := gW_at hW hh hxa
    obtain ⟨e2, hw2, vs, rfl, hgs⟩ := gW_at hW hv hza
    obtain ⟨hv1, hv2, hv3⟩ := vp_of_bt hy hi hn
    obtain ⟨ey, py, ly, fy⟩ := onePos_ok ho hy
    refine va_astq hx hb hK hP hD hS k0 t0 kr ci hw ht hw2 hc hv1 hd (fun H1 locs1 hP1 hD1 hS1 => k H1 locs1 lsC _ ⟨_, tys, hK, hP1, hD1, hS1, by rw [adr_set hw]; exact ha, gW_set hW hw ⟨cA, r, _, hc, ⟨t0, ht⟩, hn, rfl, fun j hj => ?_⟩, ⟨lv, hl, by rw [adr_set hw]; exact hL⟩, by rw [adr_set hw]; exact hst⟩)
    by_cases hjy : j = i.1.toNat
    · subst hjy
      have e5 : (rs.set i.1.toNat (some kr)).getD i.1.toNat none = some kr := by
        show (rs.set i.1.toNat (some kr))[i.1.toNat]?.getD none = some kr
        rw [List.getElem?_set_self (by omega)]
        rfl
      rw [e5, hv2, ey, va_up_self]
      exact ⟨z, hza, rfl⟩
    · have e5 : (rs.set i.1.toNat (some kr)).getD j none = rs.getD j none := by
        show (rs.set i.1.toNat (some kr))[j]?.getD none = rs[j]?.getD none
        rw [List.getElem?_set_ne (Ne.symm hjy)]
      rw [e5, hv2, ey, va_up_ne _ _ hjy]
      exact hf j hj
theorem q_slen (hx : p.tables.exec = Jvm.exec) (hb : c.code = cc) {b L : Nat} {xs : Nat → Int32} (hX : va_X b L xs s s.heap) (hbl : b < s.heap.size) (hbA : ¬ A b) (he : oe 0 = b) (hL2 : L < 2147483648) (hd : decode cc pc = .ok (.arraylength, 1)) (k : eK p l e R s m args below meth c Q D A al0 oe nL (pc + 1) ls (eI (Int.ofNat L, Int.ofNat L) :: st) h cl sl) : eK p l e R s m args below meth c Q D A al0 oe nL pc ls (eO 0 :: st) h cl sl := by
  intro H locs lsC stC g
  obtain ⟨ws, tys, hK, hP, hD, hS, ha, hW, ⟨lv, hl, hL⟩, hst⟩ := g
  match stC, hst with
  | v :: stC, ⟨hv, hst⟩ =>
    have hv2 : v = .ref b := by rw [← he]; exact hv
    subst hv2
    have hv : bt2 (Int.ofNat L, Int.ofNat L) (Int32.ofNat L).toInt := by
      rw [Int32.toInt_ofNat_of_lt (by omega)]
      exact ⟨Int.le_refl _, Int.le_refl _⟩
    exact va_slen hx hb hX hbl hbA hS hd (k H locs lsC _ ⟨ws, tys, hK, hP, hD, hS, ha, hW, ⟨lv, hl, hL⟩, ⟨_, rfl, hv⟩, hst⟩)
theorem q_sld (hx : p.tables.exec = Jvm.exec) (hb : c.code = cc) {b L : Nat} {xs : Nat → Int32} {bx : List eP} {i q : eP} (hX : va_X b L xs s s.heap) (hbl : b < s.heap.size) (hbA : ¬ A b) (he : oe 0 = b) (hbx : ∀ (j : Nat) (q : eP), bx[j]? = some q → j < L ∧ bt2 q (xs j).toInt) (hL2 : L < 2147483648) (ho : onePos i = true) (hq : bx[i.1.toNat]? = some q) (hd : decode cc pc = .ok (.iaload, 1)) (k : eK p l e R s m args below meth c Q D A al0 oe nL (pc + 1) ls (eI q :: st) h cl sl) : eK p l e R s m args below meth c Q D A al0 oe nL pc ls (eI i :: eO 0 :: st) h cl sl := by
  intro H locs lsC stC g
  obtain ⟨ws, tys, hK, hP, hD, hS, ha, hW, ⟨lv, hl, hL⟩, hst⟩ := g
  match stC, hst with
  | _ :: v :: stC, ⟨⟨y, rfl, hy⟩, hv, hst⟩ =>
    have hv2 : v = .ref b := by rw [← he]; exact hv
    subst hv2
    obtain ⟨ey, py, ly, fy⟩ := onePos_ok ho hy
    obtain ⟨h1, h2⟩ := hbx _ _ hq
    have e2 : y.toNatClampNeg = i.1.toNat := by rw [fy, nI_clamp (by omega)]
    refine va_sld hx hb hX hbl hbA hS (vp_in_iff.mpr ⟨by omega, by omega⟩) hd (k H locs lsC _ ⟨ws, tys, hK, hP, hD, hS, ha, hW, ⟨lv, hl, hL⟩, ⟨_, rfl, ?_⟩, hst⟩)
    rw [e2]
    exact h2
theorem q_tlen (hx : p.tables.exec = Jvm.exec) (hb : c.code = cc) {ty : FieldType} {n N : Nat} {f : Nat → Value} (hT : va_T ty (oe n) N f A s s.heap) (hN : N < 2147483648) (hd : decode cc pc = .ok (.arraylength, 1)) (k : eK p l e R s m args below meth c Q D A al0 oe nL (pc + 1) ls (eI (Int.ofNat N, Int.ofNat N) :: st) h cl sl) : eK p l e R s m args below meth c Q D A al0 oe nL pc ls (eO n :: st) h cl sl := by
  intro H locs lsC stC g
  obtain ⟨ws, tys, hK, hP, hD, hS, ha, hW, ⟨lv, hl, hL⟩, hst⟩ := g
  match stC, hst with
  | v :: stC, ⟨hv, hst⟩ =>
    have hv2 : v = .ref (oe n) := hv
    subst hv2
    have hv : bt2 (Int.ofNat N, Int.ofNat N) (Int32.ofNat N).toInt := by
      rw [Int32.toInt_ofNat_of_lt (by omega)]
      exact ⟨Int.le_refl _, Int.le_refl _⟩
    exact va_tlen hx hb hT hS rfl hd (k H locs lsC _ ⟨ws, tys, hK, hP, hD, hS, ha, hW, ⟨lv, hl, hL⟩, ⟨_, rfl, hv⟩, hst⟩)
theorem q_getO (hx : p.tables.exec = Jvm.exec) (hb : c.code = cc) {o nm d own : String} {index n : Nat} {v : Value} {a : eV} (hE : va_OF o nm d v (oe n) A s s.heap) (hv : ∀ al : List Nat, gV al oe a v) (hown : s.vm.findClass own = some m.cls) (hlink : (Cond.fieldLink own index o nm d).before args s = true) (hd : decode cc pc = .ok (.getfield index, 3)) (k : eK p l e R s m args below meth c Q D A al0 oe nL (pc + 3) ls (a :: st) h cl sl) : eK p l e R s m args below meth c Q D A al0 oe nL pc ls (eO n :: st) h cl sl := by
  intro H locs lsC stC g
  obtain ⟨ws, tys, hK, hP, hD, hS, ha, hW, ⟨lv, hl, hL⟩, hst⟩ := g
  match stC, hst with
  | u :: stC, ⟨hu, hst⟩ =>
    have hu2 : u = .ref (oe n) := hu
    subst hu2
    exact vk_getf hx hb hE hS hown hlink (fun _ z => z) hd (k H locs lsC _ ⟨ws, tys, hK, hP, hD, hS, ha, hW, ⟨lv, hl, hL⟩, hv _, hst⟩)
theorem q_gets (hx : p.tables.exec = Jvm.exec) (hb : c.code = cc) {C nm d own : String} {index : Nat} {v : Value} {a : eV} (hZ : va_Z C nm d v A s s.heap) (hv : ∀ al : List Nat, gV al oe a v) (hown : s.vm.findClass own = some m.cls) (hlink : (Cond.fieldLink own index C nm d).before args s = true) (hd : decode cc pc = .ok (.getstatic index, 3)) (k : eK p l e R s m args below meth c Q D A al0 oe nL (pc + 3) ls (a :: st) h cl sl) : eK p l e R s m args below meth c Q D A al0 oe nL pc ls st h cl sl := by
  intro H locs lsC stC g
  obtain ⟨ws, tys, hK, hP, hD, hS, ha, hW, ⟨lv, hl, hL⟩, hst⟩ := g
  exact va_gets hx hb hZ hS hown hlink (fun _ z => z) hd (k H locs lsC _ ⟨ws, tys, hK, hP, hD, hS, ha, hW, ⟨lv, hl, hL⟩, hv _, hst⟩)
theorem q_objInit (hx : p.tables.exec = Jvm.exec) (hb : c.code = cc) (hml : c.maxLocals = nL) {own : String} (hown : s.vm.findClass own = some m.cls) {idx : Nat} {a : eV} (hr : isR a = true) (hlink : (Cond.methodLink own idx Lib.objectInit).before args s = true) (hinst : (Cond.instanceMethod Lib.objectInit).before args s = true) (hcode : (Cond.code Lib.objectInit ⟨#[0xb1]⟩ 1 none).before args s = true) (hst0 : st = []) (hframes : 1 ≤ R.frames) (hlocals : 12 ≤ R.locals) (hd : decode cc pc = .ok (.invokespecial idx, 3)) (k : eK p l e R s m args below meth c Q D A al0 oe nL (pc + 3) ls st h cl sl) : eK p l e R s m args below meth c Q D A al0 oe nL pc ls (a :: st) h cl sl := by
  intro H locs lsC stC g
  obtain ⟨ws, tys, hK, hP, hD, hS, ha, hW, ⟨lv, hl, hL⟩, hst⟩ := g
  subst hst0
  match stC, hst with
  | [v], ⟨hg, hst⟩ =>
    obtain ⟨x, rfl⟩ := isR_ok hg hr
    exact W.objInit hx hb hown hlink hinst hcode rfl (by rw [hml]; exact hl.1) rfl hd hframes hlocals (W.eq (g2 := F0 m (pc + 3) lsC []) rfl (k H locs lsC _ ⟨ws, tys, hK, hP, hD, hS, ha, hW, ⟨lv, hl, hL⟩, hst⟩))
end
