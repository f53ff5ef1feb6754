/-! RUNS, 3: rows for cells (printed by wip/engine2/gen42.py) -/
def okC (ty : FieldType) (a : cV) : Bool := match ty, a with
  | .int, .inr (.inl _) => true
  | .long, .inr (.inr (.inl _)) => true
  | .object _, .inl (some _) => true
  | .array _, .inl (some _) => true
  | _, _ => false
theorem okC_ok {al : List Nat} {oe : Nat → Nat} {ty : FieldType} {a : cV} (hr : okC ty a = true) : narrow ty (tv al oe a) = tv al oe a ∧ fits ty (tv al oe a) = true := by
  match ty, a, hr with
  | .int, .inr (.inl _), _ => exact ⟨rfl, rfl⟩
  | .long, .inr (.inr (.inl _)), _ => exact ⟨rfl, rfl⟩
  | .object _, .inl (some _), _ => exact ⟨rfl, rfl⟩
  | .array _, .inl (some _), _ => exact ⟨rfl, rfl⟩
theorem map_at {α β : Type} {f : α → β} {l : List α} {i : Nat} {a : α} (h : l[i]? = some a) : (l.map f)[i]? = some (f a) := by rw [List.getElem?_map, h]; rfl
theorem map_set {α β : Type} {f : α → β} {l : List α} {i : Nat} {a : α} : (l.set i a).map f = (l.map f).set i (f a) := List.map_set
section
variable {p : Program} {l : Launch} {e : Env} {R : Room} {s : State} {m : MethodId} {args : Array Value} {below : List Frame} {meth : Method} {c : Code} {cl sl : Nat} {Q : State → Prop} {D : va_G} {A : Nat → Prop} {al : List Nat} {oe : Nat → Nat} {nL : Nat} {cc : ByteArray} {pc : Nat} {ls : List (Nat × cV)} {st : List cV} {h : List cC}
theorem c_get (hx : p.tables.exec = Jvm.exec) (hb : c.code = cc) (hts : ∀ w ∈ gtbl, w.before args s = true) {own host : String} (hown : s.vm.findClass own = some m.cls) {index ci k0 fi N : Nat} {C : String} {T : u_T} {fs : List cV} {a : cV} (hc : classes[ci]? = some (C, T, N)) (hfi : fi < N) (hlink : Cond.fieldLink own index C (T fi).2.1 (T fi).2.2.1 ∈ gtbl) (hh : h[k0]? = some (.inl (ci, fs))) (hf : fs[fi]? = some a) (hd : decode cc pc = .ok (.getfield index, 3)) (k : cK p l e R s m args below meth c cl sl Q D A al oe nL (pc + 3) ls (a :: st) h) : cK p l e R s m args below meth c cl sl Q D A al oe nL pc ls (cR k0 :: st) h := by
  intro H locs lsC g hl
  obtain ⟨ws, tys, hK, hP, hD, hS, ha, hW⟩ := g
  obtain ⟨e1, hw, rfl⟩ := hW.2 k0 _ hh
  obtain ⟨hin, -, -, -, -, hdecl⟩ := clOK ci C T N hc
  exact va_get hx hb hts hin hown hK hP k0 hw hc fi hfi (hts _ hlink) (fun z hz => by rw [← hdecl fi hfi]; exact hz) (map_at hf) hd (k H locs lsC ⟨ws, tys, hK, hP, hD, hS, ha, hW⟩ hl)
theorem c_getN (hx : p.tables.exec = Jvm.exec) (hb : c.code = cc) (hts : ∀ w ∈ gtbl, w.before args s = true) {own host : String} (hown : s.vm.findClass own = some m.cls) {index ci k0 fi N : Nat} {C : String} {T : u_T} {fs : List cV} {a : cV} (hc : classes[ci]? = some (C, T, N)) (hfi : fi < N) (hlink : va_Nw (.fieldLinkNest own index C (T fi).2.1 (T fi).2.2.1 host) s) (hh : h[k0]? = some (.inl (ci, fs))) (hf : fs[fi]? = some a) (hd : decode cc pc = .ok (.getfield index, 3)) (k : cK p l e R s m args below meth c cl sl Q D A al oe nL (pc + 3) ls (a :: st) h) : cK p l e R s m args below meth c cl sl Q D A al oe nL pc ls (cR k0 :: st) h := by
  intro H locs lsC g hl
  obtain ⟨ws, tys, hK, hP, hD, hS, ha, hW⟩ := g
  obtain ⟨e1, hw, rfl⟩ := hW.2 k0 _ hh
  obtain ⟨hin, -, -, -, -, hdecl⟩ := clOK ci C T N hc
  exact va_getN (host := host) hx hb hts hin hown hK hP k0 hw hc fi hfi (hlink.use rfl) (fun z hz => by rw [← hdecl fi hfi]; exact hz) (map_at hf) hd (k H locs lsC ⟨ws, tys, hK, hP, hD, hS, ha, hW⟩ hl)
theorem c_put (hx : p.tables.exec = Jvm.exec) (hb : c.code = cc) (hts : ∀ w ∈ gtbl, w.before args s = true) {own host : String} (hown : s.vm.findClass own = some m.cls) {index ci k0 fi N : Nat} {C : String} {T : u_T} {fs : List cV} {a a0 : cV} {ty : FieldType} (hc : classes[ci]? = some (C, T, N)) (hfi : fi < N) (hlink : Cond.fieldLink own index C (T fi).2.1 (T fi).2.2.1 ∈ gtbl) (hfin : (T fi).2.2.2 = false) (hpd : parseFieldDescriptor (T fi).2.2.1 = some ty) (hok : okC ty a = true) (hh : h[k0]? = some (.inl (ci, fs))) (hf : fs[fi]? = some a0) (hd : decode cc pc = .ok (.putfield index, 3)) (k : cK p l e R s m args below meth c cl sl Q D A al oe nL (pc + 3) ls st (h.set k0 (.inl (ci, fs.set fi a)))) : cK p l e R s m args below meth c cl sl Q D A al oe nL pc ls (a :: cR k0 :: st) h := by
  intro H locs lsC g hl
  obtain ⟨ws, tys, hK, hP, hD, hS, ha, hW⟩ := g
  obtain ⟨e1, hw, rfl⟩ := hW.2 k0 _ hh
  obtain ⟨hin, ⟨ty0, hty⟩, hnm, -, -, hdecl⟩ := clOK ci C T N hc
  exact va_put (ty := ty) hx hb hts hin ty0 hty hnm hown hK hP hD hS k0 hw hc fi hfi (hts _ hlink) (fun z hz => by rw [← hdecl fi hfi]; exact hz) hfin hpd (okC_ok hok).1 (okC_ok hok).2 (by rw [List.length_map]; exact (List.getElem?_eq_some_iff.mp hf).1) hd (fun H1 locs1 hP1 hD1 hS1 => k H1 locs1 lsC ⟨_, tys, hK, hP1, hD1, hS1, by rw [adr_set hw]; exact ha, hW_set hW hw (by show _ = _; rw [map_set])⟩ hl)
theorem c_putN (hx : p.tables.exec = Jvm.exec) (hb : c.code = cc) (hts : ∀ w ∈ gtbl, w.before args s = true) {own host : String} (hown : s.vm.findClass own = some m.cls) {index ci k0 fi N : Nat} {C : String} {T : u_T} {fs : List cV} {a a0 : cV} {ty : FieldType} (hc : classes[ci]? = some (C, T, N)) (hfi : fi < N) (hlink : va_Nw (.fieldLinkNest own index C (T fi).2.1 (T fi).2.2.1 host) s) (hfin : (T fi).2.2.2 = false) (hpd : parseFieldDescriptor (T fi).2.2.1 = some ty) (hok : okC ty a = true) (hh : h[k0]? = some (.inl (ci, fs))) (hf : fs[fi]? = some a0) (hd : decode cc pc = .ok (.putfield index, 3)) (k : cK p l e R s m args below meth c cl sl Q D A al oe nL (pc + 3) ls st (h.set k0 (.inl (ci, fs.set fi a)))) : cK p l e R s m args below meth c cl sl Q D A al oe nL pc ls (a :: cR k0 :: st) h := by
  intro H locs lsC g hl
  obtain ⟨ws, tys, hK, hP, hD, hS, ha, hW⟩ := g
  obtain ⟨e1, hw, rfl⟩ := hW.2 k0 _ hh
  obtain ⟨hin, ⟨ty0, hty⟩, hnm, -, -, hdecl⟩ := clOK ci C T N hc
  exact va_putN (host := host) (ty := ty) hx hb hts hin ty0 hty hnm hown hK hP hD hS k0 hw hc fi hfi (hlink.use rfl) (fun z hz => by rw [← hdecl fi hfi]; exact hz) hfin hpd (okC_ok hok).1 (okC_ok hok).2 (by rw [List.length_map]; exact (List.getElem?_eq_some_iff.mp hf).1) hd (fun H1 locs1 hP1 hD1 hS1 => k H1 locs1 lsC ⟨_, tys, hK, hP1, hD1, hS1, by rw [adr_set hw]; exact ha, hW_set hW hw (by show _ = _; rw [map_set])⟩ hl)
theorem c_alen (hx : p.tables.exec = Jvm.exec) (hb : c.code = cc) {k0 kd n : Nat} {f : Nat → Int32} (hh : h[k0]? = some (.inr (.inl (kd, n, f)))) (hd : decode cc pc = .ok (.arraylength, 1)) (k : cK p l e R s m args below meth c cl sl Q D A al oe nL (pc + 1) ls (cI (Int32.ofNat n) :: st) h) : cK p l e R s m args below meth c cl sl Q D A al oe nL pc ls (cR k0 :: st) h := by
  intro H locs lsC g hl
  obtain ⟨ws, tys, hK, hP, hD, hS, ha, hW⟩ := g
  obtain ⟨e1, hw, hkd, hn, cA, t0, ht, rfl⟩ := hW.2 k0 _ hh
  exact va_alen hx hb hK hP k0 t0 hw ht rfl hd (k H locs lsC ⟨ws, tys, hK, hP, hD, hS, ha, hW⟩ hl)
theorem c_alenJ (hx : p.tables.exec = Jvm.exec) (hb : c.code = cc) {k0 n : Nat} {f : Nat → Int64} (hh : h[k0]? = some (.inr (.inr (.inl (n, f))))) (hd : decode cc pc = .ok (.arraylength, 1)) (k : cK p l e R s m args below meth c cl sl Q D A al oe nL (pc + 1) ls (cI (Int32.ofNat n) :: st) h) : cK p l e R s m args below meth c cl sl Q D A al oe nL pc ls (cR k0 :: st) h := by
  intro H locs lsC g hl
  obtain ⟨ws, tys, hK, hP, hD, hS, ha, hW⟩ := g
  obtain ⟨e1, hw, hn, cA, t0, ht, rfl⟩ := hW.2 k0 _ hh
  exact va_alen hx hb hK hP k0 t0 hw ht rfl hd (k H locs lsC ⟨ws, tys, hK, hP, hD, hS, ha, hW⟩ hl)
theorem c_iald (hx : p.tables.exec = Jvm.exec) (hb : c.code = cc) {k0 n : Nat} {f : Nat → Int32} {i : Int32} (hh : h[k0]? = some (.inr (.inl (0, n, f)))) (hi : vp_in i n) (hd : decode cc pc = .ok (.iaload, 1)) (k : cK p l e R s m args below meth c cl sl Q D A al oe nL (pc + 1) ls (cI (f i.toNatClampNeg) :: st) h) : cK p l e R s m args below meth c cl sl Q D A al oe nL pc ls (cI i :: cR k0 :: st) h := by
  intro H locs lsC g hl
  obtain ⟨ws, tys, hK, hP, hD, hS, ha, hW⟩ := g
  obtain ⟨e1, hw, hkd, hn, cA, t0, ht, rfl⟩ := hW.2 k0 _ hh
  exact va_iald hx hb hK hP k0 t0 hw ht hi hd (k H locs lsC ⟨ws, tys, hK, hP, hD, hS, ha, hW⟩ hl)
theorem c_bald (hx : p.tables.exec = Jvm.exec) (hb : c.code = cc) {k0 n : Nat} {f : Nat → Int32} {i : Int32} (hh : h[k0]? = some (.inr (.inl (1, n, f)))) (hi : vp_in i n) (hd : decode cc pc = .ok (.baload, 1)) (k : cK p l e R s m args below meth c cl sl Q D A al oe nL (pc + 1) ls (cI (f i.toNatClampNeg) :: st) h) : cK p l e R s m args below meth c cl sl Q D A al oe nL pc ls (cI i :: cR k0 :: st) h := by
  intro H locs lsC g hl
  obtain ⟨ws, tys, hK, hP, hD, hS, ha, hW⟩ := g
  obtain ⟨e1, hw, hkd, hn, cA, t0, ht, rfl⟩ := hW.2 k0 _ hh
  exact va_bald hx hb hK hP k0 t0 hw ht hi hd (k H locs lsC ⟨ws, tys, hK, hP, hD, hS, ha, hW⟩ hl)
theorem c_zald (hx : p.tables.exec = Jvm.exec) (hb : c.code = cc) {k0 n : Nat} {f : Nat → Int32} {i : Int32} (hh : h[k0]? = some (.inr (.inl (2, n, f)))) (hi : vp_in i n) (hd : decode cc pc = .ok (.baload, 1)) (k : cK p l e R s m args below meth c cl sl Q D A al oe nL (pc + 1) ls (cI (f i.toNatClampNeg) :: st) h) : cK p l e R s m args below meth c cl sl Q D A al oe nL pc ls (cI i :: cR k0 :: st) h := by
  intro H locs lsC g hl
  obtain ⟨ws, tys, hK, hP, hD, hS, ha, hW⟩ := g
  obtain ⟨e1, hw, hkd, hn, cA, t0, ht, rfl⟩ := hW.2 k0 _ hh
  exact va_zald hx hb hK hP k0 t0 hw ht hi hd (k H locs lsC ⟨ws, tys, hK, hP, hD, hS, ha, hW⟩ hl)
theorem c_lald (hx : p.tables.exec = Jvm.exec) (hb : c.code = cc) {k0 n : Nat} {f : Nat → Int64} {i : Int32} (hh : h[k0]? = some (.inr (.inr (.inl (n, f))))) (hi : vp_in i n) (hd : decode cc pc = .ok (.laload, 1)) (k : cK p l e R s m args below meth c cl sl Q D A al oe nL (pc + 1) ls (cJ (f i.toNatClampNeg) :: st) h) : cK p l e R s m args below meth c cl sl Q D A al oe nL pc ls (cI i :: cR k0 :: st) h := by
  intro H locs lsC g hl
  obtain ⟨ws, tys, hK, hP, hD, hS, ha, hW⟩ := g
  obtain ⟨e1, hw, hn, cA, t0, ht, rfl⟩ := hW.2 k0 _ hh
  exact va_lald hx hb hK hP k0 t0 hw ht hi hd (k H locs lsC ⟨ws, tys, hK, hP, hD, hS, ha, hW⟩ hl)
theorem c_iast (hx : p.tables.exec = Jvm.exec) (hb : c.code = cc) {k0 n : Nat} {f : Nat → Int32} {i x : Int32} (hh : h[k0]? = some (.inr (.inl (0, n, f)))) (hi : vp_in i n) (hd : decode cc pc = .ok (.iastore, 1)) (k : cK p l e R s m args below meth c cl sl Q D A al oe nL (pc + 1) ls st (h.set k0 (.inr (.inl (0, n, upd f i.toNatClampNeg x))))) : cK p l e R s m args below meth c cl sl Q D A al oe nL pc ls (cI x :: cI i :: cR k0 :: st) h := by
  intro H locs lsC g hl
  obtain ⟨ws, tys, hK, hP, hD, hS, ha, hW⟩ := g
  obtain ⟨e1, hw, hkd, hn, cA, t0, ht, rfl⟩ := hW.2 k0 _ hh
  exact va_iast hx hb hK hP hD hS k0 t0 hw ht hi hd (fun H1 locs1 hP1 hD1 hS1 => k H1 locs1 lsC ⟨_, tys, hK, hP1, hD1, hS1, by rw [adr_set hw]; exact ha, hW_set hW hw ⟨hkd, hn, cA, t0, ht, rfl⟩⟩ hl)
theorem c_bast (hx : p.tables.exec = Jvm.exec) (hb : c.code = cc) {k0 n : Nat} {f : Nat → Int32} {i x : Int32} (hh : h[k0]? = some (.inr (.inl (1, n, f)))) (hi : vp_in i n) (hd : decode cc pc = .ok (.bastore, 1)) (k : cK p l e R s m args below meth c cl sl Q D A al oe nL (pc + 1) ls st (h.set k0 (.inr (.inl (1, n, upd f i.toNatClampNeg (vp_nar .byte x)))))) : cK p l e R s m args below meth c cl sl Q D A al oe nL pc ls (cI x :: cI i :: cR k0 :: st) h := by
  intro H locs lsC g hl
  obtain ⟨ws, tys, hK, hP, hD, hS, ha, hW⟩ := g
  obtain ⟨e1, hw, hkd, hn, cA, t0, ht, rfl⟩ := hW.2 k0 _ hh
  exact va_bast hx hb hK hP hD hS k0 t0 hw ht hi hd (fun H1 locs1 hP1 hD1 hS1 => k H1 locs1 lsC ⟨_, tys, hK, hP1, hD1, hS1, by rw [adr_set hw]; exact ha, hW_set hW hw ⟨hkd, hn, cA, t0, ht, rfl⟩⟩ hl)
theorem c_zast (hx : p.tables.exec = Jvm.exec) (hb : c.code = cc) {k0 n : Nat} {f : Nat → Int32} {i x : Int32} (hh : h[k0]? = some (.inr (.inl (2, n, f)))) (hi : vp_in i n) (hd : decode cc pc = .ok (.bastore, 1)) (k : cK p l e R s m args below meth c cl sl Q D A al oe nL (pc + 1) ls st (h.set k0 (.inr (.inl (2, n, upd f i.toNatClampNeg (vp_nar .boolean x)))))) : cK p l e R s m args below meth c cl sl Q D A al oe nL pc ls (cI x :: cI i :: cR k0 :: st) h := by
  intro H locs lsC g hl
  obtain ⟨ws, tys, hK, hP, hD, hS, ha, hW⟩ := g
  obtain ⟨e1, hw, hkd, hn, cA, t0, ht, rfl⟩ := hW.2 k0 _ hh
  exact va_zast hx hb hK hP hD hS k0 t0 hw ht hi hd (fun H1 locs1 hP1 hD1 hS1 => k H1 locs1 lsC ⟨_, tys, hK, hP1, hD1, hS1, by rw [adr_set hw]; exact ha, hW_set hW hw ⟨hkd, hn, cA, t0, ht, rfl⟩⟩ hl)
theorem c_last (hx : p.tables.exec = Jvm.exec) (hb : c.code = cc) {k0 n : Nat} {f : Nat → Int64} {i : Int32} {x : Int64} (hh : h[k0]? = some (.inr (.inr (.inl (n, f))))) (hi : vp_in i n) (hd : decode cc pc = .ok (.lastore, 1)) (k : cK p l e R s m args below meth c cl sl Q D A al oe nL (pc + 1) ls st (h.set k0 (.inr (.inr (.inl (n, vp_updL f i.toNatClampNeg x)))))) : cK p l e R s m args below meth c cl sl Q D A al oe nL pc ls (cJ x :: cI i :: cR k0 :: st) h := by
  intro H locs lsC g hl
  obtain ⟨ws, tys, hK, hP, hD, hS, ha, hW⟩ := g
  obtain ⟨e1, hw, hn, cA, t0, ht, rfl⟩ := hW.2 k0 _ hh
  exact va_last hx hb hK hP hD hS k0 t0 hw ht hi hd (fun H1 locs1 hP1 hD1 hS1 => k H1 locs1 lsC ⟨_, tys, hK, hP1, hD1, hS1, by rw [adr_set hw]; exact ha, hW_set hW hw ⟨hn, cA, t0, ht, rfl⟩⟩ hl)
theorem c_aald (hx : p.tables.exec = Jvm.exec) (hb : c.code = cc) {k0 ci n kr : Nat} {rs : List (Option Nat)} {i : Int32} (hh : h[k0]? = some (.inr (.inr (.inr (ci, n, rs))))) (hi : vp_in i n) (hr : rs.getD i.toNatClampNeg none = some kr) (hd : decode cc pc = .ok (.aaload, 1)) (k : cK p l e R s m args below meth c cl sl Q D A al oe nL (pc + 1) ls (cR kr :: st) h) : cK p l e R s m args below meth c cl sl Q D A al oe nL pc ls (cI i :: cR k0 :: st) h := by
  intro H locs lsC g hl
  obtain ⟨ws, tys, hK, hP, hD, hS, ha, hW⟩ := g
  obtain ⟨e1, hw, hn, cA, t0, r, f, hc, ht, rfl, hf⟩ := hW.2 k0 _ hh
  have hlt : i.toNatClampNeg < n := Nat.not_le.mp fun q => hi (Or.inr q)
  have h5 := hf _ hlt
  rw [hr] at h5
  have h6 := k H locs lsC ⟨ws, tys, hK, hP, hD, hS, ha, hW⟩ hl
  refine va_aldq hx hb hK hP k0 t0 hw ht hi hd ?_
  rw [h5]
  exact h6
theorem c_slen (hx : p.tables.exec = Jvm.exec) (hb : c.code = cc) {b L : Nat} {xs : Nat → Int32} (hX : va_X b L xs s s.heap) (hbl : b < s.heap.size) (hbA : ¬ A b) (he : oe 0 = b) (hd : decode cc pc = .ok (.arraylength, 1)) (k : cK p l e R s m args below meth c cl sl Q D A al oe nL (pc + 1) ls (cI (Int32.ofNat L) :: st) h) : cK p l e R s m args below meth c cl sl Q D A al oe nL pc ls (cO 0 :: st) h := by
  intro H locs lsC g hl
  obtain ⟨ws, tys, hK, hP, hD, hS, ha, hW⟩ := g
  subst he
  exact va_slen hx hb hX hbl hbA hS hd (k H locs lsC ⟨ws, tys, hK, hP, hD, hS, ha, hW⟩ hl)
theorem c_sld (hx : p.tables.exec = Jvm.exec) (hb : c.code = cc) {b L : Nat} {xs : Nat → Int32} {i : Int32} (hX : va_X b L xs s s.heap) (hbl : b < s.heap.size) (hbA : ¬ A b) (he : oe 0 = b) (hi : vp_in i L) (hd : decode cc pc = .ok (.iaload, 1)) (k : cK p l e R s m args below meth c cl sl Q D A al oe nL (pc + 1) ls (cI (xs i.toNatClampNeg) :: st) h) : cK p l e R s m args below meth c cl sl Q D A al oe nL pc ls (cI i :: cO 0 :: st) h := by
  intro H locs lsC g hl
  obtain ⟨ws, tys, hK, hP, hD, hS, ha, hW⟩ := g
  subst he
  exact va_sld hx hb hX hbl hbA hS hi hd (k H locs lsC ⟨ws, tys, hK, hP, hD, hS, ha, hW⟩ hl)
theorem c_tlen (hx : p.tables.exec = Jvm.exec) (hb : c.code = cc) {ty : FieldType} {n N : Nat} {f : Nat → Value} (h9 : Nat.beq n 99 = false) (hT : va_T ty (oe n) N f A s s.heap) (hd : decode cc pc = .ok (.arraylength, 1)) (k : cK p l e R s m args below meth c cl sl Q D A al oe nL (pc + 1) ls (cI (Int32.ofNat N) :: st) h) : cK p l e R s m args below meth c cl sl Q D A al oe nL pc ls (cO n :: st) h := by
  intro H locs lsC g hl
  obtain ⟨ws, tys, hK, hP, hD, hS, ha, hW⟩ := g
  rw [List.map_cons, tv_O h9]
  exact va_tlen hx hb hT hS rfl hd (k H locs lsC ⟨ws, tys, hK, hP, hD, hS, ha, hW⟩ hl)
theorem c_tb (hx : p.tables.exec = Jvm.exec) (hb : c.code = cc) {n N : Nat} {f : Nat → Value} {i x : Int32} (h9 : Nat.beq n 99 = false) (hT : va_T .byte (oe n) N f A s s.heap) (hi : vp_in i N) (hv : f i.toNatClampNeg = .int x) (hd : decode cc pc = .ok (.baload, 1)) (k : cK p l e R s m args below meth c cl sl Q D A al oe nL (pc + 1) ls (cI x :: st) h) : cK p l e R s m args below meth c cl sl Q D A al oe nL pc ls (cI i :: cO n :: st) h := by
  intro H locs lsC g hl
  obtain ⟨ws, tys, hK, hP, hD, hS, ha, hW⟩ := g
  rw [List.map_cons, List.map_cons, tv_O h9]
  exact va_tb hx hb hT hS hi hv hd (k H locs lsC ⟨ws, tys, hK, hP, hD, hS, ha, hW⟩ hl)
theorem c_getO (hx : p.tables.exec = Jvm.exec) (hb : c.code = cc) {o nm d own : String} {index n : Nat} {v : Value} {a : cV} (h9 : Nat.beq n 99 = false) (hE : va_OF o nm d v (oe n) A s s.heap) (hv : ∀ al : List Nat, tv al oe a = v) (hown : s.vm.findClass own = some m.cls) (hlink : (Cond.fieldLink own index o nm d).before args s = true) (hd : decode cc pc = .ok (.getfield index, 3)) (k : cK p l e R s m args below meth c cl sl Q D A al oe nL (pc + 3) ls (a :: st) h) : cK p l e R s m args below meth c cl sl Q D A al oe nL pc ls (cO n :: st) h := by
  intro H locs lsC g hl
  obtain ⟨ws, tys, hK, hP, hD, hS, ha, hW⟩ := g
  have h6 := k H locs lsC ⟨ws, tys, hK, hP, hD, hS, ha, hW⟩ hl
  rw [List.map_cons, hv] at h6
  rw [List.map_cons, tv_O h9]
  exact vk_getf hx hb hE hS hown hlink (fun _ z => z) hd h6
theorem c_gets (hx : p.tables.exec = Jvm.exec) (hb : c.code = cc) {C nm d own : String} {index : Nat} {v : Value} {a : cV} (hZ : va_Z C nm d v A s s.heap) (hv : ∀ al : List Nat, tv al oe a = v) (hown : s.vm.findClass own = some m.cls) (hlink : (Cond.fieldLink own index C nm d).before args s = true) (hd : decode cc pc = .ok (.getstatic index, 3)) (k : cK p l e R s m args below meth c cl sl Q D A al oe nL (pc + 3) ls (a :: st) h) : cK p l e R s m args below meth c cl sl Q D A al oe nL pc ls st h := by
  intro H locs lsC g hl
  obtain ⟨ws, tys, hK, hP, hD, hS, ha, hW⟩ := g
  have h6 := k H locs lsC ⟨ws, tys, hK, hP, hD, hS, ha, hW⟩ hl
  rw [List.map_cons, hv] at h6
  exact va_gets hx hb hZ hS hown hlink (fun _ z => z) hd h6
theorem c_ldcS (hx : p.tables.exec = Jvm.exec) (hb : c.code = cc) {own tx : String} {index n : Nat} (h9 : Nat.beq n 99 = false) (hown : s.vm.findClass own = some m.cls) (hZ : vk_R own index tx (oe n) s) (hd : decode cc pc = .ok (.ldc index, 2)) (k : cK p l e R s m args below meth c cl sl Q D A al oe nL (pc + 2) ls (cO n :: st) h) : cK p l e R s m args below meth c cl sl Q D A al oe nL pc ls st h := by
  intro H locs lsC g hl
  have k9 := k H locs lsC g hl
  rw [List.map_cons, tv_O h9] at k9
  exact va_ldcS hx hb hown hZ hd k9
theorem c_ldcw (hx : p.tables.exec = Jvm.exec) (hb : c.code = cc) {own : String} {index : Nat} {v : Int32} (hown : s.vm.findClass own = some m.cls) (hc : (Jvm.Cond.constant own index v).before args s = true) (hd : decode cc pc = .ok (.ldc_w index, 3)) (k : cK p l e R s m args below meth c cl sl Q D A al oe nL (pc + 3) ls (cI v :: st) h) : cK p l e R s m args below meth c cl sl Q D A al oe nL pc ls st h := by
  intro H locs lsC g hl
  exact lv_ldcw hx hb hown hc hd (k H locs lsC g hl)
theorem c_ldcI (hx : p.tables.exec = Jvm.exec) (hb : c.code = cc) {own : String} {index : Nat} {v : Int32} (hown : s.vm.findClass own = some m.cls) (hc : (Jvm.Cond.constant own index v).before args s = true) (hd : decode cc pc = .ok (.ldc index, 2)) (k : cK p l e R s m args below meth c cl sl Q D A al oe nL (pc + 2) ls (cI v :: st) h) : cK p l e R s m args below meth c cl sl Q D A al oe nL pc ls st h := by
  intro H locs lsC g hl
  exact lv_ldc hx hb hown hc hd (k H locs lsC g hl)
theorem c_ldc2 (hx : p.tables.exec = Jvm.exec) (hb : c.code = cc) {own : String} {index : Nat} {v : Int64} (hown : s.vm.findClass own = some m.cls) (hc : (Jvm.Cond.constantLong own index v).before args s = true) (hd : decode cc pc = .ok (.ldc2_w index, 3)) (k : cK p l e R s m args below meth c cl sl Q D A al oe nL (pc + 3) ls (cJ v :: st) h) : cK p l e R s m args below meth c cl sl Q D A al oe nL pc ls st h := by
  intro H locs lsC g hl
  exact lv_ldc2 hx hb hown hc hd (k H locs lsC g hl)
end
