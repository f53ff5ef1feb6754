/-! THE ENGINE, 4: a row for each instruction (printed by wip/engine/gen14.py) -/
def lkp : List (Nat × eV) → Nat → Option eV
  | [], _ => none
  | (k, v) :: r, i => match Nat.beq k i with
    | true => some v
    | false => lkp r i
theorem lkp_mem : ∀ {ls : List (Nat × eV)} {i : Nat} {a : eV}, lkp ls i = some a → (i, a) ∈ ls
  | [], i, a, h => by cases h
  | (k, v) :: r, i, a, h => by
    unfold lkp at h
    cases hk : Nat.beq k i with
    | true =>
      rw [hk] at h
      cases h
      rw [← nbeq_t hk]
      exact List.mem_cons_self
    | false =>
      rw [hk] at h
      exact List.mem_cons_of_mem _ (lkp_mem h)
def isJ : eV → Bool
  | .inr (.inr (.inl _)) => true
  | _ => false
theorem isJ_cat {al : List Nat} {oe : Nat → Nat} {a : eV} {v : Value} (g : gV al oe a v) (hj : isJ a = false) : (v.category == 2) = false := by
  match a, g with
  | .inl none, g => cases g; rfl
  | .inl (some k), ⟨x, _, hv⟩ => cases hv; rfl
  | .inr (.inl q), ⟨x, hv, _⟩ => cases hv; rfl
  | .inr (.inr (.inl q)), g => cases hj
  | .inr (.inr (.inr k)), g => cases g; rfl
def keepI (i : Nat) (q : Nat × eV) : Bool := !(Nat.beq q.1 i) && !(Nat.beq (q.1 + 1) i && isJ q.2)
def keepJ (i : Nat) (q : Nat × eV) : Bool := !(Nat.beq q.1 i) && (!(Nat.beq q.1 (i + 1)) && !(Nat.beq (q.1 + 1) i && isJ q.2))
theorem nbeq_b (a b : Nat) : Nat.beq a b = (a == b) := by
  cases h : Nat.beq a b with
  | true => rw [nbeq_t h]; simp
  | false => exact (beq_eq_false_iff_ne.mpr (nbeq_f h)).symm
theorem gL_store {al : List Nat} {oe : Nat → Nat} {ls : List (Nat × eV)} {lv : List (Nat × Value)} {i : Nat} {a : eV} {v : Value} (g : gL al oe ls lv) (ga : gV al oe a v) : gL al oe ((i, a) :: ls.filter (keepI i)) ((i, v) :: lv.filter (fun q => !(q.1 == i) && !(q.1 + 1 == i && q.2.category == 2))) := by
  intro q hq
  rcases List.mem_cons.mp hq with rfl | hq
  · exact ⟨v, List.mem_cons_self, ga⟩
  · obtain ⟨h1, h2⟩ := List.mem_filter.mp hq
    obtain ⟨x, hx, gx⟩ := g q h1
    refine ⟨x, List.mem_cons_of_mem _ (List.mem_filter.mpr ⟨hx, ?_⟩), gx⟩
    unfold keepI at h2
    rw [nbeq_b, nbeq_b] at h2
    cases hj : isJ q.2 with
    | true =>
      rw [hj] at h2
      simp only [Bool.and_true] at h2
      simp only [Bool.and_eq_true] at h2 ⊢
      refine ⟨h2.1, ?_⟩
      have h3 := h2.2
      cases hc : (q.1 + 1 == i) with
      | true => rw [hc] at h3; cases h3
      | false => rfl
    | false =>
      have hc := isJ_cat gx hj
      simp only [Bool.and_eq_true] at h2 ⊢
      refine ⟨h2.1, ?_⟩
      rw [hc, Bool.and_false]
      rfl
theorem gL_storeJ {al : List Nat} {oe : Nat → Nat} {ls : List (Nat × eV)} {lv : List (Nat × Value)} {i : Nat} {a : eV} {v : Value} (g : gL al oe ls lv) (ga : gV al oe a v) : gL al oe ((i, a) :: ls.filter (keepJ i)) ((i, v) :: lv.filter (fun q => !(q.1 == i) && (!(q.1 == i + 1) && !(q.1 + 1 == i && q.2.category == 2)))) := by
  intro q hq
  rcases List.mem_cons.mp hq with rfl | hq
  · exact ⟨v, List.mem_cons_self, ga⟩
  · obtain ⟨h1, h2⟩ := List.mem_filter.mp hq
    obtain ⟨x, hx, gx⟩ := g q h1
    refine ⟨x, List.mem_cons_of_mem _ (List.mem_filter.mpr ⟨hx, ?_⟩), gx⟩
    unfold keepJ at h2
    rw [nbeq_b, nbeq_b, nbeq_b] at h2
    cases hj : isJ q.2 with
    | true =>
      rw [hj] at h2
      simp only [Bool.and_true] at h2
      simp only [Bool.and_eq_true] at h2 ⊢
      refine ⟨h2.1, h2.2.1, ?_⟩
      have h3 := h2.2.2
      cases hc : (q.1 + 1 == i) with
      | true => rw [hc] at h3; cases h3
      | false => rfl
    | false =>
      have hc := isJ_cat gx hj
      simp only [Bool.and_eq_true] at h2 ⊢
      refine ⟨h2.1, h2.2.1, ?_⟩
      rw [hc, Bool.and_false]
      rfl
theorem lv_mem {ls : Array Slot} {n : Nat} {lv : List (Nat × Value)} (hl : lv_has ls n lv) {i : Nat} {v : Value} (hm : (i, v) ∈ lv) : ls[i]? = some (.val v) := hl.2.2 (i, v) hm
theorem n_iconst {n : Int} (h : (iLe (-1) n && iLe n 5) = true) : bt2 (n, n) (Int32.ofInt n).toInt := by
  simp only [Bool.and_eq_true, iLe_ok] at h
  rw [Int32.toInt_ofInt_of_le (by omega) (by omega)]
  exact ⟨Int.le_refl _, Int.le_refl _⟩
theorem n_bipush {n : Int} (h : (iLe (-128) n && iLe n 127) = true) : bt2 (n, n) ((Int8.ofInt n).toInt32).toInt := by
  simp only [Bool.and_eq_true, iLe_ok] at h
  rw [Int8.toInt_toInt32, Int8.toInt_ofInt_of_le (by omega) (by omega)]
  exact ⟨Int.le_refl _, Int.le_refl _⟩
theorem n_sipush {n : Int} (h : (iLe (-32768) n && iLe n 32767) = true) : bt2 (n, n) ((Int16.ofInt n).toInt32).toInt := by
  simp only [Bool.and_eq_true, iLe_ok] at h
  rw [Int16.toInt_toInt32, Int16.toInt_ofInt_of_le (by omega) (by omega)]
  exact ⟨Int.le_refl _, Int.le_refl _⟩
section

variable {p : Program} {l : Launch} {e : Env} {R : Room} {s : State} {m : MethodId} {args : Array Value} {below : List Frame} {meth : Method} {c : Code} {Q : State → Prop} {D : va_G} {A : Nat → Prop} {al0 : List Nat} {oe : Nat → Nat} {nL : Nat} {cc : ByteArray} {pc cl sl : Nat} {ls : List (Nat × eV)} {st : List eV} {h : List eC}
theorem q_iconst (hx : p.tables.exec = Jvm.exec) (hb : c.code = cc) {n : Int} (hd : decode cc pc = .ok (.iconst n, 1)) (hn : (iLe (-1) n && iLe n 5) = true) (k : eK p l e R s m args below meth c Q D A al0 oe nL (pc + 1) ls (eI (n, n) :: st) h cl sl) : eK p l e R s m args below meth c Q D A al0 oe nL pc ls st h cl sl := by
  intro H locs lsC stC g
  obtain ⟨ws, tys, hK, hP, hD, hS, ha, hW, ⟨lv, hl, hL⟩, hst⟩ := g
  exact lv_iconst hx hb hd rfl (k H locs lsC _ ⟨ws, tys, hK, hP, hD, hS, ha, hW, ⟨lv, hl, hL⟩, ⟨_, rfl, n_iconst hn⟩, hst⟩)
theorem q_bipush (hx : p.tables.exec = Jvm.exec) (hb : c.code = cc) {n : Int} (hd : decode cc pc = .ok (.bipush n, 2)) (hn : (iLe (-128) n && iLe n 127) = true) (k : eK p l e R s m args below meth c Q D A al0 oe nL (pc + 2) ls (eI (n, n) :: st) h cl sl) : eK p l e R s m args below meth c Q D A al0 oe nL pc ls st h cl sl := by
  intro H locs lsC stC g
  obtain ⟨ws, tys, hK, hP, hD, hS, ha, hW, ⟨lv, hl, hL⟩, hst⟩ := g
  exact lv_bipush hx hb hd rfl (k H locs lsC _ ⟨ws, tys, hK, hP, hD, hS, ha, hW, ⟨lv, hl, hL⟩, ⟨_, rfl, n_bipush hn⟩, hst⟩)
theorem q_sipush (hx : p.tables.exec = Jvm.exec) (hb : c.code = cc) {n : Int} (hd : decode cc pc = .ok (.sipush n, 3)) (hn : (iLe (-32768) n && iLe n 32767) = true) (k : eK p l e R s m args below meth c Q D A al0 oe nL (pc + 3) ls (eI (n, n) :: st) h cl sl) : eK p l e R s m args below meth c Q D A al0 oe nL pc ls st h cl sl := by
  intro H locs lsC stC g
  obtain ⟨ws, tys, hK, hP, hD, hS, ha, hW, ⟨lv, hl, hL⟩, hst⟩ := g
  exact lv_sipush hx hb hd rfl (k H locs lsC _ ⟨ws, tys, hK, hP, hD, hS, ha, hW, ⟨lv, hl, hL⟩, ⟨_, rfl, n_sipush hn⟩, hst⟩)
theorem n_lconst (n : Fin 2) : bt2 (Int.ofNat n.val, Int.ofNat n.val) (Int64.ofNat (n : Nat)).toInt := by
  rw [Int64.toInt_ofNat_of_lt (by omega)]
  exact ⟨Int.le_refl _, Int.le_refl _⟩
theorem q_lconst (hx : p.tables.exec = Jvm.exec) (hb : c.code = cc) {n : Fin 2} (hd : decode cc pc = .ok (.lconst n, 1)) (k : eK p l e R s m args below meth c Q D A al0 oe nL (pc + 1) ls (eJ (Int.ofNat n.val, Int.ofNat n.val) :: st) h cl sl) : eK p l e R s m args below meth c Q D A al0 oe nL pc ls st h cl sl := by
  intro H locs lsC stC g
  obtain ⟨ws, tys, hK, hP, hD, hS, ha, hW, ⟨lv, hl, hL⟩, hst⟩ := g
  exact lv_lconst hx hb hd rfl (k H locs lsC _ ⟨ws, tys, hK, hP, hD, hS, ha, hW, ⟨lv, hl, hL⟩, ⟨_, rfl, n_lconst n⟩, hst⟩)
theorem q_ldc2 (hx : p.tables.exec = Jvm.exec) (hb : c.code = cc) {own : String} {index : Nat} {v : Int64} {q : eP} (hown : s.vm.findClass own = some m.cls) (hconst : (Jvm.Cond.constantLong own index v).before args s = true) (hv : bt2 q v.toInt) (hd : decode cc pc = .ok (.ldc2_w index, 3)) (k : eK p l e R s m args below meth c Q D A al0 oe nL (pc + 3) ls (eJ q :: st) h cl sl) : eK p l e R s m args below meth c Q D A al0 oe nL pc ls st h cl sl := by
  intro H locs lsC stC g
  obtain ⟨ws, tys, hK, hP, hD, hS, ha, hW, ⟨lv, hl, hL⟩, hst⟩ := g
  exact lv_ldc2 hx hb hown hconst hd (k H locs lsC _ ⟨ws, tys, hK, hP, hD, hS, ha, hW, ⟨lv, hl, hL⟩, ⟨_, rfl, hv⟩, hst⟩)
theorem q_ldcS (hx : p.tables.exec = Jvm.exec) (hb : c.code = cc) {own tx : String} {index n : Nat} (hown : s.vm.findClass own = some m.cls) (hZ : vk_R own index tx (oe n) s) (hd : decode cc pc = .ok (.ldc index, 2)) (k : eK p l e R s m args below meth c Q D A al0 oe nL (pc + 2) ls (eO n :: st) h cl sl) : eK p l e R s m args below meth c Q D A al0 oe nL pc ls st h cl sl := by
  intro H locs lsC stC g
  obtain ⟨ws, tys, hK, hP, hD, hS, ha, hW, ⟨lv, hl, hL⟩, hst⟩ := g
  exact va_ldcS hx hb hown hZ hd (k H locs lsC _ ⟨ws, tys, hK, hP, hD, hS, ha, hW, ⟨lv, hl, hL⟩, rfl, hst⟩)
theorem q_iload_n (hx : p.tables.exec = Jvm.exec) (hb : c.code = cc) {n : Fin 4} {q : eP} (hd : decode cc pc = .ok (.iload_n n, 1)) (hk : lkp ls n.val = some (eI q)) (k : eK p l e R s m args below meth c Q D A al0 oe nL (pc + 1) ls (eI q :: st) h cl sl) : eK p l e R s m args below meth c Q D A al0 oe nL pc ls st h cl sl := by
  intro H locs lsC stC g
  obtain ⟨ws, tys, hK, hP, hD, hS, ha, hW, ⟨lv, hl, hL⟩, hst⟩ := g
  obtain ⟨v, hm, x, rfl, hq⟩ := hL _ (lkp_mem hk)
  exact lv_iload_n hx hb hd rfl (lv_mem hl hm) (k H locs lsC _ ⟨ws, tys, hK, hP, hD, hS, ha, hW, ⟨lv, hl, hL⟩, ⟨x, rfl, hq⟩, hst⟩)
theorem q_iload (hx : p.tables.exec = Jvm.exec) (hb : c.code = cc) {n : Nat} {q : eP} (hd : decode cc pc = .ok (.iload n, 2)) (hk : lkp ls n = some (eI q)) (k : eK p l e R s m args below meth c Q D A al0 oe nL (pc + 2) ls (eI q :: st) h cl sl) : eK p l e R s m args below meth c Q D A al0 oe nL pc ls st h cl sl := by
  intro H locs lsC stC g
  obtain ⟨ws, tys, hK, hP, hD, hS, ha, hW, ⟨lv, hl, hL⟩, hst⟩ := g
  obtain ⟨v, hm, x, rfl, hq⟩ := hL _ (lkp_mem hk)
  exact lv_iload hx hb hd (lv_mem hl hm) (k H locs lsC _ ⟨ws, tys, hK, hP, hD, hS, ha, hW, ⟨lv, hl, hL⟩, ⟨x, rfl, hq⟩, hst⟩)
theorem q_lload_n (hx : p.tables.exec = Jvm.exec) (hb : c.code = cc) {n : Fin 4} {q : eP} (hd : decode cc pc = .ok (.lload_n n, 1)) (hk : lkp ls n.val = some (eJ q)) (k : eK p l e R s m args below meth c Q D A al0 oe nL (pc + 1) ls (eJ q :: st) h cl sl) : eK p l e R s m args below meth c Q D A al0 oe nL pc ls st h cl sl := by
  intro H locs lsC stC g
  obtain ⟨ws, tys, hK, hP, hD, hS, ha, hW, ⟨lv, hl, hL⟩, hst⟩ := g
  obtain ⟨v, hm, x, rfl, hq⟩ := hL _ (lkp_mem hk)
  exact lv_lload_n hx hb hd rfl (lv_mem hl hm) (k H locs lsC _ ⟨ws, tys, hK, hP, hD, hS, ha, hW, ⟨lv, hl, hL⟩, ⟨x, rfl, hq⟩, hst⟩)
theorem q_lload (hx : p.tables.exec = Jvm.exec) (hb : c.code = cc) {n : Nat} {q : eP} (hd : decode cc pc = .ok (.lload n, 2)) (hk : lkp ls n = some (eJ q)) (k : eK p l e R s m args below meth c Q D A al0 oe nL (pc + 2) ls (eJ q :: st) h cl sl) : eK p l e R s m args below meth c Q D A al0 oe nL pc ls st h cl sl := by
  intro H locs lsC stC g
  obtain ⟨ws, tys, hK, hP, hD, hS, ha, hW, ⟨lv, hl, hL⟩, hst⟩ := g
  obtain ⟨v, hm, x, rfl, hq⟩ := hL _ (lkp_mem hk)
  exact lv_lload hx hb hd (lv_mem hl hm) (k H locs lsC _ ⟨ws, tys, hK, hP, hD, hS, ha, hW, ⟨lv, hl, hL⟩, ⟨x, rfl, hq⟩, hst⟩)
/-- a reference that is not null -/
def isR : eV → Bool
  | .inl (some _) => true
  | .inr (.inr (.inr _)) => true
  | _ => false
theorem isR_ok {al : List Nat} {a : eV} {v : Value} (g : gV al oe a v) (hr : isR a = true) : ∃ x : Nat, v = .ref x := by
  match a, g with
  | .inl none, g => cases hr
  | .inl (some k), ⟨x, _, hv⟩ => exact ⟨x, hv⟩
  | .inr (.inl q), g => cases hr
  | .inr (.inr (.inl q)), g => cases hr
  | .inr (.inr (.inr k)), g => exact ⟨_, g⟩
theorem q_aload_n (hx : p.tables.exec = Jvm.exec) (hb : c.code = cc) {n : Fin 4} {a : eV} (hd : decode cc pc = .ok (.aload_n n, 1)) (hk : lkp ls n.val = some a) (hr : isR a = true) (k : eK p l e R s m args below meth c Q D A al0 oe nL (pc + 1) ls (a :: st) h cl sl) : eK p l e R s m args below meth c Q D A al0 oe nL pc ls st h cl sl := by
  intro H locs lsC stC g
  obtain ⟨ws, tys, hK, hP, hD, hS, ha, hW, ⟨lv, hl, hL⟩, hst⟩ := g
  obtain ⟨v, hm, hg⟩ := hL _ (lkp_mem hk)
  obtain ⟨x, rfl⟩ := isR_ok hg hr
  exact lv_aload_n hx hb hd rfl (lv_mem hl hm) (k H locs lsC _ ⟨ws, tys, hK, hP, hD, hS, ha, hW, ⟨lv, hl, hL⟩, hg, hst⟩)
theorem q_aload (hx : p.tables.exec = Jvm.exec) (hb : c.code = cc) {n : Nat} {a : eV} (hd : decode cc pc = .ok (.aload n, 2)) (hk : lkp ls n = some a) (hr : isR a = true) (k : eK p l e R s m args below meth c Q D A al0 oe nL (pc + 2) ls (a :: st) h cl sl) : eK p l e R s m args below meth c Q D A al0 oe nL pc ls st h cl sl := by
  intro H locs lsC stC g
  obtain ⟨ws, tys, hK, hP, hD, hS, ha, hW, ⟨lv, hl, hL⟩, hst⟩ := g
  obtain ⟨v, hm, hg⟩ := hL _ (lkp_mem hk)
  obtain ⟨x, rfl⟩ := isR_ok hg hr
  exact lv_aload hx hb hd (lv_mem hl hm) (k H locs lsC _ ⟨ws, tys, hK, hP, hD, hS, ha, hW, ⟨lv, hl, hL⟩, hg, hst⟩)
theorem q_istore_n (hx : p.tables.exec = Jvm.exec) (hb : c.code = cc) {n : Fin 4} {q : eP} (hd : decode cc pc = .ok (.istore_n n, 1)) (hn : n.val < nL) (k : eK p l e R s m args below meth c Q D A al0 oe nL (pc + 1) ((n.val, eI q) :: ls.filter (keepI n.val)) st h cl sl) : eK p l e R s m args below meth c Q D A al0 oe nL pc ls (eI q :: st) h cl sl := by
  intro H locs lsC stC g
  obtain ⟨ws, tys, hK, hP, hD, hS, ha, hW, ⟨lv, hl, hL⟩, hst⟩ := g
  match stC, hst with
  | _ :: stC, ⟨⟨x, rfl, hq⟩, hst⟩ =>
    exact lv_istore_n hx hb hd rfl hl hn rfl (fun ls2 hl2 => k H locs ls2 _ ⟨ws, tys, hK, hP, hD, hS, ha, hW, ⟨_, hl2, gL_store hL ⟨x, rfl, hq⟩⟩, hst⟩)
theorem q_istore (hx : p.tables.exec = Jvm.exec) (hb : c.code = cc) {n : Nat} {q : eP} (hd : decode cc pc = .ok (.istore n, 2)) (hn : n < nL) (k : eK p l e R s m args below meth c Q D A al0 oe nL (pc + 2) ((n, eI q) :: ls.filter (keepI n)) st h cl sl) : eK p l e R s m args below meth c Q D A al0 oe nL pc ls (eI q :: st) h cl sl := by
  intro H locs lsC stC g
  obtain ⟨ws, tys, hK, hP, hD, hS, ha, hW, ⟨lv, hl, hL⟩, hst⟩ := g
  match stC, hst with
  | _ :: stC, ⟨⟨x, rfl, hq⟩, hst⟩ =>
    exact lv_istore hx hb hd hl hn rfl (fun ls2 hl2 => k H locs ls2 _ ⟨ws, tys, hK, hP, hD, hS, ha, hW, ⟨_, hl2, gL_store hL ⟨x, rfl, hq⟩⟩, hst⟩)
theorem q_lstore_n (hx : p.tables.exec = Jvm.exec) (hb : c.code = cc) {n : Fin 4} {q : eP} (hd : decode cc pc = .ok (.lstore_n n, 1)) (hn : n.val + 1 < nL) (k : eK p l e R s m args below meth c Q D A al0 oe nL (pc + 1) ((n.val, eJ q) :: ls.filter (keepJ n.val)) st h cl sl) : eK p l e R s m args below meth c Q D A al0 oe nL pc ls (eJ q :: st) h cl sl := by
  intro H locs lsC stC g
  obtain ⟨ws, tys, hK, hP, hD, hS, ha, hW, ⟨lv, hl, hL⟩, hst⟩ := g
  match stC, hst with
  | _ :: stC, ⟨⟨x, rfl, hq⟩, hst⟩ =>
    exact lv_lstore_n hx hb hd rfl hl hn rfl (fun ls2 hl2 => k H locs ls2 _ ⟨ws, tys, hK, hP, hD, hS, ha, hW, ⟨_, hl2, gL_storeJ hL ⟨x, rfl, hq⟩⟩, hst⟩)
theorem q_lstore (hx : p.tables.exec = Jvm.exec) (hb : c.code = cc) {n : Nat} {q : eP} (hd : decode cc pc = .ok (.lstore n, 2)) (hn : n + 1 < nL) (k : eK p l e R s m args below meth c Q D A al0 oe nL (pc + 2) ((n, eJ q) :: ls.filter (keepJ n)) st h cl sl) : eK p l e R s m args below meth c Q D A al0 oe nL pc ls (eJ q :: st) h cl sl := by
  intro H locs lsC stC g
  obtain ⟨ws, tys, hK, hP, hD, hS, ha, hW, ⟨lv, hl, hL⟩, hst⟩ := g
  match stC, hst with
  | _ :: stC, ⟨⟨x, rfl, hq⟩, hst⟩ =>
    exact lv_lstore hx hb hd hl hn rfl (fun ls2 hl2 => k H locs ls2 _ ⟨ws, tys, hK, hP, hD, hS, ha, hW, ⟨_, hl2, gL_storeJ hL ⟨x, rfl, hq⟩⟩, hst⟩)
theorem q_astore_n (hx : p.tables.exec = Jvm.exec) (hb : c.code = cc) {n : Fin 4} {a : eV} (hd : decode cc pc = .ok (.astore_n n, 1)) (hn : n.val < nL) (hr : isR a = true) (k : eK p l e R s m args below meth c Q D A al0 oe nL (pc + 1) ((n.val, a) :: ls.filter (keepI n.val)) st h cl sl) : eK p l e R s m args below meth c Q D A al0 oe nL pc ls (a :: st) h cl sl := by
  intro H locs lsC stC g
  obtain ⟨ws, tys, hK, hP, hD, hS, ha, hW, ⟨lv, hl, hL⟩, hst⟩ := g
  match stC, hst with
  | v :: stC, ⟨hg, hst⟩ =>
    obtain ⟨x, rfl⟩ := isR_ok hg hr
    exact lv_astore_n hx hb hd rfl hl hn rfl (fun ls2 hl2 => k H locs ls2 _ ⟨ws, tys, hK, hP, hD, hS, ha, hW, ⟨_, hl2, gL_store hL hg⟩, hst⟩)
theorem q_astore (hx : p.tables.exec = Jvm.exec) (hb : c.code = cc) {n : Nat} {a : eV} (hd : decode cc pc = .ok (.astore n, 2)) (hn : n < nL) (hr : isR a = true) (k : eK p l e R s m args below meth c Q D A al0 oe nL (pc + 2) ((n, a) :: ls.filter (keepI n)) st h cl sl) : eK p l e R s m args below meth c Q D A al0 oe nL pc ls (a :: st) h cl sl := by
  intro H locs lsC stC g
  obtain ⟨ws, tys, hK, hP, hD, hS, ha, hW, ⟨lv, hl, hL⟩, hst⟩ := g
  match stC, hst with
  | v :: stC, ⟨hg, hst⟩ =>
    obtain ⟨x, rfl⟩ := isR_ok hg hr
    exact lv_astore hx hb hd hl hn rfl (fun ls2 hl2 => k H locs ls2 _ ⟨ws, tys, hK, hP, hD, hS, ha, hW, ⟨_, hl2, gL_store hL hg⟩, hst⟩)
theorem n_inc {q : eP} {x : Int32} {n : Int} (h : (iLe (-32768) n && iLe n 32767) = true) (hq : bt2 q x.toInt) : bt2 (eAdd q (n, n)) (x + Int32.ofInt n).toInt := by
  simp only [Bool.and_eq_true, iLe_ok] at h
  refine n_add hq ?_
  rw [Int32.toInt_ofInt_of_le (by omega) (by omega)]
  exact ⟨Int.le_refl _, Int.le_refl _⟩
theorem q_iinc (hx : p.tables.exec = Jvm.exec) (hb : c.code = cc) {i : Nat} {n : Int} {q : eP} (hd : decode cc pc = .ok (.iinc i n, 3)) (hk : lkp ls i = some (eI q)) (hn : i < nL) (hr : (iLe (-32768) n && iLe n 32767) = true) (k : eK p l e R s m args below meth c Q D A al0 oe nL (pc + 3) ((i, eI (eAdd q (n, n))) :: ls.filter (keepI i)) st h cl sl) : eK p l e R s m args below meth c Q D A al0 oe nL pc ls st h cl sl := by
  intro H locs lsC stC g
  obtain ⟨ws, tys, hK, hP, hD, hS, ha, hW, ⟨lv, hl, hL⟩, hst⟩ := g
  obtain ⟨v, hm, x, rfl, hq⟩ := hL _ (lkp_mem hk)
  obtain ⟨j, hj⟩ := List.getElem?_of_mem hm
  exact lv_iinc hx hb hd hl hj rfl hn rfl (fun ls2 hl2 => k H locs ls2 _ ⟨ws, tys, hK, hP, hD, hS, ha, hW, ⟨_, hl2, gL_store hL ⟨_, rfl, n_inc hr hq⟩⟩, hst⟩)
theorem q_iadd (hx : p.tables.exec = Jvm.exec) (hb : c.code = cc) {a b : eP} (hd : decode cc pc = .ok (.iadd, 1)) (k : eK p l e R s m args below meth c Q D A al0 oe nL (pc + 1) ls (eI (eAdd a b) :: st) h cl sl) : eK p l e R s m args below meth c Q D A al0 oe nL pc ls (eI b :: eI a :: st) h cl sl := by
  intro H locs lsC stC g
  obtain ⟨ws, tys, hK, hP, hD, hS, ha, hW, ⟨lv, hl, hL⟩, hst⟩ := g
  match stC, hst with
  | _ :: _ :: stC, ⟨⟨y, rfl, hy⟩, ⟨x, rfl, hx2⟩, hst⟩ =>
    exact lv_iadd hx hb hd (k H locs lsC _ ⟨ws, tys, hK, hP, hD, hS, ha, hW, ⟨lv, hl, hL⟩, ⟨_, rfl, n_add hx2 hy⟩, hst⟩)
theorem q_isub (hx : p.tables.exec = Jvm.exec) (hb : c.code = cc) {a b : eP} (hd : decode cc pc = .ok (.isub, 1)) (k : eK p l e R s m args below meth c Q D A al0 oe nL (pc + 1) ls (eI (eSub a b) :: st) h cl sl) : eK p l e R s m args below meth c Q D A al0 oe nL pc ls (eI b :: eI a :: st) h cl sl := by
  intro H locs lsC stC g
  obtain ⟨ws, tys, hK, hP, hD, hS, ha, hW, ⟨lv, hl, hL⟩, hst⟩ := g
  match stC, hst with
  | _ :: _ :: stC, ⟨⟨y, rfl, hy⟩, ⟨x, rfl, hx2⟩, hst⟩ =>
    exact lv_isub hx hb hd (k H locs lsC _ ⟨ws, tys, hK, hP, hD, hS, ha, hW, ⟨lv, hl, hL⟩, ⟨_, rfl, n_sub hx2 hy⟩, hst⟩)
theorem q_imul (hx : p.tables.exec = Jvm.exec) (hb : c.code = cc) {a b : eP} (hd : decode cc pc = .ok (.imul, 1)) (k : eK p l e R s m args below meth c Q D A al0 oe nL (pc + 1) ls (eI (eMul a b) :: st) h cl sl) : eK p l e R s m args below meth c Q D A al0 oe nL pc ls (eI b :: eI a :: st) h cl sl := by
  intro H locs lsC stC g
  obtain ⟨ws, tys, hK, hP, hD, hS, ha, hW, ⟨lv, hl, hL⟩, hst⟩ := g
  match stC, hst with
  | _ :: _ :: stC, ⟨⟨y, rfl, hy⟩, ⟨x, rfl, hx2⟩, hst⟩ =>
    exact lv_imul hx hb hd (k H locs lsC _ ⟨ws, tys, hK, hP, hD, hS, ha, hW, ⟨lv, hl, hL⟩, ⟨_, rfl, n_mul hx2 hy⟩, hst⟩)
theorem q_iand (hx : p.tables.exec = Jvm.exec) (hb : c.code = cc) {a b : eP} (hd : decode cc pc = .ok (.iand, 1)) (k : eK p l e R s m args below meth c Q D A al0 oe nL (pc + 1) ls (eI (eAnd a b) :: st) h cl sl) : eK p l e R s m args below meth c Q D A al0 oe nL pc ls (eI b :: eI a :: st) h cl sl := by
  intro H locs lsC stC g
  obtain ⟨ws, tys, hK, hP, hD, hS, ha, hW, ⟨lv, hl, hL⟩, hst⟩ := g
  match stC, hst with
  | _ :: _ :: stC, ⟨⟨y, rfl, hy⟩, ⟨x, rfl, hx2⟩, hst⟩ =>
    exact lv_iand hx hb hd (k H locs lsC _ ⟨ws, tys, hK, hP, hD, hS, ha, hW, ⟨lv, hl, hL⟩, ⟨_, rfl, n_and hx2 hy⟩, hst⟩)
theorem q_ior (hx : p.tables.exec = Jvm.exec) (hb : c.code = cc) {a b : eP} (hd : decode cc pc = .ok (.ior, 1)) (k : eK p l e R s m args below meth c Q D A al0 oe nL (pc + 1) ls (eI (eOr a b) :: st) h cl sl) : eK p l e R s m args below meth c Q D A al0 oe nL pc ls (eI b :: eI a :: st) h cl sl := by
  intro H locs lsC stC g
  obtain ⟨ws, tys, hK, hP, hD, hS, ha, hW, ⟨lv, hl, hL⟩, hst⟩ := g
  match stC, hst with
  | _ :: _ :: stC, ⟨⟨y, rfl, hy⟩, ⟨x, rfl, hx2⟩, hst⟩ =>
    exact lv_ior hx hb hd (k H locs lsC _ ⟨ws, tys, hK, hP, hD, hS, ha, hW, ⟨lv, hl, hL⟩, ⟨_, rfl, n_or hx2 hy⟩, hst⟩)
theorem q_ishl (hx : p.tables.exec = Jvm.exec) (hb : c.code = cc) {a b : eP} (hd : decode cc pc = .ok (.ishl, 1)) (k : eK p l e R s m args below meth c Q D A al0 oe nL (pc + 1) ls (eI (eShl a b) :: st) h cl sl) : eK p l e R s m args below meth c Q D A al0 oe nL pc ls (eI b :: eI a :: st) h cl sl := by
  intro H locs lsC stC g
  obtain ⟨ws, tys, hK, hP, hD, hS, ha, hW, ⟨lv, hl, hL⟩, hst⟩ := g
  match stC, hst with
  | _ :: _ :: stC, ⟨⟨y, rfl, hy⟩, ⟨x, rfl, hx2⟩, hst⟩ =>
    exact lv_ishl hx hb hd (k H locs lsC _ ⟨ws, tys, hK, hP, hD, hS, ha, hW, ⟨lv, hl, hL⟩, ⟨_, rfl, n_shl hx2 hy⟩, hst⟩)
theorem q_ishr (hx : p.tables.exec = Jvm.exec) (hb : c.code = cc) {a b : eP} (hd : decode cc pc = .ok (.ishr, 1)) (k : eK p l e R s m args below meth c Q D A al0 oe nL (pc + 1) ls (eI (eShr a b) :: st) h cl sl) : eK p l e R s m args below meth c Q D A al0 oe nL pc ls (eI b :: eI a :: st) h cl sl := by
  intro H locs lsC stC g
  obtain ⟨ws, tys, hK, hP, hD, hS, ha, hW, ⟨lv, hl, hL⟩, hst⟩ := g
  match stC, hst with
  | _ :: _ :: stC, ⟨⟨y, rfl, hy⟩, ⟨x, rfl, hx2⟩, hst⟩ =>
    exact lv_ishr hx hb hd (k H locs lsC _ ⟨ws, tys, hK, hP, hD, hS, ha, hW, ⟨lv, hl, hL⟩, ⟨_, rfl, n_shr hx2 hy⟩, hst⟩)
theorem q_iushr (hx : p.tables.exec = Jvm.exec) (hb : c.code = cc) {a b : eP} (hd : decode cc pc = .ok (.iushr, 1)) (k : eK p l e R s m args below meth c Q D A al0 oe nL (pc + 1) ls (eI f32 :: st) h cl sl) : eK p l e R s m args below meth c Q D A al0 oe nL pc ls (eI b :: eI a :: st) h cl sl := by
  intro H locs lsC stC g
  obtain ⟨ws, tys, hK, hP, hD, hS, ha, hW, ⟨lv, hl, hL⟩, hst⟩ := g
  match stC, hst with
  | _ :: _ :: stC, ⟨⟨y, rfl, hy⟩, ⟨x, rfl, hx2⟩, hst⟩ =>
    exact lv_iushr hx hb hd rfl (k H locs lsC _ ⟨ws, tys, hK, hP, hD, hS, ha, hW, ⟨lv, hl, hL⟩, ⟨_, rfl, in_f32 _⟩, hst⟩)
theorem q_lushr (hx : p.tables.exec = Jvm.exec) (hb : c.code = cc) {a b : eP} (hd : decode cc pc = .ok (.lushr, 1)) (k : eK p l e R s m args below meth c Q D A al0 oe nL (pc + 1) ls (eJ (eLushr a) :: st) h cl sl) : eK p l e R s m args below meth c Q D A al0 oe nL pc ls (eI b :: eJ a :: st) h cl sl := by
  intro H locs lsC stC g
  obtain ⟨ws, tys, hK, hP, hD, hS, ha, hW, ⟨lv, hl, hL⟩, hst⟩ := g
  match stC, hst with
  | _ :: _ :: stC, ⟨⟨y, rfl, hy⟩, ⟨x, rfl, hx2⟩, hst⟩ =>
    exact lv_lushr hx hb hd rfl (k H locs lsC _ ⟨ws, tys, hK, hP, hD, hS, ha, hW, ⟨lv, hl, hL⟩, ⟨_, rfl, n_lushr hx2⟩, hst⟩)
theorem q_land (hx : p.tables.exec = Jvm.exec) (hb : c.code = cc) {a b : eP} (hd : decode cc pc = .ok (.land, 1)) (k : eK p l e R s m args below meth c Q D A al0 oe nL (pc + 1) ls (eJ (eLand a b) :: st) h cl sl) : eK p l e R s m args below meth c Q D A al0 oe nL pc ls (eJ b :: eJ a :: st) h cl sl := by
  intro H locs lsC stC g
  obtain ⟨ws, tys, hK, hP, hD, hS, ha, hW, ⟨lv, hl, hL⟩, hst⟩ := g
  match stC, hst with
  | _ :: _ :: stC, ⟨⟨y, rfl, hy⟩, ⟨x, rfl, hx2⟩, hst⟩ =>
    exact lv_land hx hb hd (k H locs lsC _ ⟨ws, tys, hK, hP, hD, hS, ha, hW, ⟨lv, hl, hL⟩, ⟨_, rfl, n_land hx2⟩, hst⟩)
theorem q_lcmp (hx : p.tables.exec = Jvm.exec) (hb : c.code = cc) {a b : eP} (hd : decode cc pc = .ok (.lcmp, 1)) (k : eK p l e R s m args below meth c Q D A al0 oe nL (pc + 1) ls (eI (eCmp a b) :: st) h cl sl) : eK p l e R s m args below meth c Q D A al0 oe nL pc ls (eJ b :: eJ a :: st) h cl sl := by
  intro H locs lsC stC g
  obtain ⟨ws, tys, hK, hP, hD, hS, ha, hW, ⟨lv, hl, hL⟩, hst⟩ := g
  match stC, hst with
  | _ :: _ :: stC, ⟨⟨y, rfl, hy⟩, ⟨x, rfl, hx2⟩, hst⟩ =>
    exact W.lcmp hx hb hd (k H locs lsC _ ⟨ws, tys, hK, hP, hD, hS, ha, hW, ⟨lv, hl, hL⟩, ⟨_, rfl, n_cmp hx2 hy⟩, hst⟩)
theorem q_i2l (hx : p.tables.exec = Jvm.exec) (hb : c.code = cc) {a : eP} (hd : decode cc pc = .ok (.i2l, 1)) (k : eK p l e R s m args below meth c Q D A al0 oe nL (pc + 1) ls (eJ a :: st) h cl sl) : eK p l e R s m args below meth c Q D A al0 oe nL pc ls (eI a :: st) h cl sl := by
  intro H locs lsC stC g
  obtain ⟨ws, tys, hK, hP, hD, hS, ha, hW, ⟨lv, hl, hL⟩, hst⟩ := g
  match stC, hst with
  | _ :: stC, ⟨⟨x, rfl, hx2⟩, hst⟩ =>
    exact lv_i2l hx hb hd rfl (k H locs lsC _ ⟨ws, tys, hK, hP, hD, hS, ha, hW, ⟨lv, hl, hL⟩, ⟨_, rfl, by rw [Int32.toInt_toInt64]; exact hx2⟩, hst⟩)
theorem q_i2b (hx : p.tables.exec = Jvm.exec) (hb : c.code = cc) {a : eP} (hd : decode cc pc = .ok (.i2b, 1)) (k : eK p l e R s m args below meth c Q D A al0 oe nL (pc + 1) ls (eI (eB a) :: st) h cl sl) : eK p l e R s m args below meth c Q D A al0 oe nL pc ls (eI a :: st) h cl sl := by
  intro H locs lsC stC g
  obtain ⟨ws, tys, hK, hP, hD, hS, ha, hW, ⟨lv, hl, hL⟩, hst⟩ := g
  match stC, hst with
  | _ :: stC, ⟨⟨x, rfl, hx2⟩, hst⟩ =>
    exact lv_i2b hx hb hd rfl (k H locs lsC _ ⟨ws, tys, hK, hP, hD, hS, ha, hW, ⟨lv, hl, hL⟩, ⟨_, rfl, n_b hx2⟩, hst⟩)
theorem isJ_cat1 {al : List Nat} {a : eV} {v : Value} (g : gV al oe a v) (hj : isJ a = false) : v.category = 1 := by
  match a, g with
  | .inl none, g => cases g; rfl
  | .inl (some k), ⟨x, _, hv⟩ => cases hv; rfl
  | .inr (.inl q), ⟨x, hv, _⟩ => cases hv; rfl
  | .inr (.inr (.inl q)), g => cases hj
  | .inr (.inr (.inr k)), g => cases g; rfl
theorem q_dup (hx : p.tables.exec = Jvm.exec) (hb : c.code = cc) {a : eV} (hd : decode cc pc = .ok (.dup, 1)) (hj : isJ a = false) (k : eK p l e R s m args below meth c Q D A al0 oe nL (pc + 1) ls (a :: a :: st) h cl sl) : eK p l e R s m args below meth c Q D A al0 oe nL pc ls (a :: st) h cl sl := by
  intro H locs lsC stC g
  obtain ⟨ws, tys, hK, hP, hD, hS, ha, hW, ⟨lv, hl, hL⟩, hst⟩ := g
  match stC, hst with
  | v :: stC, ⟨hg, hst⟩ =>
    exact lv_dup hx hb hd (isJ_cat1 hg hj) (k H locs lsC _ ⟨ws, tys, hK, hP, hD, hS, ha, hW, ⟨lv, hl, hL⟩, hg, hg, hst⟩)
theorem q_dup2 (hx : p.tables.exec = Jvm.exec) (hb : c.code = cc) {a b : eV} (hd : decode cc pc = .ok (.dup2, 1)) (hj : isJ a = false) (hj2 : isJ b = false) (k : eK p l e R s m args below meth c Q D A al0 oe nL (pc + 1) ls (a :: b :: a :: b :: st) h cl sl) : eK p l e R s m args below meth c Q D A al0 oe nL pc ls (a :: b :: st) h cl sl := by
  intro H locs lsC stC g
  obtain ⟨ws, tys, hK, hP, hD, hS, ha, hW, ⟨lv, hl, hL⟩, hst⟩ := g
  match stC, hst with
  | v :: u :: stC, ⟨hg, hg2, hst⟩ =>
    exact lv_dup2_11 hx hb hd (isJ_cat1 hg hj) (isJ_cat1 hg2 hj2) (k H locs lsC _ ⟨ws, tys, hK, hP, hD, hS, ha, hW, ⟨lv, hl, hL⟩, hg, hg2, hg, hg2, hst⟩)
theorem q_pop (hx : p.tables.exec = Jvm.exec) (hb : c.code = cc) {a : eV} (hd : decode cc pc = .ok (.pop, 1)) (hj : isJ a = false) (k : eK p l e R s m args below meth c Q D A al0 oe nL (pc + 1) ls st h cl sl) : eK p l e R s m args below meth c Q D A al0 oe nL pc ls (a :: st) h cl sl := by
  intro H locs lsC stC g
  obtain ⟨ws, tys, hK, hP, hD, hS, ha, hW, ⟨lv, hl, hL⟩, hst⟩ := g
  match stC, hst with
  | v :: stC, ⟨hg, hst⟩ =>
    exact lv_pop hx hb hd (isJ_cat1 hg hj) (k H locs lsC _ ⟨ws, tys, hK, hP, hD, hS, ha, hW, ⟨lv, hl, hL⟩, hst⟩)
theorem q_goto (hx : p.tables.exec = Jvm.exec) (hb : c.code = cc) {off : Int} {tgt : Nat} (hd : decode cc pc = .ok (.goto off, 3)) (ht : (pc : Int) + off = (tgt : Int)) (k : eK p l e R s m args below meth c Q D A al0 oe nL tgt ls st h cl sl) : eK p l e R s m args below meth c Q D A al0 oe nL pc ls st h cl sl := by
  intro H locs lsC stC g
  obtain ⟨ws, tys, hK, hP, hD, hS, ha, hW, ⟨lv, hl, hL⟩, hst⟩ := g
  exact lv_goto hx hb hd ht (k H locs lsC _ ⟨ws, tys, hK, hP, hD, hS, ha, hW, ⟨lv, hl, hL⟩, hst⟩)
theorem q_icmp_eq (hx : p.tables.exec = Jvm.exec) (hb : c.code = cc) {a b : eP} {off : Int} {tgt : Nat} {r : Bool} (hd : decode cc pc = .ok (.if_icmp .eq off, 3)) (ht : (pc : Int) + off = (tgt : Int)) (hr : dC .eq a b = some r) (k : eK p l e R s m args below meth c Q D A al0 oe nL (match r with
  | true => tgt
  | false => pc + 3) ls st h cl sl) : eK p l e R s m args below meth c Q D A al0 oe nL pc ls (eI b :: eI a :: st) h cl sl := by
  intro H locs lsC stC g
  obtain ⟨ws, tys, hK, hP, hD, hS, ha, hW, ⟨lv, hl, hL⟩, hst⟩ := g
  match stC, hst with
  | _ :: _ :: stC, ⟨⟨y, rfl, hy⟩, ⟨x, rfl, hx2⟩, hst⟩ =>
    have hf := dEq_ok (by exact hr) hx2 hy
    cases r with
    | true => exact lv_icmp_eq hx hb hd ht (fun _ => k H locs lsC _ ⟨ws, tys, hK, hP, hD, hS, ha, hW, ⟨lv, hl, hL⟩, hst⟩) (fun z => absurd (hf.mpr rfl) z)
    | false => exact lv_icmp_eq hx hb hd ht (fun z => absurd z (by rw [hf]; exact Bool.false_ne_true)) (fun _ => k H locs lsC _ ⟨ws, tys, hK, hP, hD, hS, ha, hW, ⟨lv, hl, hL⟩, hst⟩)
theorem q_if_eq (hx : p.tables.exec = Jvm.exec) (hb : c.code = cc) {a : eP} {off : Int} {tgt : Nat} {r : Bool} (hd : decode cc pc = .ok (.ifCond .eq off, 3)) (ht : (pc : Int) + off = (tgt : Int)) (hr : dC .eq a (0, 0) = some r) (k : eK p l e R s m args below meth c Q D A al0 oe nL (match r with
  | true => tgt
  | false => pc + 3) ls st h cl sl) : eK p l e R s m args below meth c Q D A al0 oe nL pc ls (eI a :: st) h cl sl := by
  intro H locs lsC stC g
  obtain ⟨ws, tys, hK, hP, hD, hS, ha, hW, ⟨lv, hl, hL⟩, hst⟩ := g
  match stC, hst with
  | _ :: stC, ⟨⟨x, rfl, hx2⟩, hst⟩ =>
    have hy : bt2 (0, 0) (0 : Int32).toInt := ⟨by decide, by decide⟩
    have hf := dEq_ok (by exact hr) hx2 hy
    cases r with
    | true => exact lv_if_eq hx hb hd ht (fun _ => k H locs lsC _ ⟨ws, tys, hK, hP, hD, hS, ha, hW, ⟨lv, hl, hL⟩, hst⟩) (fun z => absurd (hf.mpr rfl) z)
    | false => exact lv_if_eq hx hb hd ht (fun z => absurd z (by rw [hf]; exact Bool.false_ne_true)) (fun _ => k H locs lsC _ ⟨ws, tys, hK, hP, hD, hS, ha, hW, ⟨lv, hl, hL⟩, hst⟩)
theorem q_icmp_ne (hx : p.tables.exec = Jvm.exec) (hb : c.code = cc) {a b : eP} {off : Int} {tgt : Nat} {r : Bool} (hd : decode cc pc = .ok (.if_icmp .ne off, 3)) (ht : (pc : Int) + off = (tgt : Int)) (hr : dC .ne a b = some r) (k : eK p l e R s m args below meth c Q D A al0 oe nL (match r with
  | true => tgt
  | false => pc + 3) ls st h cl sl) : eK p l e R s m args below meth c Q D A al0 oe nL pc ls (eI b :: eI a :: st) h cl sl := by
  intro H locs lsC stC g
  obtain ⟨ws, tys, hK, hP, hD, hS, ha, hW, ⟨lv, hl, hL⟩, hst⟩ := g
  match stC, hst with
  | _ :: _ :: stC, ⟨⟨y, rfl, hy⟩, ⟨x, rfl, hx2⟩, hst⟩ =>
    have hf := dEq_ok (neg_ok hr) hx2 hy
    cases r with
    | true => exact lv_icmp_ne hx hb hd ht (fun _ => k H locs lsC _ ⟨ws, tys, hK, hP, hD, hS, ha, hW, ⟨lv, hl, hL⟩, hst⟩) (fun z => absurd z (by rw [hf]; exact Bool.false_ne_true))
    | false => exact lv_icmp_ne hx hb hd ht (fun z => absurd (hf.mpr rfl) z) (fun _ => k H locs lsC _ ⟨ws, tys, hK, hP, hD, hS, ha, hW, ⟨lv, hl, hL⟩, hst⟩)
theorem q_if_ne (hx : p.tables.exec = Jvm.exec) (hb : c.code = cc) {a : eP} {off : Int} {tgt : Nat} {r : Bool} (hd : decode cc pc = .ok (.ifCond .ne off, 3)) (ht : (pc : Int) + off = (tgt : Int)) (hr : dC .ne a (0, 0) = some r) (k : eK p l e R s m args below meth c Q D A al0 oe nL (match r with
  | true => tgt
  | false => pc + 3) ls st h cl sl) : eK p l e R s m args below meth c Q D A al0 oe nL pc ls (eI a :: st) h cl sl := by
  intro H locs lsC stC g
  obtain ⟨ws, tys, hK, hP, hD, hS, ha, hW, ⟨lv, hl, hL⟩, hst⟩ := g
  match stC, hst with
  | _ :: stC, ⟨⟨x, rfl, hx2⟩, hst⟩ =>
    have hy : bt2 (0, 0) (0 : Int32).toInt := ⟨by decide, by decide⟩
    have hf := dEq_ok (neg_ok hr) hx2 hy
    cases r with
    | true => exact lv_if_ne hx hb hd ht (fun _ => k H locs lsC _ ⟨ws, tys, hK, hP, hD, hS, ha, hW, ⟨lv, hl, hL⟩, hst⟩) (fun z => absurd z (by rw [hf]; exact Bool.false_ne_true))
    | false => exact lv_if_ne hx hb hd ht (fun z => absurd (hf.mpr rfl) z) (fun _ => k H locs lsC _ ⟨ws, tys, hK, hP, hD, hS, ha, hW, ⟨lv, hl, hL⟩, hst⟩)
theorem q_icmp_lt (hx : p.tables.exec = Jvm.exec) (hb : c.code = cc) {a b : eP} {off : Int} {tgt : Nat} {r : Bool} (hd : decode cc pc = .ok (.if_icmp .lt off, 3)) (ht : (pc : Int) + off = (tgt : Int)) (hr : dC .lt a b = some r) (k : eK p l e R s m args below meth c Q D A al0 oe nL (match r with
  | true => tgt
  | false => pc + 3) ls st h cl sl) : eK p l e R s m args below meth c Q D A al0 oe nL pc ls (eI b :: eI a :: st) h cl sl := by
  intro H locs lsC stC g
  obtain ⟨ws, tys, hK, hP, hD, hS, ha, hW, ⟨lv, hl, hL⟩, hst⟩ := g
  match stC, hst with
  | _ :: _ :: stC, ⟨⟨y, rfl, hy⟩, ⟨x, rfl, hx2⟩, hst⟩ =>
    have hf := dLt_ok (by exact hr) hx2 hy
    cases r with
    | true => exact lv_icmp_lt hx hb hd ht (fun _ => k H locs lsC _ ⟨ws, tys, hK, hP, hD, hS, ha, hW, ⟨lv, hl, hL⟩, hst⟩) (fun z => absurd (hf.mpr rfl) z)
    | false => exact lv_icmp_lt hx hb hd ht (fun z => absurd z (by rw [hf]; exact Bool.false_ne_true)) (fun _ => k H locs lsC _ ⟨ws, tys, hK, hP, hD, hS, ha, hW, ⟨lv, hl, hL⟩, hst⟩)
theorem q_if_lt (hx : p.tables.exec = Jvm.exec) (hb : c.code = cc) {a : eP} {off : Int} {tgt : Nat} {r : Bool} (hd : decode cc pc = .ok (.ifCond .lt off, 3)) (ht : (pc : Int) + off = (tgt : Int)) (hr : dC .lt a (0, 0) = some r) (k : eK p l e R s m args below meth c Q D A al0 oe nL (match r with
  | true => tgt
  | false => pc + 3) ls st h cl sl) : eK p l e R s m args below meth c Q D A al0 oe nL pc ls (eI a :: st) h cl sl := by
  intro H locs lsC stC g
  obtain ⟨ws, tys, hK, hP, hD, hS, ha, hW, ⟨lv, hl, hL⟩, hst⟩ := g
  match stC, hst with
  | _ :: stC, ⟨⟨x, rfl, hx2⟩, hst⟩ =>
    have hy : bt2 (0, 0) (0 : Int32).toInt := ⟨by decide, by decide⟩
    have hf := dLt_ok (by exact hr) hx2 hy
    cases r with
    | true => exact lv_if_lt hx hb hd ht (fun _ => k H locs lsC _ ⟨ws, tys, hK, hP, hD, hS, ha, hW, ⟨lv, hl, hL⟩, hst⟩) (fun z => absurd (hf.mpr rfl) z)
    | false => exact lv_if_lt hx hb hd ht (fun z => absurd z (by rw [hf]; exact Bool.false_ne_true)) (fun _ => k H locs lsC _ ⟨ws, tys, hK, hP, hD, hS, ha, hW, ⟨lv, hl, hL⟩, hst⟩)
theorem q_icmp_ge (hx : p.tables.exec = Jvm.exec) (hb : c.code = cc) {a b : eP} {off : Int} {tgt : Nat} {r : Bool} (hd : decode cc pc = .ok (.if_icmp .ge off, 3)) (ht : (pc : Int) + off = (tgt : Int)) (hr : dC .ge a b = some r) (k : eK p l e R s m args below meth c Q D A al0 oe nL (match r with
  | true => tgt
  | false => pc + 3) ls st h cl sl) : eK p l e R s m args below meth c Q D A al0 oe nL pc ls (eI b :: eI a :: st) h cl sl := by
  intro H locs lsC stC g
  obtain ⟨ws, tys, hK, hP, hD, hS, ha, hW, ⟨lv, hl, hL⟩, hst⟩ := g
  match stC, hst with
  | _ :: _ :: stC, ⟨⟨y, rfl, hy⟩, ⟨x, rfl, hx2⟩, hst⟩ =>
    have hf := dLt_ok (neg_ok hr) hx2 hy
    cases r with
    | true => exact lv_icmp_ge hx hb hd ht (fun _ => k H locs lsC _ ⟨ws, tys, hK, hP, hD, hS, ha, hW, ⟨lv, hl, hL⟩, hst⟩) (fun z => absurd (le_nlt.mpr (fun q => absurd (hf.mp q) (by decide))) z)
    | false => exact lv_icmp_ge hx hb hd ht (fun z => absurd (hf.mpr rfl) (le_nlt.mp z)) (fun _ => k H locs lsC _ ⟨ws, tys, hK, hP, hD, hS, ha, hW, ⟨lv, hl, hL⟩, hst⟩)
theorem q_if_ge (hx : p.tables.exec = Jvm.exec) (hb : c.code = cc) {a : eP} {off : Int} {tgt : Nat} {r : Bool} (hd : decode cc pc = .ok (.ifCond .ge off, 3)) (ht : (pc : Int) + off = (tgt : Int)) (hr : dC .ge a (0, 0) = some r) (k : eK p l e R s m args below meth c Q D A al0 oe nL (match r with
  | true => tgt
  | false => pc + 3) ls st h cl sl) : eK p l e R s m args below meth c Q D A al0 oe nL pc ls (eI a :: st) h cl sl := by
  intro H locs lsC stC g
  obtain ⟨ws, tys, hK, hP, hD, hS, ha, hW, ⟨lv, hl, hL⟩, hst⟩ := g
  match stC, hst with
  | _ :: stC, ⟨⟨x, rfl, hx2⟩, hst⟩ =>
    have hy : bt2 (0, 0) (0 : Int32).toInt := ⟨by decide, by decide⟩
    have hf := dLt_ok (neg_ok hr) hx2 hy
    cases r with
    | true => exact lv_if_ge hx hb hd ht (fun _ => k H locs lsC _ ⟨ws, tys, hK, hP, hD, hS, ha, hW, ⟨lv, hl, hL⟩, hst⟩) (fun z => absurd (le_nlt.mpr (fun q => absurd (hf.mp q) (by decide))) z)
    | false => exact lv_if_ge hx hb hd ht (fun z => absurd (hf.mpr rfl) (le_nlt.mp z)) (fun _ => k H locs lsC _ ⟨ws, tys, hK, hP, hD, hS, ha, hW, ⟨lv, hl, hL⟩, hst⟩)
theorem q_icmp_gt (hx : p.tables.exec = Jvm.exec) (hb : c.code = cc) {a b : eP} {off : Int} {tgt : Nat} {r : Bool} (hd : decode cc pc = .ok (.if_icmp .gt off, 3)) (ht : (pc : Int) + off = (tgt : Int)) (hr : dC .gt a b = some r) (k : eK p l e R s m args below meth c Q D A al0 oe nL (match r with
  | true => tgt
  | false => pc + 3) ls st h cl sl) : eK p l e R s m args below meth c Q D A al0 oe nL pc ls (eI b :: eI a :: st) h cl sl := by
  intro H locs lsC stC g
  obtain ⟨ws, tys, hK, hP, hD, hS, ha, hW, ⟨lv, hl, hL⟩, hst⟩ := g
  match stC, hst with
  | _ :: _ :: stC, ⟨⟨y, rfl, hy⟩, ⟨x, rfl, hx2⟩, hst⟩ =>
    have hf := dLt_ok (by exact hr) hy hx2
    cases r with
    | true => exact lv_icmp_gt hx hb hd ht (fun _ => k H locs lsC _ ⟨ws, tys, hK, hP, hD, hS, ha, hW, ⟨lv, hl, hL⟩, hst⟩) (fun z => absurd (hf.mpr rfl) z)
    | false => exact lv_icmp_gt hx hb hd ht (fun z => absurd z (by rw [hf]; exact Bool.false_ne_true)) (fun _ => k H locs lsC _ ⟨ws, tys, hK, hP, hD, hS, ha, hW, ⟨lv, hl, hL⟩, hst⟩)
theorem q_if_gt (hx : p.tables.exec = Jvm.exec) (hb : c.code = cc) {a : eP} {off : Int} {tgt : Nat} {r : Bool} (hd : decode cc pc = .ok (.ifCond .gt off, 3)) (ht : (pc : Int) + off = (tgt : Int)) (hr : dC .gt a (0, 0) = some r) (k : eK p l e R s m args below meth c Q D A al0 oe nL (match r with
  | true => tgt
  | false => pc + 3) ls st h cl sl) : eK p l e R s m args below meth c Q D A al0 oe nL pc ls (eI a :: st) h cl sl := by
  intro H locs lsC stC g
  obtain ⟨ws, tys, hK, hP, hD, hS, ha, hW, ⟨lv, hl, hL⟩, hst⟩ := g
  match stC, hst with
  | _ :: stC, ⟨⟨x, rfl, hx2⟩, hst⟩ =>
    have hy : bt2 (0, 0) (0 : Int32).toInt := ⟨by decide, by decide⟩
    have hf := dLt_ok (by exact hr) hy hx2
    cases r with
    | true => exact lv_if_gt hx hb hd ht (fun _ => k H locs lsC _ ⟨ws, tys, hK, hP, hD, hS, ha, hW, ⟨lv, hl, hL⟩, hst⟩) (fun z => absurd (hf.mpr rfl) z)
    | false => exact lv_if_gt hx hb hd ht (fun z => absurd z (by rw [hf]; exact Bool.false_ne_true)) (fun _ => k H locs lsC _ ⟨ws, tys, hK, hP, hD, hS, ha, hW, ⟨lv, hl, hL⟩, hst⟩)
theorem q_icmp_le (hx : p.tables.exec = Jvm.exec) (hb : c.code = cc) {a b : eP} {off : Int} {tgt : Nat} {r : Bool} (hd : decode cc pc = .ok (.if_icmp .le off, 3)) (ht : (pc : Int) + off = (tgt : Int)) (hr : dC .le a b = some r) (k : eK p l e R s m args below meth c Q D A al0 oe nL (match r with
  | true => tgt
  | false => pc + 3) ls st h cl sl) : eK p l e R s m args below meth c Q D A al0 oe nL pc ls (eI b :: eI a :: st) h cl sl := by
  intro H locs lsC stC g
  obtain ⟨ws, tys, hK, hP, hD, hS, ha, hW, ⟨lv, hl, hL⟩, hst⟩ := g
  match stC, hst with
  | _ :: _ :: stC, ⟨⟨y, rfl, hy⟩, ⟨x, rfl, hx2⟩, hst⟩ =>
    have hf := dLt_ok (neg_ok hr) hy hx2
    cases r with
    | true => exact lv_icmp_le hx hb hd ht (fun _ => k H locs lsC _ ⟨ws, tys, hK, hP, hD, hS, ha, hW, ⟨lv, hl, hL⟩, hst⟩) (fun z => absurd (le_nlt.mpr (fun q => absurd (hf.mp q) (by decide))) z)
    | false => exact lv_icmp_le hx hb hd ht (fun z => absurd (hf.mpr rfl) (le_nlt.mp z)) (fun _ => k H locs lsC _ ⟨ws, tys, hK, hP, hD, hS, ha, hW, ⟨lv, hl, hL⟩, hst⟩)
theorem q_if_le (hx : p.tables.exec = Jvm.exec) (hb : c.code = cc) {a : eP} {off : Int} {tgt : Nat} {r : Bool} (hd : decode cc pc = .ok (.ifCond .le off, 3)) (ht : (pc : Int) + off = (tgt : Int)) (hr : dC .le a (0, 0) = some r) (k : eK p l e R s m args below meth c Q D A al0 oe nL (match r with
  | true => tgt
  | false => pc + 3) ls st h cl sl) : eK p l e R s m args below meth c Q D A al0 oe nL pc ls (eI a :: st) h cl sl := by
  intro H locs lsC stC g
  obtain ⟨ws, tys, hK, hP, hD, hS, ha, hW, ⟨lv, hl, hL⟩, hst⟩ := g
  match stC, hst with
  | _ :: stC, ⟨⟨x, rfl, hx2⟩, hst⟩ =>
    have hy : bt2 (0, 0) (0 : Int32).toInt := ⟨by decide, by decide⟩
    have hf := dLt_ok (neg_ok hr) hy hx2
    cases r with
    | true => exact lv_if_le hx hb hd ht (fun _ => k H locs lsC _ ⟨ws, tys, hK, hP, hD, hS, ha, hW, ⟨lv, hl, hL⟩, hst⟩) (fun z => absurd (le_nlt.mpr (fun q => absurd (hf.mp q) (by decide))) z)
    | false => exact lv_if_le hx hb hd ht (fun z => absurd (hf.mpr rfl) (le_nlt.mp z)) (fun _ => k H locs lsC _ ⟨ws, tys, hK, hP, hD, hS, ha, hW, ⟨lv, hl, hL⟩, hst⟩)
def swO (d lo hi : Int) (offs : Array Int) (a : eP) : Option Int := match iLt a.2 lo || iLt hi a.1 with
  | true => some d
  | false => match one a && iLe lo a.1 && iLe a.1 hi with
    | true => offs[(a.1 - lo).toNat]?
    | false => none
theorem q_tsw (hx : p.tables.exec = Jvm.exec) (hb : c.code = cc) {a : eP} {d lo hi off : Int} {offs : Array Int} {len tgt : Nat} (hd : decode cc pc = .ok (.tableswitch d lo hi offs, len)) (ho : swO d lo hi offs a = some off) (ht : (pc : Int) + off = (tgt : Int)) (k : eK p l e R s m args below meth c Q D A al0 oe nL tgt ls st h cl sl) : eK p l e R s m args below meth c Q D A al0 oe nL pc ls (eI a :: st) h cl sl := by
  intro H locs lsC stC g
  obtain ⟨ws, tys, hK, hP, hD, hS, ha, hW, ⟨lv, hl, hL⟩, hst⟩ := g
  match stC, hst with
  | _ :: stC, ⟨⟨x, rfl, hx2⟩, hst⟩ =>
    have h1 := hx2.1
    have h2 := hx2.2
    unfold swO at ho
    cases c1 : iLt a.2 lo || iLt hi a.1 with
    | true =>
      rw [c1] at ho
      cases ho
      simp only [Bool.or_eq_true, iLt_ok] at c1
      exact lv_tableOut hx hb hd (by omega) ht (k H locs lsC _ ⟨ws, tys, hK, hP, hD, hS, ha, hW, ⟨lv, hl, hL⟩, hst⟩)
    | false =>
      rw [c1] at ho
      dsimp only at ho
      cases c2 : one a && iLe lo a.1 && iLe a.1 hi with
      | true =>
        rw [c2] at ho
        dsimp only at ho
        simp only [one, Bool.and_eq_true, iLe_ok] at c2
        have e : x.toInt = a.1 := by omega
        exact lv_tableIn hx hb hd (by omega) (by omega) (by rw [e]; exact ho) ht (k H locs lsC _ ⟨ws, tys, hK, hP, hD, hS, ha, hW, ⟨lv, hl, hL⟩, hst⟩)
      | false => rw [c2] at ho; cases ho
theorem q_lsw (hx : p.tables.exec = Jvm.exec) (hb : c.code = cc) {a : eP} {d off : Int} {ps : Array (Int × Int)} {len tgt : Nat} (hd : decode cc pc = .ok (.lookupswitch d ps, len)) (hp : (ps.toList.zip (ps.toList.drop 1)).all (fun (a, next) => a.1 < next.1) = true) (ho : ∀ n : Int, bt2 a n → Op.lookupswitch.offset ps.toList d n = off) (ht : (pc : Int) + off = (tgt : Int)) (k : eK p l e R s m args below meth c Q D A al0 oe nL tgt ls st h cl sl) : eK p l e R s m args below meth c Q D A al0 oe nL pc ls (eI a :: st) h cl sl := by
  intro H locs lsC stC g
  obtain ⟨ws, tys, hK, hP, hD, hS, ha, hW, ⟨lv, hl, hL⟩, hst⟩ := g
  match stC, hst with
  | _ :: stC, ⟨⟨x, rfl, hx2⟩, hst⟩ =>
    exact lv_lookup hx hb hd hp (ho _ hx2) ht (k H locs lsC _ ⟨ws, tys, hK, hP, hD, hS, ha, hW, ⟨lv, hl, hL⟩, hst⟩)
end
