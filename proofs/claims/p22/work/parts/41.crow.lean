/-! RUNS, 2: a row for each instruction (printed by wip/engine2/gen40.py) -/
section
variable {p : Program} {l : Launch} {e : Env} {R : Room} {s : State} {m : MethodId} {args : Array Value} {below : List Frame} {meth : Method} {c : Code} {cl sl : Nat} {Q : State → Prop} {D : va_G} {A : Nat → Prop} {al : List Nat} {oe : Nat → Nat} {nL : Nat} {cc : ByteArray} {pc : Nat} {ls : List (Nat × cV)} {st : List cV} {h : List cC}
theorem c_iconst (hx : p.tables.exec = Jvm.exec) (hb : c.code = cc) {n : Int} (hd : decode cc pc = .ok (.iconst n, 1)) (k : cK p l e R s m args below meth c cl sl Q D A al oe nL (pc + 1) ls (cI (Int32.ofInt n) :: st) h) : cK p l e R s m args below meth c cl sl Q D A al oe nL pc ls st h := by
  intro H locs lsC g hl
  exact lv_iconst hx hb hd rfl (k H locs lsC g hl)
theorem c_bipush (hx : p.tables.exec = Jvm.exec) (hb : c.code = cc) {n : Int} (hd : decode cc pc = .ok (.bipush n, 2)) (k : cK p l e R s m args below meth c cl sl Q D A al oe nL (pc + 2) ls (cI ((Int8.ofInt n).toInt32) :: st) h) : cK p l e R s m args below meth c cl sl Q D A al oe nL pc ls st h := by
  intro H locs lsC g hl
  exact lv_bipush hx hb hd rfl (k H locs lsC g hl)
theorem c_sipush (hx : p.tables.exec = Jvm.exec) (hb : c.code = cc) {n : Int} (hd : decode cc pc = .ok (.sipush n, 3)) (k : cK p l e R s m args below meth c cl sl Q D A al oe nL (pc + 3) ls (cI ((Int16.ofInt n).toInt32) :: st) h) : cK p l e R s m args below meth c cl sl Q D A al oe nL pc ls st h := by
  intro H locs lsC g hl
  exact lv_sipush hx hb hd rfl (k H locs lsC g hl)
theorem c_lconst (hx : p.tables.exec = Jvm.exec) (hb : c.code = cc) {n : Fin 2} (hd : decode cc pc = .ok (.lconst n, 1)) (k : cK p l e R s m args below meth c cl sl Q D A al oe nL (pc + 1) ls (cJ (Int64.ofNat (n : Nat)) :: st) h) : cK p l e R s m args below meth c cl sl Q D A al oe nL pc ls st h := by
  intro H locs lsC g hl
  exact lv_lconst hx hb hd rfl (k H locs lsC g hl)
theorem c_iload_n (hx : p.tables.exec = Jvm.exec) (hb : c.code = cc) {n : Fin 4} {x : Int32} (hk : clk ls n.val = some (cI x)) (hd : decode cc pc = .ok (.iload_n n, 1)) (k : cK p l e R s m args below meth c cl sl Q D A al oe nL (pc + 1) ls (cI x :: st) h) : cK p l e R s m args below meth c cl sl Q D A al oe nL pc ls st h := by
  intro H locs lsC g hl
  exact lv_iload_n hx hb hd rfl (tl_at hl hk) (k H locs lsC g hl)
theorem c_iload (hx : p.tables.exec = Jvm.exec) (hb : c.code = cc) {n : Nat} {x : Int32} (hk : clk ls n = some (cI x)) (hd : decode cc pc = .ok (.iload n, 2)) (k : cK p l e R s m args below meth c cl sl Q D A al oe nL (pc + 2) ls (cI x :: st) h) : cK p l e R s m args below meth c cl sl Q D A al oe nL pc ls st h := by
  intro H locs lsC g hl
  exact lv_iload hx hb hd (tl_at hl hk) (k H locs lsC g hl)
theorem c_lload_n (hx : p.tables.exec = Jvm.exec) (hb : c.code = cc) {n : Fin 4} {x : Int64} (hk : clk ls n.val = some (cJ x)) (hd : decode cc pc = .ok (.lload_n n, 1)) (k : cK p l e R s m args below meth c cl sl Q D A al oe nL (pc + 1) ls (cJ x :: st) h) : cK p l e R s m args below meth c cl sl Q D A al oe nL pc ls st h := by
  intro H locs lsC g hl
  exact lv_lload_n hx hb hd rfl (tl_at hl hk) (k H locs lsC g hl)
theorem c_lload (hx : p.tables.exec = Jvm.exec) (hb : c.code = cc) {n : Nat} {x : Int64} (hk : clk ls n = some (cJ x)) (hd : decode cc pc = .ok (.lload n, 2)) (k : cK p l e R s m args below meth c cl sl Q D A al oe nL (pc + 2) ls (cJ x :: st) h) : cK p l e R s m args below meth c cl sl Q D A al oe nL pc ls st h := by
  intro H locs lsC g hl
  exact lv_lload hx hb hd (tl_at hl hk) (k H locs lsC g hl)
theorem c_aload_nR (hx : p.tables.exec = Jvm.exec) (hb : c.code = cc) {n : Fin 4} {x : Nat} (hk : clk ls n.val = some (cR x)) (hd : decode cc pc = .ok (.aload_n n, 1)) (k : cK p l e R s m args below meth c cl sl Q D A al oe nL (pc + 1) ls (cR x :: st) h) : cK p l e R s m args below meth c cl sl Q D A al oe nL pc ls st h := by
  intro H locs lsC g hl
  exact lv_aload_n hx hb hd rfl (tl_at hl hk) (k H locs lsC g hl)
theorem c_aloadR (hx : p.tables.exec = Jvm.exec) (hb : c.code = cc) {n : Nat} {x : Nat} (hk : clk ls n = some (cR x)) (hd : decode cc pc = .ok (.aload n, 2)) (k : cK p l e R s m args below meth c cl sl Q D A al oe nL (pc + 2) ls (cR x :: st) h) : cK p l e R s m args below meth c cl sl Q D A al oe nL pc ls st h := by
  intro H locs lsC g hl
  exact lv_aload hx hb hd (tl_at hl hk) (k H locs lsC g hl)
theorem c_aload_nO (hx : p.tables.exec = Jvm.exec) (hb : c.code = cc) {n : Fin 4} {x : Nat} (h9 : Nat.beq x 99 = false) (hk : clk ls n.val = some (cO x)) (hd : decode cc pc = .ok (.aload_n n, 1)) (k : cK p l e R s m args below meth c cl sl Q D A al oe nL (pc + 1) ls (cO x :: st) h) : cK p l e R s m args below meth c cl sl Q D A al oe nL pc ls st h := by
  intro H locs lsC g hl
  have k9 := k H locs lsC g hl
  have t9 := tl_at hl hk
  rw [List.map_cons, tv_O h9] at k9
  rw [tv_O h9] at t9
  exact lv_aload_n hx hb hd rfl t9 k9
theorem c_aloadO (hx : p.tables.exec = Jvm.exec) (hb : c.code = cc) {n : Nat} {x : Nat} (h9 : Nat.beq x 99 = false) (hk : clk ls n = some (cO x)) (hd : decode cc pc = .ok (.aload n, 2)) (k : cK p l e R s m args below meth c cl sl Q D A al oe nL (pc + 2) ls (cO x :: st) h) : cK p l e R s m args below meth c cl sl Q D A al oe nL pc ls st h := by
  intro H locs lsC g hl
  have k9 := k H locs lsC g hl
  have t9 := tl_at hl hk
  rw [List.map_cons, tv_O h9] at k9
  rw [tv_O h9] at t9
  exact lv_aload hx hb hd t9 k9
theorem c_istore (hx : p.tables.exec = Jvm.exec) (hb : c.code = cc) {n : Nat} {x : Int32} (hn : n < nL) (hd : decode cc pc = .ok (.istore n, 2)) (k : cK p l e R s m args below meth c cl sl Q D A al oe nL (pc + 2) ((n, cI x) :: ls.filter (ckI n)) st h) : cK p l e R s m args below meth c cl sl Q D A al oe nL pc ls (cI x :: st) h := by
  intro H locs lsC g hl
  exact lv_istore hx hb hd hl hn rfl (fun ls2 hl2 => k H locs ls2 g (by rw [tl_I] at hl2; exact hl2))
theorem c_istore_n (hx : p.tables.exec = Jvm.exec) (hb : c.code = cc) {n : Fin 4} {x : Int32} (hn : n.val < nL) (hd : decode cc pc = .ok (.istore_n n, 1)) (k : cK p l e R s m args below meth c cl sl Q D A al oe nL (pc + 1) ((n.val, cI x) :: ls.filter (ckI n.val)) st h) : cK p l e R s m args below meth c cl sl Q D A al oe nL pc ls (cI x :: st) h := by
  intro H locs lsC g hl
  exact lv_istore_n hx hb hd rfl hl hn rfl (fun ls2 hl2 => k H locs ls2 g (by rw [tl_I] at hl2; exact hl2))
theorem c_lstore (hx : p.tables.exec = Jvm.exec) (hb : c.code = cc) {n : Nat} {x : Int64} (hn : n + 1 < nL) (hd : decode cc pc = .ok (.lstore n, 2)) (k : cK p l e R s m args below meth c cl sl Q D A al oe nL (pc + 2) ((n, cJ x) :: ls.filter (ckJ n)) st h) : cK p l e R s m args below meth c cl sl Q D A al oe nL pc ls (cJ x :: st) h := by
  intro H locs lsC g hl
  exact lv_lstore hx hb hd hl hn rfl (fun ls2 hl2 => k H locs ls2 g (by rw [tl_J] at hl2; exact hl2))
theorem c_lstore_n (hx : p.tables.exec = Jvm.exec) (hb : c.code = cc) {n : Fin 4} {x : Int64} (hn : n.val + 1 < nL) (hd : decode cc pc = .ok (.lstore_n n, 1)) (k : cK p l e R s m args below meth c cl sl Q D A al oe nL (pc + 1) ((n.val, cJ x) :: ls.filter (ckJ n.val)) st h) : cK p l e R s m args below meth c cl sl Q D A al oe nL pc ls (cJ x :: st) h := by
  intro H locs lsC g hl
  exact lv_lstore_n hx hb hd rfl hl hn rfl (fun ls2 hl2 => k H locs ls2 g (by rw [tl_J] at hl2; exact hl2))
theorem c_astoreR (hx : p.tables.exec = Jvm.exec) (hb : c.code = cc) {n : Nat} {x : Nat} (hn : n < nL) (hd : decode cc pc = .ok (.astore n, 2)) (k : cK p l e R s m args below meth c cl sl Q D A al oe nL (pc + 2) ((n, cR x) :: ls.filter (ckI n)) st h) : cK p l e R s m args below meth c cl sl Q D A al oe nL pc ls (cR x :: st) h := by
  intro H locs lsC g hl
  exact lv_astore hx hb hd hl hn rfl (fun ls2 hl2 => k H locs ls2 g (by rw [tl_I] at hl2; exact hl2))
theorem c_astore_nR (hx : p.tables.exec = Jvm.exec) (hb : c.code = cc) {n : Fin 4} {x : Nat} (hn : n.val < nL) (hd : decode cc pc = .ok (.astore_n n, 1)) (k : cK p l e R s m args below meth c cl sl Q D A al oe nL (pc + 1) ((n.val, cR x) :: ls.filter (ckI n.val)) st h) : cK p l e R s m args below meth c cl sl Q D A al oe nL pc ls (cR x :: st) h := by
  intro H locs lsC g hl
  exact lv_astore_n hx hb hd rfl hl hn rfl (fun ls2 hl2 => k H locs ls2 g (by rw [tl_I] at hl2; exact hl2))
theorem c_iinc (hx : p.tables.exec = Jvm.exec) (hb : c.code = cc) {i : Nat} {n : Int} {x : Int32} (hk : clk ls i = some (cI x)) (hn : i < nL) (hd : decode cc pc = .ok (.iinc i n, 3)) (k : cK p l e R s m args below meth c cl sl Q D A al oe nL (pc + 3) ((i, cI (x + Int32.ofInt n)) :: ls.filter (ckI i)) st h) : cK p l e R s m args below meth c cl sl Q D A al oe nL pc ls st h := by
  intro H locs lsC g hl
  obtain ⟨j, hj⟩ := List.getElem?_of_mem (show (i, Value.int x) ∈ tl al oe ls from List.mem_map.mpr ⟨(i, cI x), clk_mem hk, rfl⟩)
  exact lv_iinc hx hb hd hl hj rfl hn rfl (fun ls2 hl2 => k H locs ls2 g (by rw [tl_I] at hl2; exact hl2))
theorem c_iadd (hx : p.tables.exec = Jvm.exec) (hb : c.code = cc) {x y : Int32} (hd : decode cc pc = .ok (.iadd, 1)) (k : cK p l e R s m args below meth c cl sl Q D A al oe nL (pc + 1) ls (cI (x + y) :: st) h) : cK p l e R s m args below meth c cl sl Q D A al oe nL pc ls (cI y :: cI x :: st) h := by
  intro H locs lsC g hl
  exact lv_iadd hx hb hd (k H locs lsC g hl)
theorem c_isub (hx : p.tables.exec = Jvm.exec) (hb : c.code = cc) {x y : Int32} (hd : decode cc pc = .ok (.isub, 1)) (k : cK p l e R s m args below meth c cl sl Q D A al oe nL (pc + 1) ls (cI (x - y) :: st) h) : cK p l e R s m args below meth c cl sl Q D A al oe nL pc ls (cI y :: cI x :: st) h := by
  intro H locs lsC g hl
  exact lv_isub hx hb hd (k H locs lsC g hl)
theorem c_imul (hx : p.tables.exec = Jvm.exec) (hb : c.code = cc) {x y : Int32} (hd : decode cc pc = .ok (.imul, 1)) (k : cK p l e R s m args below meth c cl sl Q D A al oe nL (pc + 1) ls (cI (x * y) :: st) h) : cK p l e R s m args below meth c cl sl Q D A al oe nL pc ls (cI y :: cI x :: st) h := by
  intro H locs lsC g hl
  exact lv_imul hx hb hd (k H locs lsC g hl)
theorem c_iand (hx : p.tables.exec = Jvm.exec) (hb : c.code = cc) {x y : Int32} (hd : decode cc pc = .ok (.iand, 1)) (k : cK p l e R s m args below meth c cl sl Q D A al oe nL (pc + 1) ls (cI (x &&& y) :: st) h) : cK p l e R s m args below meth c cl sl Q D A al oe nL pc ls (cI y :: cI x :: st) h := by
  intro H locs lsC g hl
  exact lv_iand hx hb hd (k H locs lsC g hl)
theorem c_ior (hx : p.tables.exec = Jvm.exec) (hb : c.code = cc) {x y : Int32} (hd : decode cc pc = .ok (.ior, 1)) (k : cK p l e R s m args below meth c cl sl Q D A al oe nL (pc + 1) ls (cI (x ||| y) :: st) h) : cK p l e R s m args below meth c cl sl Q D A al oe nL pc ls (cI y :: cI x :: st) h := by
  intro H locs lsC g hl
  exact lv_ior hx hb hd (k H locs lsC g hl)
theorem c_ixor (hx : p.tables.exec = Jvm.exec) (hb : c.code = cc) {x y : Int32} (hd : decode cc pc = .ok (.ixor, 1)) (k : cK p l e R s m args below meth c cl sl Q D A al oe nL (pc + 1) ls (cI (x ^^^ y) :: st) h) : cK p l e R s m args below meth c cl sl Q D A al oe nL pc ls (cI y :: cI x :: st) h := by
  intro H locs lsC g hl
  exact lv_ixor hx hb hd (k H locs lsC g hl)
theorem c_ishl (hx : p.tables.exec = Jvm.exec) (hb : c.code = cc) {x y : Int32} (hd : decode cc pc = .ok (.ishl, 1)) (k : cK p l e R s m args below meth c cl sl Q D A al oe nL (pc + 1) ls (cI (x <<< (y &&& 31)) :: st) h) : cK p l e R s m args below meth c cl sl Q D A al oe nL pc ls (cI y :: cI x :: st) h := by
  intro H locs lsC g hl
  exact lv_ishl hx hb hd (k H locs lsC g hl)
theorem c_ishr (hx : p.tables.exec = Jvm.exec) (hb : c.code = cc) {x y : Int32} (hd : decode cc pc = .ok (.ishr, 1)) (k : cK p l e R s m args below meth c cl sl Q D A al oe nL (pc + 1) ls (cI (x >>> (y &&& 31)) :: st) h) : cK p l e R s m args below meth c cl sl Q D A al oe nL pc ls (cI y :: cI x :: st) h := by
  intro H locs lsC g hl
  exact lv_ishr hx hb hd (k H locs lsC g hl)
theorem c_iushr (hx : p.tables.exec = Jvm.exec) (hb : c.code = cc) {x y : Int32} (hd : decode cc pc = .ok (.iushr, 1)) (k : cK p l e R s m args below meth c cl sl Q D A al oe nL (pc + 1) ls (cI ((x.toUInt32 >>> (y.toUInt32 &&& Int32.toUInt32 31)).toInt32) :: st) h) : cK p l e R s m args below meth c cl sl Q D A al oe nL pc ls (cI y :: cI x :: st) h := by
  intro H locs lsC g hl
  exact lv_iushr hx hb hd rfl (k H locs lsC g hl)
theorem c_idiv (hx : p.tables.exec = Jvm.exec) (hb : c.code = cc) {x y : Int32} (hne : ¬ y = 0) (hd : decode cc pc = .ok (.idiv, 1)) (k : cK p l e R s m args below meth c cl sl Q D A al oe nL (pc + 1) ls (cI (x / y) :: st) h) : cK p l e R s m args below meth c cl sl Q D A al oe nL pc ls (cI y :: cI x :: st) h := by
  intro H locs lsC g hl
  exact lv_idiv hx hb hd hne (k H locs lsC g hl)
theorem c_irem (hx : p.tables.exec = Jvm.exec) (hb : c.code = cc) {x y : Int32} (hne : ¬ y = 0) (hd : decode cc pc = .ok (.irem, 1)) (k : cK p l e R s m args below meth c cl sl Q D A al oe nL (pc + 1) ls (cI (x - x / y * y) :: st) h) : cK p l e R s m args below meth c cl sl Q D A al oe nL pc ls (cI y :: cI x :: st) h := by
  intro H locs lsC g hl
  exact lv_irem hx hb hd hne (k H locs lsC g hl)
theorem c_ladd (hx : p.tables.exec = Jvm.exec) (hb : c.code = cc) {x y : Int64} (hd : decode cc pc = .ok (.ladd, 1)) (k : cK p l e R s m args below meth c cl sl Q D A al oe nL (pc + 1) ls (cJ (x + y) :: st) h) : cK p l e R s m args below meth c cl sl Q D A al oe nL pc ls (cJ y :: cJ x :: st) h := by
  intro H locs lsC g hl
  exact lv_ladd hx hb hd (k H locs lsC g hl)
theorem c_lsub (hx : p.tables.exec = Jvm.exec) (hb : c.code = cc) {x y : Int64} (hd : decode cc pc = .ok (.lsub, 1)) (k : cK p l e R s m args below meth c cl sl Q D A al oe nL (pc + 1) ls (cJ (x - y) :: st) h) : cK p l e R s m args below meth c cl sl Q D A al oe nL pc ls (cJ y :: cJ x :: st) h := by
  intro H locs lsC g hl
  exact lv_lsub hx hb hd (k H locs lsC g hl)
theorem c_lmul (hx : p.tables.exec = Jvm.exec) (hb : c.code = cc) {x y : Int64} (hd : decode cc pc = .ok (.lmul, 1)) (k : cK p l e R s m args below meth c cl sl Q D A al oe nL (pc + 1) ls (cJ (x * y) :: st) h) : cK p l e R s m args below meth c cl sl Q D A al oe nL pc ls (cJ y :: cJ x :: st) h := by
  intro H locs lsC g hl
  exact lv_lmul hx hb hd (k H locs lsC g hl)
theorem c_land (hx : p.tables.exec = Jvm.exec) (hb : c.code = cc) {x y : Int64} (hd : decode cc pc = .ok (.land, 1)) (k : cK p l e R s m args below meth c cl sl Q D A al oe nL (pc + 1) ls (cJ (x &&& y) :: st) h) : cK p l e R s m args below meth c cl sl Q D A al oe nL pc ls (cJ y :: cJ x :: st) h := by
  intro H locs lsC g hl
  exact lv_land hx hb hd (k H locs lsC g hl)
theorem c_lor (hx : p.tables.exec = Jvm.exec) (hb : c.code = cc) {x y : Int64} (hd : decode cc pc = .ok (.lor, 1)) (k : cK p l e R s m args below meth c cl sl Q D A al oe nL (pc + 1) ls (cJ (x ||| y) :: st) h) : cK p l e R s m args below meth c cl sl Q D A al oe nL pc ls (cJ y :: cJ x :: st) h := by
  intro H locs lsC g hl
  exact lv_lor hx hb hd (k H locs lsC g hl)
theorem c_ldiv (hx : p.tables.exec = Jvm.exec) (hb : c.code = cc) {x y : Int64} (hne : ¬ y = 0) (hd : decode cc pc = .ok (.ldiv, 1)) (k : cK p l e R s m args below meth c cl sl Q D A al oe nL (pc + 1) ls (cJ (x / y) :: st) h) : cK p l e R s m args below meth c cl sl Q D A al oe nL pc ls (cJ y :: cJ x :: st) h := by
  intro H locs lsC g hl
  exact lv_ldiv hx hb hd hne (k H locs lsC g hl)
theorem c_lrem (hx : p.tables.exec = Jvm.exec) (hb : c.code = cc) {x y : Int64} (hne : ¬ y = 0) (hd : decode cc pc = .ok (.lrem, 1)) (k : cK p l e R s m args below meth c cl sl Q D A al oe nL (pc + 1) ls (cJ (x - x / y * y) :: st) h) : cK p l e R s m args below meth c cl sl Q D A al oe nL pc ls (cJ y :: cJ x :: st) h := by
  intro H locs lsC g hl
  exact lv_lrem hx hb hd hne (k H locs lsC g hl)
theorem c_lshl (hx : p.tables.exec = Jvm.exec) (hb : c.code = cc) {x : Int64} {y : Int32} (hd : decode cc pc = .ok (.lshl, 1)) (k : cK p l e R s m args below meth c cl sl Q D A al oe nL (pc + 1) ls (cJ (x <<< (y.toInt64 &&& 63)) :: st) h) : cK p l e R s m args below meth c cl sl Q D A al oe nL pc ls (cI y :: cJ x :: st) h := by
  intro H locs lsC g hl
  exact lv_lshl hx hb hd rfl (k H locs lsC g hl)
theorem c_lushr (hx : p.tables.exec = Jvm.exec) (hb : c.code = cc) {x : Int64} {y : Int32} (hd : decode cc pc = .ok (.lushr, 1)) (k : cK p l e R s m args below meth c cl sl Q D A al oe nL (pc + 1) ls (cJ ((x.toUInt64 >>> (y.toInt64.toUInt64 &&& Int64.toUInt64 63)).toInt64) :: st) h) : cK p l e R s m args below meth c cl sl Q D A al oe nL pc ls (cI y :: cJ x :: st) h := by
  intro H locs lsC g hl
  exact lv_lushr hx hb hd rfl (k H locs lsC g hl)
theorem c_lcmp (hx : p.tables.exec = Jvm.exec) (hb : c.code = cc) {x y : Int64} (hd : decode cc pc = .ok (.lcmp, 1)) (k : cK p l e R s m args below meth c cl sl Q D A al oe nL (pc + 1) ls (cI (lg_cmp x y) :: st) h) : cK p l e R s m args below meth c cl sl Q D A al oe nL pc ls (cJ y :: cJ x :: st) h := by
  intro H locs lsC g hl
  exact W.lcmp hx hb hd (k H locs lsC g hl)
theorem c_i2l (hx : p.tables.exec = Jvm.exec) (hb : c.code = cc) {x : Int32} (hd : decode cc pc = .ok (.i2l, 1)) (k : cK p l e R s m args below meth c cl sl Q D A al oe nL (pc + 1) ls (cJ x.toInt64 :: st) h) : cK p l e R s m args below meth c cl sl Q D A al oe nL pc ls (cI x :: st) h := by
  intro H locs lsC g hl
  exact lv_i2l hx hb hd rfl (k H locs lsC g hl)
theorem c_l2i (hx : p.tables.exec = Jvm.exec) (hb : c.code = cc) {x : Int64} (hd : decode cc pc = .ok (.l2i, 1)) (k : cK p l e R s m args below meth c cl sl Q D A al oe nL (pc + 1) ls (cI x.toInt32 :: st) h) : cK p l e R s m args below meth c cl sl Q D A al oe nL pc ls (cJ x :: st) h := by
  intro H locs lsC g hl
  exact lv_l2i hx hb hd rfl (k H locs lsC g hl)
theorem c_i2b (hx : p.tables.exec = Jvm.exec) (hb : c.code = cc) {x : Int32} (hd : decode cc pc = .ok (.i2b, 1)) (k : cK p l e R s m args below meth c cl sl Q D A al oe nL (pc + 1) ls (cI x.toInt8.toInt32 :: st) h) : cK p l e R s m args below meth c cl sl Q D A al oe nL pc ls (cI x :: st) h := by
  intro H locs lsC g hl
  exact lv_i2b hx hb hd rfl (k H locs lsC g hl)
theorem c_i2c (hx : p.tables.exec = Jvm.exec) (hb : c.code = cc) {x : Int32} (hd : decode cc pc = .ok (.i2c, 1)) (k : cK p l e R s m args below meth c cl sl Q D A al oe nL (pc + 1) ls (cI (x.toUInt32 % 65536).toInt32 :: st) h) : cK p l e R s m args below meth c cl sl Q D A al oe nL pc ls (cI x :: st) h := by
  intro H locs lsC g hl
  exact lv_i2c hx hb hd rfl (k H locs lsC g hl)
theorem c_dup (hx : p.tables.exec = Jvm.exec) (hb : c.code = cc) {a : cV} (hw : wide a = false) (hd : decode cc pc = .ok (.dup, 1)) (k : cK p l e R s m args below meth c cl sl Q D A al oe nL (pc + 1) ls (a :: a :: st) h) : cK p l e R s m args below meth c cl sl Q D A al oe nL pc ls (a :: st) h := by
  intro H locs lsC g hl
  exact lv_dup hx hb hd (wide_f hw) (k H locs lsC g hl)
theorem c_dup2 (hx : p.tables.exec = Jvm.exec) (hb : c.code = cc) {a b : cV} (hw : wide a = false) (hw2 : wide b = false) (hd : decode cc pc = .ok (.dup2, 1)) (k : cK p l e R s m args below meth c cl sl Q D A al oe nL (pc + 1) ls (a :: b :: a :: b :: st) h) : cK p l e R s m args below meth c cl sl Q D A al oe nL pc ls (a :: b :: st) h := by
  intro H locs lsC g hl
  exact lv_dup2_11 hx hb hd (wide_f hw) (wide_f hw2) (k H locs lsC g hl)
theorem c_pop (hx : p.tables.exec = Jvm.exec) (hb : c.code = cc) {a : cV} (hw : wide a = false) (hd : decode cc pc = .ok (.pop, 1)) (k : cK p l e R s m args below meth c cl sl Q D A al oe nL (pc + 1) ls st h) : cK p l e R s m args below meth c cl sl Q D A al oe nL pc ls (a :: st) h := by
  intro H locs lsC g hl
  exact lv_pop hx hb hd (wide_f hw) (k H locs lsC g hl)
theorem c_goto (hx : p.tables.exec = Jvm.exec) (hb : c.code = cc) {off : Int} {tgt : Nat} (ht : (pc : Int) + off = (tgt : Int)) (hd : decode cc pc = .ok (.goto off, 3)) (k : cK p l e R s m args below meth c cl sl Q D A al oe nL tgt ls st h) : cK p l e R s m args below meth c cl sl Q D A al oe nL pc ls st h := by
  intro H locs lsC g hl
  exact lv_goto hx hb hd ht (k H locs lsC g hl)
def cDec (k : ClassFile.Cond) (x y : Int32) : Bool := match k with
  | .eq => decide (x = y)
  | .ne => decide (¬ x = y)
  | .lt => decide (x < y)
  | .ge => decide (y ≤ x)
  | .gt => decide (y < x)
  | .le => decide (x ≤ y)
theorem c_if_eq (hx : p.tables.exec = Jvm.exec) (hb : c.code = cc) {x : Int32} {off : Int} {tgt : Nat} (ht : (pc : Int) + off = (tgt : Int)) (hd : decode cc pc = .ok (.ifCond .eq off, 3)) (k : cK p l e R s m args below meth c cl sl Q D A al oe nL (match cDec .eq x 0 with
  | true => tgt
  | false => pc + 3) ls st h) : cK p l e R s m args below meth c cl sl Q D A al oe nL pc ls (cI x :: st) h := by
  intro H locs lsC g hl
  by_cases hP : x = 0
  · have e1 : cDec .eq x 0 = true := decide_eq_true hP
    rw [e1] at k
    exact lv_if_eq hx hb hd ht (fun _ => k H locs lsC g hl) (fun z => absurd hP z)
  · have e1 : cDec .eq x 0 = false := decide_eq_false hP
    rw [e1] at k
    exact lv_if_eq hx hb hd ht (fun z => absurd z hP) (fun _ => k H locs lsC g hl)
theorem c_icmp_eq (hx : p.tables.exec = Jvm.exec) (hb : c.code = cc) {x y : Int32} {off : Int} {tgt : Nat} (ht : (pc : Int) + off = (tgt : Int)) (hd : decode cc pc = .ok (.if_icmp .eq off, 3)) (k : cK p l e R s m args below meth c cl sl Q D A al oe nL (match cDec .eq x y with
  | true => tgt
  | false => pc + 3) ls st h) : cK p l e R s m args below meth c cl sl Q D A al oe nL pc ls (cI y :: cI x :: st) h := by
  intro H locs lsC g hl
  by_cases hP : x = y
  · have e1 : cDec .eq x y = true := decide_eq_true hP
    rw [e1] at k
    exact lv_icmp_eq hx hb hd ht (fun _ => k H locs lsC g hl) (fun z => absurd hP z)
  · have e1 : cDec .eq x y = false := decide_eq_false hP
    rw [e1] at k
    exact lv_icmp_eq hx hb hd ht (fun z => absurd z hP) (fun _ => k H locs lsC g hl)
theorem c_if_ne (hx : p.tables.exec = Jvm.exec) (hb : c.code = cc) {x : Int32} {off : Int} {tgt : Nat} (ht : (pc : Int) + off = (tgt : Int)) (hd : decode cc pc = .ok (.ifCond .ne off, 3)) (k : cK p l e R s m args below meth c cl sl Q D A al oe nL (match cDec .ne x 0 with
  | true => tgt
  | false => pc + 3) ls st h) : cK p l e R s m args below meth c cl sl Q D A al oe nL pc ls (cI x :: st) h := by
  intro H locs lsC g hl
  by_cases hP : ¬ x = 0
  · have e1 : cDec .ne x 0 = true := decide_eq_true hP
    rw [e1] at k
    exact lv_if_ne hx hb hd ht (fun _ => k H locs lsC g hl) (fun z => absurd z hP)
  · have e1 : cDec .ne x 0 = false := decide_eq_false hP
    rw [e1] at k
    exact lv_if_ne hx hb hd ht (fun z => absurd z hP) (fun _ => k H locs lsC g hl)
theorem c_icmp_ne (hx : p.tables.exec = Jvm.exec) (hb : c.code = cc) {x y : Int32} {off : Int} {tgt : Nat} (ht : (pc : Int) + off = (tgt : Int)) (hd : decode cc pc = .ok (.if_icmp .ne off, 3)) (k : cK p l e R s m args below meth c cl sl Q D A al oe nL (match cDec .ne x y with
  | true => tgt
  | false => pc + 3) ls st h) : cK p l e R s m args below meth c cl sl Q D A al oe nL pc ls (cI y :: cI x :: st) h := by
  intro H locs lsC g hl
  by_cases hP : ¬ x = y
  · have e1 : cDec .ne x y = true := decide_eq_true hP
    rw [e1] at k
    exact lv_icmp_ne hx hb hd ht (fun _ => k H locs lsC g hl) (fun z => absurd z hP)
  · have e1 : cDec .ne x y = false := decide_eq_false hP
    rw [e1] at k
    exact lv_icmp_ne hx hb hd ht (fun z => absurd z hP) (fun _ => k H locs lsC g hl)
theorem c_if_lt (hx : p.tables.exec = Jvm.exec) (hb : c.code = cc) {x : Int32} {off : Int} {tgt : Nat} (ht : (pc : Int) + off = (tgt : Int)) (hd : decode cc pc = .ok (.ifCond .lt off, 3)) (k : cK p l e R s m args below meth c cl sl Q D A al oe nL (match cDec .lt x 0 with
  | true => tgt
  | false => pc + 3) ls st h) : cK p l e R s m args below meth c cl sl Q D A al oe nL pc ls (cI x :: st) h := by
  intro H locs lsC g hl
  by_cases hP : x < 0
  · have e1 : cDec .lt x 0 = true := decide_eq_true hP
    rw [e1] at k
    exact lv_if_lt hx hb hd ht (fun _ => k H locs lsC g hl) (fun z => absurd hP z)
  · have e1 : cDec .lt x 0 = false := decide_eq_false hP
    rw [e1] at k
    exact lv_if_lt hx hb hd ht (fun z => absurd z hP) (fun _ => k H locs lsC g hl)
theorem c_icmp_lt (hx : p.tables.exec = Jvm.exec) (hb : c.code = cc) {x y : Int32} {off : Int} {tgt : Nat} (ht : (pc : Int) + off = (tgt : Int)) (hd : decode cc pc = .ok (.if_icmp .lt off, 3)) (k : cK p l e R s m args below meth c cl sl Q D A al oe nL (match cDec .lt x y with
  | true => tgt
  | false => pc + 3) ls st h) : cK p l e R s m args below meth c cl sl Q D A al oe nL pc ls (cI y :: cI x :: st) h := by
  intro H locs lsC g hl
  by_cases hP : x < y
  · have e1 : cDec .lt x y = true := decide_eq_true hP
    rw [e1] at k
    exact lv_icmp_lt hx hb hd ht (fun _ => k H locs lsC g hl) (fun z => absurd hP z)
  · have e1 : cDec .lt x y = false := decide_eq_false hP
    rw [e1] at k
    exact lv_icmp_lt hx hb hd ht (fun z => absurd z hP) (fun _ => k H locs lsC g hl)
theorem c_if_ge (hx : p.tables.exec = Jvm.exec) (hb : c.code = cc) {x : Int32} {off : Int} {tgt : Nat} (ht : (pc : Int) + off = (tgt : Int)) (hd : decode cc pc = .ok (.ifCond .ge off, 3)) (k : cK p l e R s m args below meth c cl sl Q D A al oe nL (match cDec .ge x 0 with
  | true => tgt
  | false => pc + 3) ls st h) : cK p l e R s m args below meth c cl sl Q D A al oe nL pc ls (cI x :: st) h := by
  intro H locs lsC g hl
  by_cases hP : 0 ≤ x
  · have e1 : cDec .ge x 0 = true := decide_eq_true hP
    rw [e1] at k
    exact lv_if_ge hx hb hd ht (fun _ => k H locs lsC g hl) (fun z => absurd hP z)
  · have e1 : cDec .ge x 0 = false := decide_eq_false hP
    rw [e1] at k
    exact lv_if_ge hx hb hd ht (fun z => absurd z hP) (fun _ => k H locs lsC g hl)
theorem c_icmp_ge (hx : p.tables.exec = Jvm.exec) (hb : c.code = cc) {x y : Int32} {off : Int} {tgt : Nat} (ht : (pc : Int) + off = (tgt : Int)) (hd : decode cc pc = .ok (.if_icmp .ge off, 3)) (k : cK p l e R s m args below meth c cl sl Q D A al oe nL (match cDec .ge x y with
  | true => tgt
  | false => pc + 3) ls st h) : cK p l e R s m args below meth c cl sl Q D A al oe nL pc ls (cI y :: cI x :: st) h := by
  intro H locs lsC g hl
  by_cases hP : y ≤ x
  · have e1 : cDec .ge x y = true := decide_eq_true hP
    rw [e1] at k
    exact lv_icmp_ge hx hb hd ht (fun _ => k H locs lsC g hl) (fun z => absurd hP z)
  · have e1 : cDec .ge x y = false := decide_eq_false hP
    rw [e1] at k
    exact lv_icmp_ge hx hb hd ht (fun z => absurd z hP) (fun _ => k H locs lsC g hl)
theorem c_if_gt (hx : p.tables.exec = Jvm.exec) (hb : c.code = cc) {x : Int32} {off : Int} {tgt : Nat} (ht : (pc : Int) + off = (tgt : Int)) (hd : decode cc pc = .ok (.ifCond .gt off, 3)) (k : cK p l e R s m args below meth c cl sl Q D A al oe nL (match cDec .gt x 0 with
  | true => tgt
  | false => pc + 3) ls st h) : cK p l e R s m args below meth c cl sl Q D A al oe nL pc ls (cI x :: st) h := by
  intro H locs lsC g hl
  by_cases hP : 0 < x
  · have e1 : cDec .gt x 0 = true := decide_eq_true hP
    rw [e1] at k
    exact lv_if_gt hx hb hd ht (fun _ => k H locs lsC g hl) (fun z => absurd hP z)
  · have e1 : cDec .gt x 0 = false := decide_eq_false hP
    rw [e1] at k
    exact lv_if_gt hx hb hd ht (fun z => absurd z hP) (fun _ => k H locs lsC g hl)
theorem c_icmp_gt (hx : p.tables.exec = Jvm.exec) (hb : c.code = cc) {x y : Int32} {off : Int} {tgt : Nat} (ht : (pc : Int) + off = (tgt : Int)) (hd : decode cc pc = .ok (.if_icmp .gt off, 3)) (k : cK p l e R s m args below meth c cl sl Q D A al oe nL (match cDec .gt x y with
  | true => tgt
  | false => pc + 3) ls st h) : cK p l e R s m args below meth c cl sl Q D A al oe nL pc ls (cI y :: cI x :: st) h := by
  intro H locs lsC g hl
  by_cases hP : y < x
  · have e1 : cDec .gt x y = true := decide_eq_true hP
    rw [e1] at k
    exact lv_icmp_gt hx hb hd ht (fun _ => k H locs lsC g hl) (fun z => absurd hP z)
  · have e1 : cDec .gt x y = false := decide_eq_false hP
    rw [e1] at k
    exact lv_icmp_gt hx hb hd ht (fun z => absurd z hP) (fun _ => k H locs lsC g hl)
theorem c_if_le (hx : p.tables.exec = Jvm.exec) (hb : c.code = cc) {x : Int32} {off : Int} {tgt : Nat} (ht : (pc : Int) + off = (tgt : Int)) (hd : decode cc pc = .ok (.ifCond .le off, 3)) (k : cK p l e R s m args below meth c cl sl Q D A al oe nL (match cDec .le x 0 with
  | true => tgt
  | false => pc + 3) ls st h) : cK p l e R s m args below meth c cl sl Q D A al oe nL pc ls (cI x :: st) h := by
  intro H locs lsC g hl
  by_cases hP : x ≤ 0
  · have e1 : cDec .le x 0 = true := decide_eq_true hP
    rw [e1] at k
    exact lv_if_le hx hb hd ht (fun _ => k H locs lsC g hl) (fun z => absurd hP z)
  · have e1 : cDec .le x 0 = false := decide_eq_false hP
    rw [e1] at k
    exact lv_if_le hx hb hd ht (fun z => absurd z hP) (fun _ => k H locs lsC g hl)
theorem c_icmp_le (hx : p.tables.exec = Jvm.exec) (hb : c.code = cc) {x y : Int32} {off : Int} {tgt : Nat} (ht : (pc : Int) + off = (tgt : Int)) (hd : decode cc pc = .ok (.if_icmp .le off, 3)) (k : cK p l e R s m args below meth c cl sl Q D A al oe nL (match cDec .le x y with
  | true => tgt
  | false => pc + 3) ls st h) : cK p l e R s m args below meth c cl sl Q D A al oe nL pc ls (cI y :: cI x :: st) h := by
  intro H locs lsC g hl
  by_cases hP : x ≤ y
  · have e1 : cDec .le x y = true := decide_eq_true hP
    rw [e1] at k
    exact lv_icmp_le hx hb hd ht (fun _ => k H locs lsC g hl) (fun z => absurd hP z)
  · have e1 : cDec .le x y = false := decide_eq_false hP
    rw [e1] at k
    exact lv_icmp_le hx hb hd ht (fun z => absurd z hP) (fun _ => k H locs lsC g hl)
def cSw (dd lo hi : Int) (offs : Array Int) (x : Int32) : Option Int := match decide (x.toInt < lo ∨ hi < x.toInt) with
  | true => some dd
  | false => offs[(x.toInt - lo).toNat]?
theorem c_tsw (hx : p.tables.exec = Jvm.exec) (hb : c.code = cc) {x : Int32} {dd lo hi : Int} {offs : Array Int} {len tgt : Nat} {off : Int} (ho : cSw dd lo hi offs x = some off) (ht : (pc : Int) + off = (tgt : Int)) (hd : decode cc pc = .ok (.tableswitch dd lo hi offs, len)) (k : cK p l e R s m args below meth c cl sl Q D A al oe nL tgt ls st h) : cK p l e R s m args below meth c cl sl Q D A al oe nL pc ls (cI x :: st) h := by
  intro H locs lsC g hl
  unfold cSw at ho
  by_cases hP : x.toInt < lo ∨ hi < x.toInt
  · rw [decide_eq_true hP] at ho
    cases ho
    exact lv_tableOut hx hb hd hP ht (k H locs lsC g hl)
  · rw [decide_eq_false hP] at ho
    exact lv_tableIn hx hb hd (fun z => hP (Or.inl z)) (fun z => hP (Or.inr z)) ho ht (k H locs lsC g hl)
theorem c_lsw (hx : p.tables.exec = Jvm.exec) (hb : c.code = cc) {x : Int32} {dd : Int} {ps : Array (Int × Int)} {len tgt : Nat} (hp : (ps.toList.zip (ps.toList.drop 1)).all (fun (a, next) => a.1 < next.1) = true) (ht : (pc : Int) + Op.lookupswitch.offset ps.toList dd x.toInt = (tgt : Int)) (hd : decode cc pc = .ok (.lookupswitch dd ps, len)) (k : cK p l e R s m args below meth c cl sl Q D A al oe nL tgt ls st h) : cK p l e R s m args below meth c cl sl Q D A al oe nL pc ls (cI x :: st) h := by
  intro H locs lsC g hl
  exact lv_lookup hx hb hd hp rfl ht (k H locs lsC g hl)
end
