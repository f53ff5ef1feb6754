/-! THE START, 2: the law from the constructors to its end, given what is owed -/
theorem mL_b : m_b mL = code := rfl
set_option maxRecDepth 100000 in
theorem lf1660 : fnd (m_il mL) 1660 = some (.ireturn, 1) := by rfl
theorem mL_dec : ∀ q ∈ m_il mL, decode (m_b mL) q.1 = .ok q.2 := fun q hq => of_decide_eq_true (List.all_eq_true.mp mLk_ok.1 q hq)
section
variable {p : Program} {l : Launch} {e : Env} {s : State} {m : MethodId} {b : Nat} {below : List Frame} {meth : Method} {c : Code} {D : va_G} {oe : Nat → Nat}
theorem law_end (hx : p.tables.exec = Jvm.exec) (hb : c.code = code) (hr : meth.sig.returnType = ret) (hlocks : meth.locks = false) {A : Nat → Prop} (hA : ∀ q, A q → s.heap.size ≤ q) {al : List Nat} {ls : List (Nat × cV)} {h : List cC} (hd : decode code 1660 = .ok (.ireturn, 1)) : cK p l e room_1 s m #[Value.ref b] below meth c 205 23799 (lw_Z below #[Value.ref b] s) D A al oe 4 1660 ls [cI (Int32.ofInt 1)] h := by
  intro H locs lsC g hl
  obtain ⟨ws, tys, hK, hP, hD, hS, ha, hW⟩ := g
  refine va_forget (fun q hq => hA _ (hS.2.2 q hq)) ?_
  refine W.widen (show 205 ≤ 600000 by decide) (show 23799 ≤ 7302250 by decide) ?_
  exact lw_ret hx hb hr hlocks hd
theorem law_K (oL : owLaw) (oW : owWay) (hx : p.tables.exec = Jvm.exec) (hb : c.code = code) (hr : meth.sig.returnType = ret) (hml : c.maxLocals = 4) (hown : s.vm.findClass R_law = some m.cls) (hlocks : meth.locks = false) (hgt : ∀ w ∈ gtbl, w.before #[Value.ref b] s = true) (hE : cEnv (fun q => s.heap.size ≤ q) oe s) {L : Nat} {xs : Nat → Int32} (hL : L ≤ 3584) (hX : va_X b L xs s s.heap) (hbl : b < s.heap.size) (ho0 : oe 0 = b) (hdec : ∀ q ∈ m_il mL, decode (m_b mL) q.1 = .ok q.2) : eK p l e room_1 s m #[Value.ref b] below meth c (lw_Z below #[Value.ref b] s) D (fun q => s.heap.size ≤ q) [] oe 4 S0.1 S0.2.1 S0.2.2.1 S0.2.2.2.1 S0.2.2.2.2.1 S0.2.2.2.2.2 := by
  intro H locs lsC stC g
  obtain ⟨ws, tys, hK, hP, hD, hS, ha, hW, ⟨lv, hl, hL9⟩, hst⟩ := g
  have est : stC = [] := by
    cases stC with
    | nil => rfl
    | cons _ _ => exact hst.elim
  subst est
  obtain ⟨h9, k1, k2, k3⟩ := bg_h hW S0_n
  have hi := IV2_0 k2 k3
  have X : cCx p l room_1 s m #[Value.ref b] c 205 23799 D (fun q => s.heap.size ≤ q) (adr ws) oe mL (calF (Trm 60)) 60 (some (L, xs)) :=
    ⟨hx, by rw [mL_b]; exact hb, hml, hown, hgt, fun _ h => h, hE, mLk_ok.2, by decide, by decide, by decide, by decide, fun L' xs' h' => by cases h'; exact ⟨b, hX, hbl, Nat.not_le.mpr hbl, ho0⟩, fun mi N as h r h2 hN hc => Trm_ok l D _ oe (adr ws) 60 mi N as h r h2 hN (calF_some hc)⟩
  obtain ⟨ls2, h2, hgo⟩ := law_loop oL oW hL (xs9 := xs) L 0 [(3, cI 0), (2, cR 170), (1, cR 0), (0, cO 0)] h9 hi rfl rfl rfl rfl (by decide) (by decide) (by
    have e : (0 : Int32).toInt = 0 := rfl
    omega)
  have hd : decode (m_b mL) 1660 = .ok (.ireturn, 1) := hdec (1660, (.ireturn, 1)) (fnd_mem lf1660)
  have k0 := law_end (p := p) (l := l) (e := e) (s := s) (m := m) (b := b) (below := below) (meth := meth) (c := c) (D := D) (oe := oe) hx hb hr hlocks (A := fun q => s.heap.size ≤ q) (fun _ h => h) (al := adr ws) (ls := ls2) (h := h2) (by rw [← mL_b]; exact hd)
  have k1' := Go_ok X hdec hgo k0
  refine k1' H locs lsC ⟨ws, tys, hK, hP, hD, hS, rfl, k1⟩ ⟨hl.1, hl.2.1, fun q hq => ?_⟩
  have gl : ∀ (i : Nat) (a : eV) (v : cV), (i, a) ∈ S0.2.1 → (∀ u : Value, gV (adr ws) oe a u → u = tv (adr ws) oe v) → lsC[i]? = some (.val (tv (adr ws) oe v)) := fun i a v hm hu => by
    obtain ⟨u, u1, u2⟩ := hL9 (i, a) hm
    rw [← hu u u2]
    exact hl.2.2 (i, u) u1
  have hq' : q ∈ [(3, tv (adr ws) oe (cI 0)), (2, tv (adr ws) oe (cR 170)), (1, tv (adr ws) oe (cR 0)), (0, tv (adr ws) oe (cO 0))] := hq
  have rf : ∀ (k : Nat) (u : Value), gV (adr ws) oe (.inl (some k)) u → u = tv (adr ws) oe (cR k) := fun k u ⟨x, x1, x2⟩ => by
    subst x2
    show Value.ref x = .ref ((adr ws).getD k 0)
    rw [List.getD_eq_getElem?_getD, x1]
    rfl
  simp only [List.mem_cons, List.not_mem_nil, or_false] at hq'
  rcases hq' with rfl | rfl | rfl | rfl
  · exact gl 3 (.inr (.inl (0, 0))) (cI 0) (List.mem_of_getElem? (i := 0) rfl) (fun u ⟨x, x1, x2⟩ => by
      subst x1
      have g1 : (0 : Int) ≤ x.toInt := x2.1
      have g2 : x.toInt ≤ (0 : Int) := x2.2
      have e : x = 0 := Int32.toInt_inj.mp (by show x.toInt = 0; omega)
      rw [e]
      rfl)
  · exact gl 2 (.inl (some 170)) (cR 170) (List.mem_of_getElem? (i := 1) rfl) (rf 170)
  · exact gl 1 (.inl (some 0)) (cR 0) (List.mem_of_getElem? (i := 2) rfl) (rf 0)
  · exact gl 0 (.inr (.inr (.inr 0))) (cO 0) (List.mem_of_getElem? (i := 3) rfl) (fun u hu => by
      have hu : u = .ref (oe 0) := hu
      rw [hu, tv_O rfl])
end
