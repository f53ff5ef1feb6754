/-! THE ENGINE, 12: a run, a method, a call -/
section
variable {p : Program} {l : Launch} {e : Env} {R : Room} {s : State} {m : MethodId} {args : Array Value} {below : List Frame} {meth : Method} {c : Code} {Q : State → Prop} {D : va_G} {A : Nat → Prop} {al0 : List Nat} {oe : Nat → Nat} {M : eM} {call : eCl} {d : Nat} {sc : Option (List eP)}
theorem eLoop_succ (stop n : Nat) (S : eS) : eLoop call M sc stop (n + 1) S = (match Nat.beq S.1 stop with
    | true => some S
    | false => (match fnd (m_il M) S.1 with
      | some (ins, len) => (match isRet ins with
        | true => some S
        | false => (match eStep call M sc ins len S.1 S.2.1 S.2.2.1 S.2.2.2.1 S.2.2.2.2.1 S.2.2.2.2.2 with
          | some S2 => eLoop call M sc stop n S2
          | none => none))
      | none => none)) := rfl
theorem eLoop_ok (X : eCx p l R s m args meth c D A oe M call d sc) (hdec : ∀ q ∈ m_il M, decode (m_b M) q.1 = .ok q.2) {stop : Nat} {S2 : eS} (k : eK p l e R s m args below meth c Q D A al0 oe (m_L M) S2.1 S2.2.1 S2.2.2.1 S2.2.2.2.1 S2.2.2.2.2.1 S2.2.2.2.2.2) (n : Nat) : ∀ S : eS, eLoop call M sc stop n S = some S2 → eK p l e R s m args below meth c Q D A al0 oe (m_L M) S.1 S.2.1 S.2.2.1 S.2.2.2.1 S.2.2.2.2.1 S.2.2.2.2.2 := by
  induction n with
  | zero => intro S hs; cases hs
  | succ n ih =>
    intro S hs
    rw [eLoop_succ] at hs
    cases h1 : Nat.beq S.1 stop with
    | true =>
      rw [h1] at hs
      cases hs
      exact k
    | false =>
      rw [h1] at hs
      dsimp only at hs
      cases h2 : fnd (m_il M) S.1 with
      | none => rw [h2] at hs; cases hs
      | some q =>
        rw [h2] at hs
        obtain ⟨ins, len⟩ := q
        dsimp only at hs
        have hd : decode (m_b M) S.1 = .ok (ins, len) := hdec (S.1, (ins, len)) (fnd_mem h2)
        cases h4 : isRet ins with
        | true =>
          rw [h4] at hs
          cases hs
          exact k
        | false =>
          rw [h4] at hs
          dsimp only at hs
          cases h3 : eStep call M sc ins len S.1 S.2.1 S.2.2.1 S.2.2.2.1 S.2.2.2.2.1 S.2.2.2.2.2 with
          | none => rw [h3] at hs; cases hs
          | some S3 =>
            rw [h3] at hs
            dsimp only at hs
            have kk := ih S3 hs
            exact eStep_ok (pc := S.1) (ls := S.2.1) (st := S.2.2.1) (h := S.2.2.2.1) (cl := S.2.2.2.2.1) (sl := S.2.2.2.2.2) (S := S3) X hd h3 kk
end
theorem eCall_succ (d mi : Nat) (as : List eV) (h : List eC) : eCall (d + 1) mi as h = (match eMT[mi]? with
    | some M => (match Nat.ble (catS as) (m_L M) with
      | true => (match eLoop (eCall d) M none 999999 20000 (0, eArgs 0 as, [], h, 0, 0) with
        | some S => eEnd M S
        | none => none)
      | false => none)
    | none => none) := rfl
theorem gL_args {al : List Nat} {oe : Nat → Nat} : ∀ {as : List eV} {vs : List Value} (i : Nat), gS al oe as vs → gL al oe (eArgs i as) (lv_args i vs)
  | [], [], i, _ => fun q hq => absurd hq List.not_mem_nil
  | a :: as, v :: vs, i, g => by
    intro q hq
    unfold eArgs at hq
    unfold lv_args
    rcases List.mem_cons.mp hq with rfl | hq
    · exact ⟨v, List.mem_cons_self, g.1⟩
    · cases hj : isJ a with
      | false =>
        have hc := isJ_cat1 g.1 hj
        rw [hj] at hq
        rw [if_neg (by omega)]
        obtain ⟨w, h1, h2⟩ := gL_args _ g.2 q hq
        exact ⟨w, List.mem_cons_of_mem _ h1, h2⟩
      | true =>
        have hc : v.category = 2 := by
          match a, hj, g.1 with
          | .inr (.inr (.inl q)), _, ⟨x, hx, _⟩ => subst hx; rfl
        rw [hj] at hq
        rw [if_pos hc]
        obtain ⟨w, h1, h2⟩ := gL_args _ g.2 q hq
        exact ⟨w, List.mem_cons_of_mem _ h1, h2⟩
  | [], _ :: _, _, g => g.elim
  | _ :: _, [], _, g => g.elim
theorem sl_len {al : List Nat} {oe : Nat → Nat} : ∀ {as : List eV} {vs : List Value}, gS al oe as vs → (lg_sl vs).length = catS as
  | [], [], _ => rfl
  | a :: as, v :: vs, g => by
    have ih := sl_len g.2
    unfold lg_sl at ih ⊢
    rw [List.flatMap_cons, List.length_append, ih]
    show _ = (match isJ a with
      | true => 2
      | false => 1) + catS as
    cases hj : isJ a with
    | false =>
      have := isJ_cat1 g.1 hj
      rw [if_neg (by omega)]
      rfl
    | true =>
      have hc : v.category = 2 := by
        match a, hj, g.1 with
        | .inr (.inr (.inl q)), _, ⟨x, hx, _⟩ => subst hx; rfl
      rw [if_pos hc]
      rfl
  | [], _ :: _, g => g.elim
  | _ :: _, [], g => g.elim
theorem narrow_z01 {x : Int32} (h1 : 0 ≤ x.toInt) (h2 : x.toInt ≤ 1) : narrow .boolean (.int x) = .int x := by
  have h : x.toInt = 0 ∨ x.toInt = 1 := by omega
  rcases h with h | h
  · have e : x = 0 := Int32.toInt_inj.mp h
    subst e
    rfl
  · have e : x = 1 := Int32.toInt_inj.mp h
    subst e
    rfl
theorem narrow_b8 {x : Int32} (h1 : -128 ≤ x.toInt) (h2 : x.toInt ≤ 127) : narrow .byte (.int x) = .int x := by
  have h := n_b (a := (x.toInt, x.toInt)) (x := x) ⟨Int.le_refl _, Int.le_refl _⟩
  have e : eB (x.toInt, x.toInt) = (x.toInt, x.toInt) := by
    unfold eB
    have : (iLe (-128) x.toInt && iLe x.toInt 127) = true := by simp only [Bool.and_eq_true, iLe_ok]; exact ⟨h1, h2⟩
    rw [this]
  rw [e] at h
  have z1 := h.1
  have z2 := h.2
  dsimp only at z1 z2
  have e2 : x.toInt8.toInt32 = x := Int32.toInt_inj.mp (by omega)
  rw [narrow_byte, e2]
section
variable {p : Program} {l : Launch} {e : Env} {R : Room} {s : State} {m : MethodId} {args : Array Value} {below : List Frame} {meth : Method} {c : Code} {D : va_G} {A : Nat → Prop} {al : List Nat} {oe : Nat → Nat} {M : eM}
/-- a method's end -/
theorem eEnd_ok (hx : p.tables.exec = Jvm.exec) (hb : c.code = m_b M) (hr : meth.sig.returnType = m_t M) (hlocks : meth.locks = false) (hdec : ∀ q ∈ m_il M, decode (m_b M) q.1 = .ok q.2) {S : eS} {r : Option eV} {h2 : List eC} (hs : eEnd M S = some (r, h2)) : eK p l e R s m args below meth c (MQ below (eQc D A oe al r h2) args s (m_c M) (m_s M) A) D A al oe (m_L M) S.1 S.2.1 S.2.2.1 S.2.2.2.1 S.2.2.2.2.1 S.2.2.2.2.2 := by
  obtain ⟨pc, ls, st, h, cl, sl⟩ := S
  unfold eEnd at hs
  split at hs
  · cases hs
  · rename_i hroom
    obtain ⟨r1, r2⟩ := and_inv hroom
    have r1 : cl ≤ m_c M := Nat.le_of_ble_eq_true r1
    have r2 : sl ≤ m_s M := Nat.le_of_ble_eq_true r2
    intro H locs lsC stC g
    obtain ⟨ws, tys, hK, hP, hD, hS, ha, hW, ⟨lv, hl, hL⟩, hst⟩ := g
    refine W.widen r1 r2 ?_
    dsimp only at hs hst hW ⊢
    split at hs
    · rename_i hf
      have hd := hdec _ (fnd_mem hf)
      split at hs
      · rename_i ht
        cases hs
        match stC, hst with
        | [], _ => exact W.vret hx hb (hr.trans ht) (fun t h1 h2 => ⟨hS.F h1, none, ws, tys, rfl, ha, va_K.moved h2.alike hK, by rw [h1]; exact hP, hD, hW, rfl⟩) hS.2.2 hd hlocks
      · cases hs
    · rename_i hf
      have hd := hdec _ (fnd_mem hf)
      split at hs
      · rename_i q ht
        cases hs
        match stC, hst with
        | [_], ⟨⟨x, rfl, hq⟩, _⟩ => exact W.iret hx hb (hr.trans ht) (fun t h1 h2 => ⟨hS.F h1, some (.int x), ws, tys, rfl, ha, va_K.moved h2.alike hK, by rw [h1]; exact hP, hD, hW, _, rfl, x, rfl, hq⟩) hS.2.2 hd hlocks
      · rename_i q ht
        split at hs
        · rename_i hz
          cases hs
          obtain ⟨z1, z2⟩ := and_inv hz
          rw [iLe_ok] at z1 z2
          match stC, hst with
          | [_], ⟨⟨x, rfl, hq⟩, _⟩ =>
            have q1 := hq.1
            have q2 := hq.2
            exact W.zret hx hb (hr.trans ht) (narrow_z01 (by omega) (by omega)) (fun t h1 h2 => ⟨hS.F h1, some (.int x), ws, tys, rfl, ha, va_K.moved h2.alike hK, by rw [h1]; exact hP, hD, hW, _, rfl, x, rfl, hq⟩) hS.2.2 hd hlocks
        · cases hs
      · rename_i q ht
        split at hs
        · rename_i hz
          cases hs
          obtain ⟨z1, z2⟩ := and_inv hz
          rw [iLe_ok] at z1 z2
          match stC, hst with
          | [_], ⟨⟨x, rfl, hq⟩, _⟩ =>
            have q1 := hq.1
            have q2 := hq.2
            exact W.zret hx hb (hr.trans ht) (narrow_b8 (by omega) (by omega)) (fun t h1 h2 => ⟨hS.F h1, some (.int x), ws, tys, rfl, ha, va_K.moved h2.alike hK, by rw [h1]; exact hP, hD, hW, _, rfl, x, rfl, hq⟩) hS.2.2 hd hlocks
        · cases hs
      · cases hs
    · rename_i hf
      have hd := hdec _ (fnd_mem hf)
      split at hs
      · rename_i q ht
        cases hs
        match stC, hst with
        | [_], ⟨⟨x, rfl, hq⟩, _⟩ => exact W.lret hx hb (hr.trans ht) (fun t h1 h2 => ⟨hS.F h1, some (.long x), ws, tys, rfl, ha, va_K.moved h2.alike hK, by rw [h1]; exact hP, hD, hW, _, rfl, x, rfl, hq⟩) hS.2.2 hd hlocks
      · cases hs
    · cases hs
end
/-- a call's answer is the method's -/
theorem eCall_ok (l : Launch) (D : va_G) (A : Nat → Prop) (oe : Nat → Nat) : ∀ d : Nat, eCOK l D A oe d (eCall d)
  | 0 => fun mi N as h r h2 hN hs => by cases hs
  | d + 1 => by
    have ih := eCall_ok l D A oe d
    intro mi N as h r h2 hN hs al vs
    rw [eCall_succ, hN] at hs
    dsimp only at hs
    split at hs
    · rename_i hcat
      split at hs
      · rename_i S hloop
        have hmo := eMT_ok N (List.mem_of_getElem? hN)
        have hmu := mOK_use hmo
        refine Met.ofW (cc := m_b N) (maxL := m_L N) (ret := m_t N) hmu.2.1 rfl ?_
        intro p e s m args below meth c s₁ B hml hv
        obtain ⟨rfl, hA, hE, ws, tys, rfl, hK, hP, hD, hW, hg⟩ := hv
        have hts0 := atoms_spec (ws := mWs N) B.pre
        have hts : ∀ w ∈ gtbl, w.before vs.toArray s = true := fun w hw => hts0 w (List.mem_cons_of_mem _ hw)
        have hown : s.vm.findClass (m_y N).cls = some m.cls := findClass_of_methodNamed B.named
        have hnm : meth.name = (m_y N).name := (name_of_methodNamed B.named B.method).1
        have X : eCx p l (headSpec (mWs N) (rmD (d + 1) N)).room s m vs.toArray meth c D A oe N (eCall d) d none :=
          ⟨B.exec, B.bytes, hml, hown, hts, hA, hE, hmu.2.2.2.2.2.2.1, fun hi => by rw [hnm]; exact of_decide_eq_true hi, rfl, rfl, Nat.le_refl _, by show 59 * d + 59 ≤ 59 * (d + 1); omega, (fun bx hb => by cases hb), ih⟩
        have k0 : eK p l e (headSpec (mWs N) (rmD (d + 1) N)).room s m vs.toArray below meth c (MQ below (eQc D A oe (adr ws) r h2) vs.toArray s (m_c N) (m_s N) A) D A (adr ws) oe (m_L N) S.1 S.2.1 S.2.2.1 S.2.2.2.1 S.2.2.2.2.1 S.2.2.2.2.2 := eEnd_ok B.exec B.bytes B.returns B.notSynchronized hmu.2.2.2.2.2.2.2 hs
        have k1 := eLoop_ok X hmu.2.2.2.2.2.2.2 k0 20000 _ hloop
        have hle : (lg_sl vs).length ≤ m_L N := by rw [sl_len hg]; exact Nat.le_of_ble_eq_true hcat
        rw [lg_entry_eq]
        exact k1 s.heap [] _ [] ⟨ws, tys, hK, hP, hD, va_S.rf, List.prefix_refl _, hW, ⟨_, lv_entry vs hle, gL_args 0 hg⟩, trivial⟩
      · cases hs
    · cases hs
