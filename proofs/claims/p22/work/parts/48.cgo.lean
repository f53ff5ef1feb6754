/-! RUNS, 9: a method's run, calls in it, and what it says of the machine -/
def cOne (call : cCl) (M : eM) (sc : Option (Nat × (Nat → Int32))) (S : cS) : Option cS := match fnd (m_il M) S.1 with
  | some (ins, len) => cStep call M sc ins len S.1 S.2.1 S.2.2.1 S.2.2.2
  | none => none
def cIt (call : cCl) (M : eM) (sc : Option (Nat × (Nat → Int32))) : Nat → cS → Option cS
  | 0, S => some S
  | n + 1, S => match cOne call M sc S with
    | some S2 => cIt call M sc n S2
    | none => none
def Go (call : cCl) (M : eM) (sc : Option (Nat × (Nat → Int32))) (S S2 : cS) : Prop := ∃ n : Nat, cIt call M sc n S = some S2
theorem Go.rf {call : cCl} {M : eM} {sc : Option (Nat × (Nat → Int32))} {S : cS} : Go call M sc S S := ⟨0, rfl⟩
theorem cIt_succ {call : cCl} {M : eM} {sc : Option (Nat × (Nat → Int32))} (n : Nat) (S : cS) : cIt call M sc (n + 1) S = (match cOne call M sc S with
    | some S2 => cIt call M sc n S2
    | none => none) := rfl
theorem cIt_add {call : cCl} {M : eM} {sc : Option (Nat × (Nat → Int32))} : ∀ (n k : Nat) (S S2 : cS), cIt call M sc n S = some S2 → cIt call M sc (n + k) S = cIt call M sc k S2
  | 0, k, S, S2, h => by cases h; rw [Nat.zero_add]
  | n + 1, k, S, S2, h => by
    rw [show n + 1 + k = (n + k) + 1 by omega, cIt_succ]
    rw [cIt_succ] at h
    cases h1 : cOne call M sc S with
    | none => rw [h1] at h; cases h
    | some S1 =>
      rw [h1] at h
      exact cIt_add n k S1 S2 h
theorem Go.trans {call : cCl} {M : eM} {sc : Option (Nat × (Nat → Int32))} {S S1 S2 : cS} (h1 : Go call M sc S S1) (h2 : Go call M sc S1 S2) : Go call M sc S S2 := by
  obtain ⟨n, h1⟩ := h1
  obtain ⟨k, h2⟩ := h2
  exact ⟨n + k, by rw [cIt_add n k S S1 h1]; exact h2⟩
theorem Go.step {call : cCl} {M : eM} {sc : Option (Nat × (Nat → Int32))} {S S1 S2 : cS} (h1 : cOne call M sc S = some S1) (h2 : Go call M sc S1 S2) : Go call M sc S S2 := by
  obtain ⟨k, h2⟩ := h2
  exact ⟨k + 1, by unfold cIt; rw [h1]; exact h2⟩
theorem cIt_det {call : cCl} {M : eM} {sc : Option (Nat × (Nat → Int32))} : ∀ (n k : Nat) (S S1 S2 : cS), cIt call M sc n S = some S1 → cIt call M sc k S = some S2 → cOne call M sc S1 = none → cOne call M sc S2 = none → S1 = S2
  | 0, 0, S, S1, S2, h1, h2, _, _ => by cases h1; cases h2; rfl
  | 0, k + 1, S, S1, S2, h1, h2, e1, _ => by
    cases h1
    unfold cIt at h2
    rw [e1] at h2
    cases h2
  | n + 1, 0, S, S1, S2, h1, h2, _, e2 => by
    cases h2
    unfold cIt at h1
    rw [e2] at h1
    cases h1
  | n + 1, k + 1, S, S1, S2, h1, h2, e1, e2 => by
    unfold cIt at h1 h2
    cases h3 : cOne call M sc S with
    | none => rw [h3] at h1; cases h1
    | some S3 =>
      rw [h3] at h1 h2
      exact cIt_det n k S3 S1 S2 h1 h2 e1 e2
theorem cIt_ok {p : Program} {l : Launch} {e : Env} {R : Room} {s : State} {m : MethodId} {args : Array Value} {below : List Frame} {meth : Method} {c : Code} {cl sl : Nat} {Q : State → Prop} {D : va_G} {A : Nat → Prop} {al : List Nat} {oe : Nat → Nat} {M : eM} {call : cCl} {d : Nat} {sc : Option (Nat × (Nat → Int32))} (X : cCx p l R s m args c cl sl D A al oe M call d sc) (hdec : ∀ q ∈ m_il M, decode (m_b M) q.1 = .ok q.2) {S2 : cS} (k : cK p l e R s m args below meth c cl sl Q D A al oe (m_L M) S2.1 S2.2.1 S2.2.2.1 S2.2.2.2) (n : Nat) : ∀ S : cS, cIt call M sc n S = some S2 → cK p l e R s m args below meth c cl sl Q D A al oe (m_L M) S.1 S.2.1 S.2.2.1 S.2.2.2 := by
  induction n with
  | zero => intro S hs; cases hs; exact k
  | succ n ih =>
    intro S hs
    unfold cIt at hs
    cases h1 : cOne call M sc S with
    | none => rw [h1] at hs; cases hs
    | some S1 =>
      rw [h1] at hs
      have kk := ih S1 hs
      unfold cOne at h1
      cases h2 : fnd (m_il M) S.1 with
      | none => rw [h2] at h1; cases h1
      | some q =>
        rw [h2] at h1
        obtain ⟨ins, len⟩ := q
        have hd : decode (m_b M) S.1 = .ok (ins, len) := hdec (S.1, (ins, len)) (fnd_mem h2)
        exact cStep_ok (pc := S.1) (ls := S.2.1) (st := S.2.2.1) (h := S.2.2.2) (S := S1) X hd h1 kk
theorem Go_ok {p : Program} {l : Launch} {e : Env} {R : Room} {s : State} {m : MethodId} {args : Array Value} {below : List Frame} {meth : Method} {c : Code} {cl sl : Nat} {Q : State → Prop} {D : va_G} {A : Nat → Prop} {al : List Nat} {oe : Nat → Nat} {M : eM} {call : cCl} {d : Nat} {sc : Option (Nat × (Nat → Int32))} (X : cCx p l R s m args c cl sl D A al oe M call d sc) (hdec : ∀ q ∈ m_il M, decode (m_b M) q.1 = .ok q.2) {S S2 : cS} (hg : Go call M sc S S2) (k : cK p l e R s m args below meth c cl sl Q D A al oe (m_L M) S2.1 S2.2.1 S2.2.2.1 S2.2.2.2) : cK p l e R s m args below meth c cl sl Q D A al oe (m_L M) S.1 S.2.1 S.2.2.1 S.2.2.2 := by
  obtain ⟨n, hn⟩ := hg
  exact cIt_ok X hdec k n S hn
/-- the end of a method: its answer -/
def cEnd (M : eM) (S : cS) : Option (Option cV × List cC) := match fnd (m_il M) S.1 with
  | some (.return_, 1) => (match S.2.2.1, m_t M with
    | [], none => some (none, S.2.2.2)
    | _, _ => none)
  | some (.ireturn, 1) => (match S.2.2.1, m_t M with
    | [.inr (.inl x)], some .int => some (some (cI x), S.2.2.2)
    | [.inr (.inl x)], some .boolean => (match decide (x = 0 ∨ x = 1) with
      | true => some (some (cI x), S.2.2.2)
      | false => none)
    | [.inr (.inl x)], some .byte => (match decide (x.toInt8.toInt32 = x) with
      | true => some (some (cI x), S.2.2.2)
      | false => none)
    | [.inr (.inl x)], some .char => (match decide ((x.toUInt32 % 65536).toInt32 = x) with
      | true => some (some (cI x), S.2.2.2)
      | false => none)
    | _, _ => none)
  | some (.lreturn, 1) => (match S.2.2.1, m_t M with
    | [.inr (.inr (.inl x))], some .long => some (some (cJ x), S.2.2.2)
    | _, _ => none)
  | _ => none
theorem cEnd_stop {call : cCl} {M : eM} {sc : Option (Nat × (Nat → Int32))} {S : cS} {q : Option cV × List cC} (h : cEnd M S = some q) : cOne call M sc S = none := by
  unfold cEnd at h
  unfold cOne
  split at h
  · rename_i hf
    rw [hf]
    rfl
  · rename_i hf
    rw [hf]
    rfl
  · rename_i hf
    rw [hf]
    rfl
  · cases h
section
variable {p : Program} {l : Launch} {e : Env} {R : Room} {s : State} {m : MethodId} {args : Array Value} {below : List Frame} {meth : Method} {c : Code} {D : va_G} {A : Nat → Prop} {al : List Nat} {oe : Nat → Nat} {M : eM}
theorem cEnd_ok (hx : p.tables.exec = Jvm.exec) (hb : c.code = m_b M) (hr : meth.sig.returnType = m_t M) (hlocks : meth.locks = false) (hdec : ∀ q ∈ m_il M, decode (m_b M) q.1 = .ok q.2) {S : cS} {r : Option cV} {h2 : List cC} (hs : cEnd M S = some (r, h2)) : cK p l e R s m args below meth c 0 0 (MQ below (cQc D A oe al r h2) args s 0 0 A) D A al oe (m_L M) S.1 S.2.1 S.2.2.1 S.2.2.2 := by
  obtain ⟨pc, ls, st, h⟩ := S
  unfold cEnd at hs
  intro H locs lsC g hl
  obtain ⟨ws, tys, hK, hP, hD, hS, ha, hW⟩ := g
  dsimp only at hs hW ⊢
  split at hs
  · rename_i hf
    have hd : decode (m_b M) pc = .ok (.return_, 1) := hdec (pc, (.return_, 1)) (fnd_mem hf)
    split at hs
    · rename_i ht
      cases hs
      exact W.vret hx hb (hr.trans ht) (fun t h1 h2 => ⟨hS.F h1, rfl, ws, tys, ha, va_K.moved h2.alike hK, by rw [h1]; exact hP, hD, hW⟩) hS.2.2 hd hlocks
    · cases hs
  · rename_i hf
    have hd : decode (m_b M) pc = .ok (.ireturn, 1) := hdec (pc, (.ireturn, 1)) (fnd_mem hf)
    split at hs
    · rename_i x ht
      cases hs
      exact W.iret hx hb (hr.trans ht) (fun t h1 h2 => ⟨hS.F h1, rfl, ws, tys, ha, va_K.moved h2.alike hK, by rw [h1]; exact hP, hD, hW⟩) hS.2.2 hd hlocks
    · rename_i x ht
      split at hs
      · rename_i hz
        have hz2 : x = 0 ∨ x = 1 := of_decide_eq_true hz
        cases hs
        exact W.zret hx hb (hr.trans ht) (by rcases hz2 with rfl | rfl <;> rfl) (fun t h1 h2 => ⟨hS.F h1, rfl, ws, tys, ha, va_K.moved h2.alike hK, by rw [h1]; exact hP, hD, hW⟩) hS.2.2 hd hlocks
      · cases hs
    · rename_i x ht
      split at hs
      · rename_i hz
        have hz2 : x.toInt8.toInt32 = x := of_decide_eq_true hz
        cases hs
        exact W.zret hx hb (hr.trans ht) (by rw [narrow_byte, hz2]) (fun t h1 h2 => ⟨hS.F h1, rfl, ws, tys, ha, va_K.moved h2.alike hK, by rw [h1]; exact hP, hD, hW⟩) hS.2.2 hd hlocks
      · cases hs
    · rename_i x ht
      split at hs
      · rename_i hz
        have hz2 : (x.toUInt32 % 65536).toInt32 = x := of_decide_eq_true hz
        cases hs
        exact W.zret hx hb (hr.trans ht) (show Value.int ((x.toUInt32 % 65536).toInt32) = .int x by rw [hz2]) (fun t h1 h2 => ⟨hS.F h1, rfl, ws, tys, ha, va_K.moved h2.alike hK, by rw [h1]; exact hP, hD, hW⟩) hS.2.2 hd hlocks
      · cases hs
    · cases hs
  · rename_i hf
    have hd : decode (m_b M) pc = .ok (.lreturn, 1) := hdec (pc, (.lreturn, 1)) (fnd_mem hf)
    split at hs
    · rename_i x ht
      cases hs
      exact W.lret hx hb (hr.trans ht) (fun t h1 h2 => ⟨hS.F h1, rfl, ws, tys, ha, va_K.moved h2.alike hK, by rw [h1]; exact hP, hD, hW⟩) hS.2.2 hd hlocks
    · cases hs
  · cases hs
end
def cArgs : Nat → List cV → List (Nat × cV)
  | _, [] => []
  | i, a :: r => (i, a) :: cArgs (match wide a with
    | true => i + 2
    | false => i + 1) r
theorem cArgs_tl (al : List Nat) (oe : Nat → Nat) : ∀ (as : List cV) (i : Nat), lv_args i (as.map (tv al oe)) = tl al oe (cArgs i as)
  | [], i => rfl
  | a :: r, i => by
    show (i, tv al oe a) :: lv_args (if (tv al oe a).category = 2 then i + 2 else i + 1) (r.map (tv al oe)) = (i, tv al oe a) :: tl al oe (cArgs (match wide a with
      | true => i + 2
      | false => i + 1) r)
    rw [wide_cat]
    cases wide a with
    | true => exact congrArg _ (cArgs_tl al oe r (i + 2))
    | false => exact congrArg _ (cArgs_tl al oe r (i + 1))
theorem cSl_len (al : List Nat) (oe : Nat → Nat) : ∀ as : List cV, (lg_sl (as.map (tv al oe))).length = catC as
  | [] => rfl
  | a :: r => by
    have ih := cSl_len al oe r
    unfold lg_sl at ih ⊢
    rw [List.map_cons, List.flatMap_cons, List.length_append, ih, wide_cat]
    show _ = (match wide a with
      | true => 2
      | false => 1) + catC r
    cases wide a <;> rfl
/-- calls by what they end with -/
noncomputable def calF (T : Nat → List cV → List cC → Option cV → List cC → Prop) : cCl := fun mi as h =>
  (Classical.propDecidable (∃ q : Option cV × List cC, T mi as h q.1 q.2)).rec (fun _ => none) (fun hh => some (Classical.choose hh))
theorem calF_some {T : Nat → List cV → List cC → Option cV → List cC → Prop} {mi : Nat} {as : List cV} {h : List cC} {q : Option cV × List cC} (hs : calF T mi as h = some q) : T mi as h q.1 q.2 := by
  unfold calF at hs
  cases hd : Classical.propDecidable (∃ q : Option cV × List cC, T mi as h q.1 q.2) with
  | isFalse hn => rw [hd] at hs; cases hs
  | isTrue hh =>
    rw [hd] at hs
    cases hs
    exact Classical.choose_spec hh
theorem calF_ex {T : Nat → List cV → List cC → Option cV → List cC → Prop} {mi : Nat} {as : List cV} {h : List cC} {r : Option cV} {h2 : List cC} (ht : T mi as h r h2) : ∃ q : Option cV × List cC, calF T mi as h = some q ∧ T mi as h q.1 q.2 := by
  cases hc : calF T mi as h with
  | some q => exact ⟨q, rfl, calF_some hc⟩
  | none =>
    unfold calF at hc
    cases hd : Classical.propDecidable (∃ q : Option cV × List cC, T mi as h q.1 q.2) with
    | isFalse hn => exact absurd ⟨(r, h2), ht⟩ hn
    | isTrue hh => rw [hd] at hc; cases hc
/-- the method number mi, on these arguments and cells, ends with this answer and these cells, no deeper than d -/
noncomputable def Trm (d : Nat) : Nat → List cV → List cC → Option cV → List cC → Prop := Nat.rec (motive := fun _ => Nat → List cV → List cC → Option cV → List cC → Prop) (fun _ _ _ _ _ => False) (fun _ ih mi as h r h2 => ∃ (M : eM) (S : cS), eMT[mi]? = some M ∧ catC as ≤ m_L M ∧ Go (calF ih) M none (0, cArgs 0 as, [], h) S ∧ cEnd M S = some (r, h2)) d
theorem Trm_succ {d mi : Nat} {as : List cV} {h : List cC} {r : Option cV} {h2 : List cC} : Trm (d + 1) mi as h r h2 ↔ ∃ (M : eM) (S : cS), eMT[mi]? = some M ∧ catC as ≤ m_L M ∧ Go (calF (Trm d)) M none (0, cArgs 0 as, [], h) S ∧ cEnd M S = some (r, h2) := Iff.rfl
theorem Trm_det : ∀ {d mi : Nat} {as : List cV} {h : List cC} {r r' : Option cV} {h2 h2' : List cC}, Trm d mi as h r h2 → Trm d mi as h r' h2' → r = r' ∧ h2 = h2'
  | 0, _, _, _, _, _, _, _, h, _ => h.elim
  | d + 1, mi, as, h, r, r', h2, h2', t1, t2 => by
    obtain ⟨M, S, e1, _, ⟨n, g1⟩, e2⟩ := Trm_succ.mp t1
    obtain ⟨M', S', e1', _, ⟨n', g1'⟩, e2'⟩ := Trm_succ.mp t2
    rw [e1] at e1'
    cases e1'
    have := cIt_det n n' _ S S' g1 g1' (cEnd_stop e2) (cEnd_stop e2')
    subst this
    rw [e2] at e2'
    cases e2'
    exact ⟨rfl, rfl⟩
theorem cal_eq {d mi : Nat} {as : List cV} {h : List cC} {r : Option cV} {h2 : List cC} (ht : Trm d mi as h r h2) : calF (Trm d) mi as h = some (r, h2) := by
  obtain ⟨q, h1, h3⟩ := calF_ex ht
  obtain ⟨e1, e2⟩ := Trm_det ht h3
  rw [h1]
  obtain ⟨q1, q2⟩ := q
  dsimp only at e1 e2
  rw [e1, e2]
/-- what ends so is the machine's -/
theorem Trm_ok (l : Launch) (D : va_G) (A : Nat → Prop) (oe : Nat → Nat) (al : List Nat) (d : Nat) : ∀ (mi : Nat) (N : eM) (as : List cV) (h : List cC) (r : Option cV) (h2 : List cC), eMT[mi]? = some N → Trm d mi as h r h2 → cMet l D A oe al d N as h r h2 := by
  induction d with
  | zero => intro mi N as h r h2 hN ht; exact ht.elim
  | succ d ih =>
    intro mi N as h r h2 hN ht
    obtain ⟨M, S, e1, hcat, hgo, hend⟩ := Trm_succ.mp ht
    rw [hN] at e1
    cases e1
    have hmo := eMT_ok N (List.mem_of_getElem? hN)
    have hmu := mOK_use hmo
    have hcok : cCOK l D A oe al d (calF (Trm d)) := fun mi N as h r h2 hN hc => ih mi N as h r h2 hN (calF_some hc)
    refine Met.ofW (cc := m_b N) (maxL := m_L N) (ret := m_t N) hmu.2.1 rfl ?_
    intro p e s m args below meth c s₁ B hml hv
    obtain ⟨rfl, hA, hE, ws, tys, rfl, hK, hP, hD, hW⟩ := hv
    have hts0 := atoms_spec (ws := mWs N) B.pre
    have hts : ∀ w ∈ gtbl, w.before (as.map (tv (adr ws) oe)).toArray s = true := fun w hw => hts0 w (List.mem_cons_of_mem _ hw)
    have hown : s.vm.findClass (m_y N).cls = some m.cls := findClass_of_methodNamed B.named
    have X : cCx p l (headSpec (mWs N) (rmC (d + 1))).room s m (as.map (tv (adr ws) oe)).toArray c 0 0 D A (adr ws) oe N (calF (Trm d)) d none :=
      ⟨B.exec, B.bytes, hml, hown, hts, hA, hE, hmu.2.2.2.2.2.2.1, Nat.le_refl _, Nat.le_refl _, Nat.le_refl _, by show 59 * d + 59 ≤ 59 * (d + 1); omega, (fun L xs hb => by cases hb), hcok⟩
    have k0 : cK p l e (headSpec (mWs N) (rmC (d + 1))).room s m (as.map (tv (adr ws) oe)).toArray below meth c 0 0 (MQ below (cQc D A oe (adr ws) r h2) (as.map (tv (adr ws) oe)).toArray s 0 0 A) D A (adr ws) oe (m_L N) S.1 S.2.1 S.2.2.1 S.2.2.2 := cEnd_ok B.exec B.bytes B.returns B.notSynchronized hmu.2.2.2.2.2.2.2 hend
    have k1 := Go_ok X hmu.2.2.2.2.2.2.2 hgo k0
    have hle : (lg_sl (as.map (tv (adr ws) oe))).length ≤ m_L N := by rw [cSl_len]; exact hcat
    have hl := lv_entry (as.map (tv (adr ws) oe)) hle
    rw [cArgs_tl] at hl
    rw [lg_entry_eq]
    exact k1 s.heap [] _ ⟨ws, tys, hK, hP, hD, va_S.rf, rfl, hW⟩ hl
