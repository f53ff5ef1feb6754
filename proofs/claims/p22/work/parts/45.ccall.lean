/-! RUNS, 6: a method's contract out of a run; calls (printed by wip/engine2/gen45.py) -/
def cEnv (A : Nat → Prop) (oe : Nat → Nat) (s : State) : Prop := eEnv A oe s ∧ va_Z "jdk/internal/util/Preconditions" "SIOOBE_FORMATTER" "Ljava/util/function/BiFunction;" (tv [] oe (cO 99)) A s s.heap
theorem cEnv_warm {A : Nat → Prop} {oe : Nat → Nat} {s U : State} (hW : s.WarmedH U.vm) (hk : ∀ a : Nat, a < s.heap.size → ¬ A a → U.heap[a]? = s.heap[a]?) (h : cEnv A oe s) : cEnv A oe U := ⟨eEnv_warm hW hk h.1, (va_Z.moved hW.alike h.2).kept hk⟩
theorem nS_lt : nS < 49 := by decide
theorem odd99 {i : Nat} (h : i < nS) : Nat.beq (2 * i + 1) 99 = false := by
  have := nS_lt
  cases hb : Nat.beq (2 * i + 1) 99 with
  | false => rfl
  | true => have := nbeq_t hb; omega
theorem even99 (i : Nat) : Nat.beq (2 * i + 2) 99 = false := by
  cases hb : Nat.beq (2 * i + 2) 99 with
  | false => rfl
  | true => have := nbeq_t hb; omega
def cPc (D : va_G) (A : Nat → Prop) (oe : Nat → Nat) (al : List Nat) (as : List cV) (h : List cC) : Array Value → State → Prop := fun v U =>
  v = (as.map (tv al oe)).toArray ∧ (∀ q, U.heap.size ≤ q → A q) ∧ cEnv A oe U ∧ ∃ (ws : va_W) (tys : List (ClassId × FieldType)), adr ws = al ∧ va_K D classes tys U ∧ va_P D classes ws U.heap ∧ va_D A ws ∧ hW tys al oe h ws
def cQc (D : va_G) (A : Nat → Prop) (oe : Nat → Nat) (al : List Nat) (r : Option cV) (h2 : List cC) : Array Value → State → Outcome → State → Prop := fun _ st oc t =>
  va_F A st t ∧ oc = .returned (r.map (tv al oe)) ∧ ∃ (ws : va_W) (tys : List (ClassId × FieldType)), adr ws = al ∧ va_K D classes tys t ∧ va_P D classes ws t.heap ∧ va_D A ws ∧ hW tys al oe h2 ws
def rmC (d : Nat) : Room := { frames := d, cells := 0, slots := 0, locals := 59 * d }
def cMet (l : Launch) (D : va_G) (A : Nat → Prop) (oe : Nat → Nat) (al : List Nat) (d : Nat) (M : eM) (as : List cV) (h : List cC) (r : Option cV) (h2 : List cC) : Prop :=
  Met l (m_y M) (mWs M) (rmC d) (cPc D A oe al as h) (cQc D A oe al r h2) 0 0 A
def cCOK (l : Launch) (D : va_G) (A : Nat → Prop) (oe : Nat → Nat) (al : List Nat) (d : Nat) (call : cCl) : Prop :=
  ∀ (mi : Nat) (N : eM) (as : List cV) (h : List cC) (r : Option cV) (h2 : List cC), eMT[mi]? = some N → call mi as h = some (r, h2) → cMet l D A oe al d N as h r h2
theorem cPc_blind {D : va_G} {A : Nat → Prop} {oe : Nat → Nat} {al : List Nat} {as : List cV} {h : List cC} : FrameBlind (cPc D A oe al as h) := by
  intro a U g mk q
  obtain ⟨q1, q2, q3, ws, tys, q4, q5, q6⟩ := q
  exact ⟨q1, q2, cEnv_warm (s := U) (U := U.calling g mk a) (State.WarmedH.refl U) (fun _ _ _ => rfl) q3, ws, tys, q4, va_K.moved (u := U) (U := U.calling g mk a) (Vm.Alike.refl U.vm) q5, q6⟩
def cScr (A : Nat → Prop) (oe : Nat → Nat) (s : State) (sc : Option (Nat × (Nat → Int32))) : Prop :=
  ∀ (L : Nat) (xs : Nat → Int32), sc = some (L, xs) → ∃ b : Nat, va_X b L xs s s.heap ∧ b < s.heap.size ∧ ¬ A b ∧ oe 0 = b
def cCx (p : Program) (l : Launch) (R : Room) (s : State) (m : MethodId) (args : Array Value) (c : Code) (cl sl : Nat) (D : va_G) (A : Nat → Prop) (al : List Nat) (oe : Nat → Nat) (M : eM) (call : cCl) (d : Nat) (sc : Option (Nat × (Nat → Int32))) : Prop :=
  p.tables.exec = Jvm.exec ∧ c.code = m_b M ∧ c.maxLocals = m_L M ∧ s.vm.findClass (m_y M).cls = some m.cls ∧ (∀ w ∈ gtbl, w.before args s = true) ∧ (∀ q, s.heap.size ≤ q → A q) ∧ cEnv A oe s ∧ oNm[m_o M]? = some (m_y M).cls ∧ cl ≤ R.cells ∧ sl ≤ R.slots ∧ d + 1 ≤ R.frames ∧ 59 * d + 59 ≤ R.locals ∧ cScr A oe s sc ∧ cCOK l D A oe al d call
def catC : List cV → Nat
  | [] => 0
  | a :: r => (match wide a with
    | true => 2
    | false => 1) + catC r
theorem catC_ok (al : List Nat) (oe : Nat → Nat) : ∀ as : List cV, ((as.map (tv al oe)).map fun v => v.category).sum = catC as
  | [] => rfl
  | a :: r => by
    rw [List.map_cons, List.map_cons, List.sum_cons, catC_ok al oe r, wide_cat]
    rfl
def isKc (as : List cV) : Bool := match as with
  | .inl (some _) :: _ => true
  | _ => false
def recC (h : List cC) (oc : Nat) (as : List cV) : Bool := match as with
  | .inl (some k) :: _ => (match h[k]? with
    | some (.inl (ci, _)) => Nat.beq ci oc && Nat.ble (ci + 1) 13
    | _ => false)
  | .inr (.inr (.inr n)) :: _ => Nat.beq n (2 * (n / 2) + 1) && (Nat.ble (n / 2 + 1) nS && Nat.beq oc 14)
  | _ => false
section
variable {p : Program} {l : Launch} {e : Env} {R : Room} {s : State} {m : MethodId} {args : Array Value} {below : List Frame} {meth : Method} {c : Code} {cl sl : Nat} {Q : State → Prop} {D : va_G} {A : Nat → Prop} {al : List Nat} {oe : Nat → Nat} {M : eM} {call : cCl} {d : Nat} {sc : Option (Nat × (Nat → Int32))} {pc : Nat} {ls : List (Nat × cV)} {st : List cV} {h : List cC}
theorem c_call {H : Heap} {locs : List Loc} {lsC : Array Slot} {st0 rest : List Value} {r : Option cV} {h2 : List cC} {a : Array Value} (hr : va_Run p l e R s m args below meth c H locs cl sl 0 0 (F0 m pc lsC st0) rest (cQc D A oe al r h2 a) A) (hS : va_S A s.heap H locs)
    (kk : ∀ (H1 : Heap) (locs1 : List Loc), cG s D A al oe h2 H1 locs1 → W p l e R s m args below meth c H1 locs1 cl sl Q (F0 m (pc + 3) lsC ((r.map (tv al oe)).toList ++ rest))) : W p l e R s m args below meth c H locs cl sl Q (F0 m pc lsC st0) := by
  intro T hT X
  obtain ⟨v, st₀, t, T', L, h0, X', hL, e1, e2, ⟨⟨hz, hk⟩, hv, ws, tys, k1, k2, k3, k4, k5⟩, st⟩ := hr T hT X
  cases hv
  rw [h0] at hz hk
  have hal : s.vm.Alike t.vm := by rw [← e2]; exact X'.warmed.alike
  obtain ⟨t2, a1, b1⟩ := kk T'.heap (locs ++ L) ⟨ws, tys, va_K.moved hal.symm k2, by rw [e1]; exact k3, k4, ⟨Nat.le_trans hS.1 (by rw [e1]; exact hz), fun q h1 h2 => by rw [e1, hk q (Nat.lt_of_lt_of_le h1 hS.1) h2]; exact hS.2.1 q h1 h2, fun q hq => by
      rcases List.mem_append.mp hq with h | h
      · exact hS.2.2 q h
      · exact hL q h⟩, k1, k5⟩ T' rfl X'
  exact ⟨t2, st t2 a1, b1⟩
theorem c_pre (X : cCx p l R s m args c cl sl D A al oe M call d sc) {H : Heap} {locs : List Loc} (g : cG s D A al oe h H locs) (as : List cV) : ∀ U : State, U.heap = H → s.WarmedH U.vm → cPc D A oe al as h (as.map (tv al oe)).toArray U := by
  intro U hU hW2
  obtain ⟨-, -, -, -, -, hA, hE, -⟩ := X
  obtain ⟨ws, tys, hK, hP, hD, hS, ha, hW⟩ := g
  exact ⟨rfl, fun q hq => hA q (by rw [hU] at hq; exact Nat.le_trans hS.1 hq), cEnv_warm hW2 (fun a h1 h2 => by rw [hU]; exact hS.2.1 a h1 h2) hE, ws, tys, ha, va_K.moved hW2.alike hK, by rw [hU]; exact hP, hD, hW⟩
theorem c_cont {r : Option cV} {as : List cV} {h2 : List cC} {pc2 : Nat} (k : cK p l e R s m args below meth c cl sl Q D A al oe (m_L M) pc2 ls (r.toList ++ as) h2) {H1 : Heap} {locs1 : List Loc} {lsC : Array Slot} (hl : lv_has lsC (m_L M) (tl al oe ls)) (g : cG s D A al oe h2 H1 locs1) : W p l e R s m args below meth c H1 locs1 cl sl Q (F0 m pc2 lsC ((r.map (tv al oe)).toList ++ as.map (tv al oe))) := by
  have h9 := k H1 locs1 lsC g hl
  cases r with
  | none => exact h9
  | some a => exact h9
set_option maxHeartbeats 1000000 in
theorem c_inv0 (X : cCx p l R s m args c cl sl D A al oe M call d sc) {N : eM} {kd mi idx : Nat} {r : Option cV} {h2 : List cC} (hf : fnd (mTab.getD (m_o M) []) idx = some (kd, mi)) (hkd : kd = 0 ∨ kd = 3) (hN : eMT[mi]? = some N) (hd : decode (m_b M) pc = .ok (.invokestatic idx, 3)) (hn : m_n N ≤ st.length) (hcat : catC (st.drop (m_n N)) ≤ 8) (hcall : call mi (st.take (m_n N)).reverse h = some (r, h2)) (k : cK p l e R s m args below meth c cl sl Q D A al oe (m_L M) (pc + 3) ls (r.toList ++ st.drop (m_n N)) h2) : cK p l e R s m args below meth c cl sl Q D A al oe (m_L M) pc ls st h := by
  intro H locs lsC g hl
  have X0 := X
  obtain ⟨hx, hb, hml, hown, hts, hA, hE, hoc, hRc, hRs, hfr, hlo, hsc, hcok⟩ := X
  have hmo := eMT_ok N (List.mem_of_getElem? hN)
  have hmu := mOK_use hmo
  have hmt := List.all_eq_true.mp (mTab_ok _ _ hoc) _ (fnd_mem hf)
  have hM : Met l (m_y N) (mWs N) (rmC d) (cPc D A oe al (st.take (m_n N)).reverse h) (cQc D A oe al r h2) 0 0 A := hcok mi N _ h r h2 hN hcall
  have hlen : ((st.take (m_n N)).reverse).length = m_n N := by rw [List.length_reverse, List.length_take]; omega
  have hroom : cl + 0 ≤ R.cells ∧ sl + 0 ≤ R.slots := ⟨hRc, hRs⟩
  have hcs : (((st.drop (m_n N)).map (tv al oe)).map fun v => v.category).sum ≤ 8 := by rw [catC_ok]; exact hcat
  have g0 := g
  obtain ⟨ws, tys, hK, hP, hD, hS, ha, hW⟩ := g
  have hspl : st.map (tv al oe) = ((st.take (m_n N)).reverse.map (tv al oe)).reverse ++ (st.drop (m_n N)).map (tv al oe) := by
    rw [← List.map_reverse, List.reverse_reverse, ← List.map_append, List.take_append_drop]
  refine c_call (a := ((st.take (m_n N)).reverse.map (tv al oe)).toArray) (r := r) (h2 := h2) (rest := (st.drop (m_n N)).map (tv al oe)) ?_ hS (fun H1 locs1 g1 => c_cont k hl g1)
  rcases hkd with rfl | rfl
  · unfold mOKl at hmt
    dsimp only at hmt
    rw [hN] at hmt
    simp only [Bool.and_eq_true, decide_eq_true_eq] at hmt
    exact va_runS (Ts := gtbl) ⟨hx, hb, hml, hown, hts⟩ hM ⟨callB_of (m_n N) hts (mWs_good hmo) rfl rfl rfl (hts _ (gtbl_in hmt.1 rfl)) (hts _ (gtbl_in hmt.2.1 rfl)) ⟨hmu.2.2.1, hmu.2.2.2.1, hmu.2.2.2.2.1⟩ ⟨hfr, by have := hmu.2.2.2.2.2.1; show 8 + (m_L N + 11) + 59 * d ≤ R.locals; omega⟩, hts _ (gtbl_in hmt.2.2 rfl)⟩ ⟨cPc_blind, c_pre X0 g0 _⟩ rfl (by rw [List.length_map]; exact hlen) hl.1 hspl (lv_room hcs) hd hroom
  · unfold mOKl at hmt
    dsimp only at hmt
    rw [hN] at hmt
    simp only [Bool.and_eq_true, decide_eq_true_eq] at hmt
    exact va_runSN (Ts := gtbl) ⟨hx, hb, hml, hown, hts⟩ hM ⟨va_cnB (host := "TwoMouths") (m_n N) hts (mWs_good hmo) rfl rfl rfl (hE.1.1 _ hmt.2.1 rfl) (hts _ (gtbl_in hmt.1 rfl)) ⟨hmu.2.2.1, hmu.2.2.2.1, hmu.2.2.2.2.1⟩ ⟨hfr, by have := hmu.2.2.2.2.2.1; show 8 + (m_L N + 11) + 59 * d ≤ R.locals; omega⟩, hts _ (gtbl_in hmt.2.2 rfl), trivial⟩ ⟨cPc_blind, c_pre X0 g0 _⟩ rfl (by rw [List.length_map]; exact hlen) hl.1 hspl (lv_room hcs) hd hroom
set_option maxHeartbeats 1000000 in
theorem c_inv1 (X : cCx p l R s m args c cl sl D A al oe M call d sc) {N : eM} {kd mi idx : Nat} {r : Option cV} {h2 : List cC} (hf : fnd (mTab.getD (m_o M) []) idx = some (kd, mi)) (hkd : kd = 1 ∨ kd = 4) (hN : eMT[mi]? = some N) (hd : decode (m_b M) pc = .ok (.invokespecial idx, 3)) (hn : 1 + m_n N ≤ st.length) (hcat : catC (st.drop (1 + m_n N)) ≤ 8) (hrec : isKc (st.take (1 + m_n N)).reverse = true) (hcall : call mi (st.take (1 + m_n N)).reverse h = some (r, h2)) (k : cK p l e R s m args below meth c cl sl Q D A al oe (m_L M) (pc + 3) ls (r.toList ++ st.drop (1 + m_n N)) h2) : cK p l e R s m args below meth c cl sl Q D A al oe (m_L M) pc ls st h := by
  intro H locs lsC g hl
  have X0 := X
  obtain ⟨hx, hb, hml, hown, hts, hA, hE, hoc, hRc, hRs, hfr, hlo, hsc, hcok⟩ := X
  have hmo := eMT_ok N (List.mem_of_getElem? hN)
  have hmu := mOK_use hmo
  have hmt := List.all_eq_true.mp (mTab_ok _ _ hoc) _ (fnd_mem hf)
  have hM : Met l (m_y N) (mWs N) (rmC d) (cPc D A oe al (st.take (1 + m_n N)).reverse h) (cQc D A oe al r h2) 0 0 A := hcok mi N _ h r h2 hN hcall
  have hlen : ((st.take (1 + m_n N)).reverse).length = 1 + m_n N := by rw [List.length_reverse, List.length_take]; omega
  have hroom : cl + 0 ≤ R.cells ∧ sl + 0 ≤ R.slots := ⟨hRc, hRs⟩
  have hcs : (((st.drop (1 + m_n N)).map (tv al oe)).map fun v => v.category).sum ≤ 8 := by rw [catC_ok]; exact hcat
  have g0 := g
  obtain ⟨ws, tys, hK, hP, hD, hS, ha, hW⟩ := g
  have hspl : st.map (tv al oe) = ((st.take (1 + m_n N)).reverse.map (tv al oe)).reverse ++ (st.drop (1 + m_n N)).map (tv al oe) := by
    rw [← List.map_reverse, List.reverse_reverse, ← List.map_append, List.take_append_drop]
  generalize (st.take (1 + m_n N)).reverse = as at hM hlen hspl hcall hrec
  have hrv : ∃ (k0 : Nat) (as2 : List cV), as = cR k0 :: as2 := by
    match as, hrec with
    | .inl (some k0) :: as2, _ => exact ⟨k0, as2, rfl⟩
  obtain ⟨k0, as2, hae⟩ := hrv
  subst hae
  have hb0 : ∃ b : Nat, tv al oe (cR k0) = .ref b := ⟨_, rfl⟩
  have hmp : (cR k0 :: as2).map (tv al oe) = .ref (al.getD k0 0) :: as2.map (tv al oe) := by rw [List.map_cons]; rfl
  have hstk : st.map (tv al oe) = (as2.map (tv al oe)).reverse ++ .ref (al.getD k0 0) :: (st.drop (1 + m_n N)).map (tv al oe) := by
    rw [hspl, hmp, List.reverse_cons, List.append_assoc]
    rfl
  have hlen2 : (as2.map (tv al oe)).length = m_n N := by rw [List.length_map]; rw [List.length_cons] at hlen; omega
  have hpre := c_pre X0 g0 (cR k0 :: as2)
  rw [hmp] at hpre
  refine c_call (a := (Value.ref (al.getD k0 0) :: as2.map (tv al oe)).toArray) (r := r) (h2 := h2) (rest := (st.drop (1 + m_n N)).map (tv al oe)) ?_ hS (fun H1 locs1 g1 => c_cont k hl g1)
  rcases hkd with rfl | rfl
  · unfold mOKl at hmt
    dsimp only at hmt
    rw [hN] at hmt
    simp only [Bool.and_eq_true, decide_eq_true_eq] at hmt
    have hvoid := init_void N (List.mem_of_getElem? hN) hmt.2.2
    have hws : mWs N = Cond.code (m_y N) (m_b N) (m_L N) none :: gtbl := by unfold mWs; rw [hvoid]
    exact va_runI (Ts := gtbl) ⟨hx, hb, hml, hown, hts⟩ hM ⟨callB_of (m_n N) hts (mWs_good hmo) hws rfl rfl (hts _ (gtbl_in hmt.1 rfl)) (hts _ (gtbl_in hmt.2.1.1 rfl)) ⟨hmu.2.2.1, hmu.2.2.2.1, hmu.2.2.2.2.1⟩ ⟨hfr, by have := hmu.2.2.2.2.2.1; show 8 + (m_L N + 11) + 59 * d ≤ R.locals; omega⟩, hmt.2.2, hts _ (gtbl_in hmt.2.1.2 rfl)⟩ ⟨cPc_blind, hpre⟩ rfl hlen2 hl.1 hstk (lv_room hcs) hd hroom
  · unfold mOKl at hmt
    dsimp only at hmt
    rw [hN] at hmt
    simp only [Bool.and_eq_true, decide_eq_true_eq] at hmt
    have hvoid := init_void N (List.mem_of_getElem? hN) hmt.2.2
    have hws : mWs N = Cond.code (m_y N) (m_b N) (m_L N) none :: gtbl := by unfold mWs; rw [hvoid]
    exact va_runIN (Ts := gtbl) ⟨hx, hb, hml, hown, hts⟩ hM ⟨va_cnB (host := "TwoMouths") (m_n N) hts (mWs_good hmo) hws rfl rfl (hE.1.1 _ hmt.2.1.1 rfl) (hts _ (gtbl_in hmt.1 rfl)) ⟨hmu.2.2.1, hmu.2.2.2.1, hmu.2.2.2.2.1⟩ ⟨hfr, by have := hmu.2.2.2.2.2.1; show 8 + (m_L N + 11) + 59 * d ≤ R.locals; omega⟩, hmt.2.2, hts _ (gtbl_in hmt.2.1.2 rfl)⟩ ⟨cPc_blind, hpre⟩ rfl hlen2 hl.1 hstk (lv_room hcs) hd hroom
set_option maxHeartbeats 1000000 in
theorem c_inv2 (X : cCx p l R s m args c cl sl D A al oe M call d sc) {N : eM} {kd mi idx : Nat} {r : Option cV} {h2 : List cC} (hf : fnd (mTab.getD (m_o M) []) idx = some (kd, mi)) (hkd : kd = 2 ∨ kd = 5) (hN : eMT[mi]? = some N) (hd : decode (m_b M) pc = .ok (.invokevirtual idx, 3)) (hn : 1 + m_n N ≤ st.length) (hcat : catC (st.drop (1 + m_n N)) ≤ 8) (hrec : recC h (m_o N) (st.take (1 + m_n N)).reverse = true) (hcall : call mi (st.take (1 + m_n N)).reverse h = some (r, h2)) (k : cK p l e R s m args below meth c cl sl Q D A al oe (m_L M) (pc + 3) ls (r.toList ++ st.drop (1 + m_n N)) h2) : cK p l e R s m args below meth c cl sl Q D A al oe (m_L M) pc ls st h := by
  intro H locs lsC g hl
  have X0 := X
  obtain ⟨hx, hb, hml, hown, hts, hA, hE, hoc, hRc, hRs, hfr, hlo, hsc, hcok⟩ := X
  have hmo := eMT_ok N (List.mem_of_getElem? hN)
  have hmu := mOK_use hmo
  have hmt := List.all_eq_true.mp (mTab_ok _ _ hoc) _ (fnd_mem hf)
  have hM : Met l (m_y N) (mWs N) (rmC d) (cPc D A oe al (st.take (1 + m_n N)).reverse h) (cQc D A oe al r h2) 0 0 A := hcok mi N _ h r h2 hN hcall
  have hlen : ((st.take (1 + m_n N)).reverse).length = 1 + m_n N := by rw [List.length_reverse, List.length_take]; omega
  have hroom : cl + 0 ≤ R.cells ∧ sl + 0 ≤ R.slots := ⟨hRc, hRs⟩
  have hcs : (((st.drop (1 + m_n N)).map (tv al oe)).map fun v => v.category).sum ≤ 8 := by rw [catC_ok]; exact hcat
  have g0 := g
  obtain ⟨ws, tys, hK, hP, hD, hS, ha, hW⟩ := g
  have hspl : st.map (tv al oe) = ((st.take (1 + m_n N)).reverse.map (tv al oe)).reverse ++ (st.drop (1 + m_n N)).map (tv al oe) := by
    rw [← List.map_reverse, List.reverse_reverse, ← List.map_append, List.take_append_drop]
  generalize (st.take (1 + m_n N)).reverse = as at hM hlen hspl hcall hrec
  have hrv : ∃ (a0 : cV) (b : Nat) (as2 : List cV), as = a0 :: as2 ∧ tv al oe a0 = .ref b ∧ ∃ cellB : Cell, H[b]? = some cellB ∧ cellB.vm.isStatics = false ∧ s.vm.findClass (m_y N).cls = some cellB.cls := by
    match as, hrec with
    | .inl (some k0) :: as2, hrec =>
      refine ⟨.inl (some k0), al.getD k0 0, as2, rfl, rfl, ?_⟩
      unfold recC at hrec
      dsimp only at hrec
      split at hrec
      · rename_i ci fs hk0
        obtain ⟨z1, z2⟩ := and_inv hrec
        have e1 := nbeq_t z1
        obtain ⟨q, hq⟩ := clEx ci (Nat.le_of_ble_eq_true z2)
        obtain ⟨e2, hw, rfl⟩ := hW.2 k0 _ hk0
        have hnm := clNm ci q hq
        rw [e1, hmu.2.2.2.2.2.2.1] at hnm
        rw [Option.some.inj hnm]
        exact va_recv hK hP hq hw
      · cases hrec
    | .inr (.inr (.inr n)) :: as2, hrec =>
      unfold recC at hrec
      dsimp only at hrec
      obtain ⟨z1, z2⟩ := and_inv hrec
      obtain ⟨z2, z3⟩ := and_inv z2
      have e1 := nbeq_t z1
      refine ⟨.inr (.inr (.inr n)), oe n, as2, rfl, tv_O (by rw [e1]; exact odd99 (Nat.le_of_ble_eq_true z2)), ?_⟩
      have hnm := hmu.2.2.2.2.2.2.1
      rw [nbeq_t z3] at hnm
      have e3 : (m_y N).cls = "java/lang/String" := (Option.some.inj hnm).symm
      rw [e3]
      have hrr := vk_recv hE.1.2.2.1 (i := n / 2) (Nat.le_of_ble_eq_true z2) hS
      rw [← e1] at hrr
      exact hrr
    | .inl none :: _, hrec => cases hrec
    | .inr (.inl _) :: _, hrec => cases hrec
    | .inr (.inr (.inl _)) :: _, hrec => cases hrec
    | [], hrec => cases hrec
  obtain ⟨a0, b, as2, hae, hab, hcell⟩ := hrv
  subst hae
  have hmp : (a0 :: as2).map (tv al oe) = .ref b :: as2.map (tv al oe) := by rw [List.map_cons, hab]
  have hstk : st.map (tv al oe) = (as2.map (tv al oe)).reverse ++ .ref b :: (st.drop (1 + m_n N)).map (tv al oe) := by
    rw [hspl, hmp, List.reverse_cons, List.append_assoc]
    rfl
  have hlen2 : (as2.map (tv al oe)).length = m_n N := by rw [List.length_map]; rw [List.length_cons] at hlen; omega
  have hpre := c_pre X0 g0 (a0 :: as2)
  rw [hmp] at hpre
  refine c_call (a := (Value.ref b :: as2.map (tv al oe)).toArray) (r := r) (h2 := h2) (rest := (st.drop (1 + m_n N)).map (tv al oe)) ?_ hS (fun H1 locs1 g1 => c_cont k hl g1)
  rcases hkd with rfl | rfl
  · unfold mOKl at hmt
    dsimp only at hmt
    rw [hN] at hmt
    simp only [Bool.and_eq_true, decide_eq_true_eq] at hmt
    exact va_runV (Ts := gtbl) (C := (m_y N).cls) ⟨hx, hb, hml, hown, hts⟩ hM ⟨callB_of (m_n N) hts (mWs_good hmo) rfl rfl rfl (hts _ (gtbl_in hmt.1 rfl)) (hts _ (gtbl_in hmt.2.1.1 rfl)) ⟨hmu.2.2.1, hmu.2.2.2.1, hmu.2.2.2.2.1⟩ ⟨hfr, by have := hmu.2.2.2.2.2.1; show 8 + (m_L N + 11) + 59 * d ≤ R.locals; omega⟩, hts _ (gtbl_in hmt.2.1.2 rfl), hts _ (gtbl_in hmt.2.2 rfl)⟩ ⟨cPc_blind, hcell, hpre⟩ rfl hlen2 hl.1 hstk (lv_room hcs) hd hroom
  · unfold mOKl at hmt
    dsimp only at hmt
    rw [hN] at hmt
    simp only [Bool.and_eq_true, decide_eq_true_eq] at hmt
    exact va_runVN (Ts := gtbl) (C := (m_y N).cls) ⟨hx, hb, hml, hown, hts⟩ hM ⟨va_cnB (host := "TwoMouths") (m_n N) hts (mWs_good hmo) rfl rfl rfl (hE.1.1 _ hmt.2.1.1 rfl) (hts _ (gtbl_in hmt.1 rfl)) ⟨hmu.2.2.1, hmu.2.2.2.1, hmu.2.2.2.2.1⟩ ⟨hfr, by have := hmu.2.2.2.2.2.1; show 8 + (m_L N + 11) + 59 * d ≤ R.locals; omega⟩, hts _ (gtbl_in hmt.2.1.2 rfl), hts _ (gtbl_in hmt.2.2 rfl)⟩ ⟨cPc_blind, hcell, hpre⟩ rfl hlen2 hl.1 hstk (lv_room hcs) hd hroom
theorem c_mmax (X : cCx p l R s m args c cl sl D A al oe M call d sc) {idx mi : Nat} {x y : Int32} (hf : fnd (mTab.getD (m_o M) []) idx = some (8, mi)) (hd : decode (m_b M) pc = .ok (.invokestatic idx, 3)) (hcat : catC st ≤ 8) (k : cK p l e R s m args below meth c cl sl Q D A al oe (m_L M) (pc + 3) ls (cI (if x < y then y else x) :: st) h) : cK p l e R s m args below meth c cl sl Q D A al oe (m_L M) pc ls (cI y :: cI x :: st) h := by
  intro H locs lsC g hl
  obtain ⟨hx, hb, hml, hown, hts, hA, hE, hoc, hRc, hRs, hfr, hlo, hsc, hcok⟩ := X
  have hmt := List.all_eq_true.mp (mTab_ok _ _ hoc) _ (fnd_mem hf)
  unfold mOKl at hmt
  dsimp only at hmt
  have hmt := of_decide_eq_true hmt
  have hg2 := glb_ok2
  exact va_mmax hx hb (hml.trans hl.1.symm) hown (hts _ (gtbl_in hmt rfl)) (hts _ (gtbl_in hg2.2.1 rfl)) (hts _ (gtbl_in hg2.1 rfl)) (hts _ (gtbl_in hg2.2.2.1 rfl)) (by omega) (by rw [catC_ok]; omega) hRc hRs hd (k H locs lsC g hl)
theorem c_mmin (X : cCx p l R s m args c cl sl D A al oe M call d sc) {idx mi : Nat} {x y : Int32} (hf : fnd (mTab.getD (m_o M) []) idx = some (9, mi)) (hd : decode (m_b M) pc = .ok (.invokestatic idx, 3)) (hcat : catC st ≤ 8) (k : cK p l e R s m args below meth c cl sl Q D A al oe (m_L M) (pc + 3) ls (cI (if y < x then y else x) :: st) h) : cK p l e R s m args below meth c cl sl Q D A al oe (m_L M) pc ls (cI y :: cI x :: st) h := by
  intro H locs lsC g hl
  obtain ⟨hx, hb, hml, hown, hts, hA, hE, hoc, hRc, hRs, hfr, hlo, hsc, hcok⟩ := X
  have hmt := List.all_eq_true.mp (mTab_ok _ _ hoc) _ (fnd_mem hf)
  unfold mOKl at hmt
  dsimp only at hmt
  have hmt := of_decide_eq_true hmt
  have hg2 := glb_ok2
  exact va_mmin hx hb (hml.trans hl.1.symm) hown (hts _ (gtbl_in hmt rfl)) (hts _ (gtbl_in hg2.2.2.2.1 rfl)) (hts _ (gtbl_in hg2.1 rfl)) (hts _ (gtbl_in hg2.2.2.2.2 rfl)) (by omega) (by rw [catC_ok]; omega) hRc hRs hd (k H locs lsC g hl)
theorem cpy_nn {z : Int32} (h : ¬ z < 0) : ¬ z < 0 := h
set_option maxHeartbeats 1000000 in
theorem c_cpyI (X : cCx p l R s m args c cl sl D A al oe M call d sc) {idx mi : Nat} {n dp sp : Int32} {kd ks n0 n1 : Nat} {f0 f1 : Nat → Int32} (hf : fnd (mTab.getD (m_o M) []) idx = some (7, mi)) (hd : decode (m_b M) pc = .ok (.invokestatic idx, 3)) (h0 : h[ks]? = some (.inr (.inl (0, n0, f0)))) (h1 : h[kd]? = some (.inr (.inl (0, n1, f1)))) (o1 : ¬ n < 0) (o2 : ¬ dp < 0) (o3 : ¬ sp < 0) (b1 : sp.toNatClampNeg + n.toNatClampNeg ≤ n0) (b2 : dp.toNatClampNeg + n.toNatClampNeg ≤ n1) (k : cK p l e R s m args below meth c cl sl Q D A al oe (m_L M) (pc + 3) ls [] (h.set kd (.inr (.inl (0, n1, va_cpy f0 f1 sp.toNatClampNeg dp.toNatClampNeg n.toNatClampNeg))))) : cK p l e R s m args below meth c cl sl Q D A al oe (m_L M) pc ls [cI n, cI dp, cR kd, cI sp, cR ks] h := by
  intro H locs lsC g hl
  obtain ⟨ws, tys, hK, hP, hD, hS, ha, hW⟩ := g
  obtain ⟨hx, hb, hml, hown, hts, hA, hE, hoc, hRc, hRs, hfr, hlo, hsc, hcok⟩ := X
  have hmt := List.all_eq_true.mp (mTab_ok _ _ hoc) _ (fnd_mem hf)
  unfold mOKl at hmt
  dsimp only at hmt
  have hmt := of_decide_eq_true hmt
  obtain ⟨-, -, g3, g4, g5, -⟩ := glb_ok
  obtain ⟨e0, w0, hk0, hn0, c0, t0, ht0, rfl⟩ := hW.2 ks _ h0
  obtain ⟨e1, w1, hk1, hn1, c1, t1, ht1, rfl⟩ := hW.2 kd _ h1
  have hlw : (([] : List Value).map fun v => v.category).sum + (nativeFrameWords "java/lang/System" "arraycopy" 5 + 11) ≤ R.locals := by
    have hz : nativeFrameWords "java/lang/System" "arraycopy" 5 + 11 ≤ 59 := by decide +kernel
    show 0 + _ ≤ _
    omega
  have hfr1 : 1 ≤ R.frames := by omega
  exact va_copyi hx hb (hml.trans hl.1.symm) hown (hts _ (gtbl_in hmt rfl)) (hts _ (gtbl_in g3 rfl)) (hts _ (gtbl_in g4 rfl)) (hts _ (gtbl_in g5 rfl)) hK hP hD hS ks kd t0 t1 w0 w1 ht0 ht1 rfl (sp := sp) (dp := dp) (n := n) o3 o2 o1 b1 b2 (fun _ _ => rfl) hfr1 hlw (rest := []) hd (fun H1 locs1 hP1 hD1 hS1 => k H1 locs1 lsC ⟨_, tys, hK, hP1, hD1, hS1, by rw [adr_set w1]; exact ha, hW_set hW w1 ⟨hk1, hn1, c1, t1, ht1, rfl⟩⟩ hl)
set_option maxHeartbeats 1000000 in
theorem c_cpyJ (X : cCx p l R s m args c cl sl D A al oe M call d sc) {idx mi : Nat} {n dp sp : Int32} {kd ks n0 n1 : Nat} {f0 f1 : Nat → Int64} (hf : fnd (mTab.getD (m_o M) []) idx = some (7, mi)) (hd : decode (m_b M) pc = .ok (.invokestatic idx, 3)) (h0 : h[ks]? = some (.inr (.inr (.inl (n0, f0))))) (h1 : h[kd]? = some (.inr (.inr (.inl (n1, f1))))) (o1 : ¬ n < 0) (o2 : ¬ dp < 0) (o3 : ¬ sp < 0) (b1 : sp.toNatClampNeg + n.toNatClampNeg ≤ n0) (b2 : dp.toNatClampNeg + n.toNatClampNeg ≤ n1) (k : cK p l e R s m args below meth c cl sl Q D A al oe (m_L M) (pc + 3) ls [] (h.set kd (.inr (.inr (.inl (n1, va_cpy f0 f1 sp.toNatClampNeg dp.toNatClampNeg n.toNatClampNeg)))))) : cK p l e R s m args below meth c cl sl Q D A al oe (m_L M) pc ls [cI n, cI dp, cR kd, cI sp, cR ks] h := by
  intro H locs lsC g hl
  obtain ⟨ws, tys, hK, hP, hD, hS, ha, hW⟩ := g
  obtain ⟨hx, hb, hml, hown, hts, hA, hE, hoc, hRc, hRs, hfr, hlo, hsc, hcok⟩ := X
  have hmt := List.all_eq_true.mp (mTab_ok _ _ hoc) _ (fnd_mem hf)
  unfold mOKl at hmt
  dsimp only at hmt
  have hmt := of_decide_eq_true hmt
  obtain ⟨-, -, g3, g4, g5, -⟩ := glb_ok
  obtain ⟨e0, w0, hn0, c0, t0, ht0, rfl⟩ := hW.2 ks _ h0
  obtain ⟨e1, w1, hn1, c1, t1, ht1, rfl⟩ := hW.2 kd _ h1
  have hlw : (([] : List Value).map fun v => v.category).sum + (nativeFrameWords "java/lang/System" "arraycopy" 5 + 11) ≤ R.locals := by
    have hz : nativeFrameWords "java/lang/System" "arraycopy" 5 + 11 ≤ 59 := by decide +kernel
    show 0 + _ ≤ _
    omega
  have hfr1 : 1 ≤ R.frames := by omega
  exact va_copyl hx hb (hml.trans hl.1.symm) hown (hts _ (gtbl_in hmt rfl)) (hts _ (gtbl_in g3 rfl)) (hts _ (gtbl_in g4 rfl)) (hts _ (gtbl_in g5 rfl)) hK hP hD hS ks kd t0 t1 w0 w1 ht0 ht1 rfl (sp := sp) (dp := dp) (n := n) o3 o2 o1 b1 b2 (fun _ _ => rfl) hfr1 hlw (rest := []) hd (fun H1 locs1 hP1 hD1 hS1 => k H1 locs1 lsC ⟨_, tys, hK, hP1, hD1, hS1, by rw [adr_set w1]; exact ha, hW_set hW w1 ⟨hn1, c1, t1, ht1, rfl⟩⟩ hl)
end
