/-! THE ENGINE, 8: what holds all along a run; a method's contract; a call -/
def eEnv (A : Nat → Prop) (oe : Nat → Nat) (s : State) : Prop :=
  (∀ w ∈ lw_tbl, isNest w = true → va_Nw w s) ∧ (∀ ci ∈ aoL, ∀ r : vw_C, classes[ci]? = some r → va_AO r.1 s) ∧ vk_S nS lenS bytS (fun i => oe (2 * i + 1)) (fun i => oe (2 * i + 2)) A s s.heap ∧ va_Z "java/lang/String" "COMPACT_STRINGS" "Z" (.int 1) A s s.heap ∧ (∀ (oc : Nat) (own : String), oNm[oc]? = some own → ∀ (idx : Nat) (tx : String) (i : Nat), (idx, (tx, i)) ∈ sTab.getD oc [] → vk_R own idx tx (oe (2 * i + 1)) s)
theorem eEnv_warm {A : Nat → Prop} {oe : Nat → Nat} {s U : State} (hW : s.WarmedH U.vm) (hk : ∀ a : Nat, a < s.heap.size → ¬ A a → U.heap[a]? = s.heap[a]?) (h : eEnv A oe s) : eEnv A oe U := by
  obtain ⟨h1, h2, h3, h4, h5⟩ := h
  refine ⟨fun w hw hn => ?_, fun ci hci r hr => va_AO.moved hW.alike (h2 ci hci r hr), (vk_S.moved hW.alike h3).kept hk, (va_Z.moved hW.alike h4).kept hk, fun oc own ho idx tx i hi => (h5 oc own ho idx tx i hi).warm hW⟩
  have h9 := h1 w hw hn
  match w, hn, h9 with
  | .fieldLinkNest _ _ _ _ _ _, _, h9 => exact va_Nw.warmF hW h9
  | .methodLinkNest _ _ _ _, _, h9 => exact va_Nw.warmM hW h9
def eRes (al : List Nat) (oe : Nat → Nat) (r : Option eV) (rv : Option Value) : Prop := match r with
  | none => rv = none
  | some a => ∃ v : Value, rv = some v ∧ gV al oe a v
def ePc (D : va_G) (A : Nat → Prop) (oe : Nat → Nat) (al : List Nat) (vs : List Value) (as : List eV) (h : List eC) : Array Value → State → Prop := fun v U =>
  v = vs.toArray ∧ (∀ q, U.heap.size ≤ q → A q) ∧ eEnv A oe U ∧ ∃ (ws : va_W) (tys : List (ClassId × FieldType)), adr ws = al ∧ va_K D classes tys U ∧ va_P D classes ws U.heap ∧ va_D A ws ∧ gW tys oe h ws ∧ gS al oe as vs
def eQc (D : va_G) (A : Nat → Prop) (oe : Nat → Nat) (al : List Nat) (r : Option eV) (h2 : List eC) : Array Value → State → Outcome → State → Prop := fun _ st oc t =>
  va_F A st t ∧ ∃ (rv : Option Value) (ws : va_W) (tys : List (ClassId × FieldType)), oc = .returned rv ∧ al <+: adr ws ∧ va_K D classes tys t ∧ va_P D classes ws t.heap ∧ va_D A ws ∧ gW tys oe h2 ws ∧ eRes (adr ws) oe r rv
def mWs (M : eM) : List Cond := Cond.code (m_y M) (m_b M) (m_L M) (m_t M) :: gtbl
def rmD (d : Nat) (M : eM) : Room := { frames := d, cells := m_c M, slots := m_s M, locals := 59 * d }
def eMet (l : Launch) (D : va_G) (A : Nat → Prop) (oe : Nat → Nat) (d : Nat) (M : eM) (as : List eV) (h : List eC) (r : Option eV) (h2 : List eC) : Prop :=
  ∀ (al : List Nat) (vs : List Value), Met l (m_y M) (mWs M) (rmD d M) (ePc D A oe al vs as h) (eQc D A oe al r h2) (m_c M) (m_s M) A
def eCOK (l : Launch) (D : va_G) (A : Nat → Prop) (oe : Nat → Nat) (d : Nat) (call : eCl) : Prop :=
  ∀ (mi : Nat) (N : eM) (as : List eV) (h : List eC) (r : Option eV) (h2 : List eC), eMT[mi]? = some N → call mi as h = some (r, h2) → eMet l D A oe d N as h r h2
theorem ePc_blind {D : va_G} {A : Nat → Prop} {oe : Nat → Nat} {al : List Nat} {vs : List Value} {as : List eV} {h : List eC} : FrameBlind (ePc D A oe al vs as h) := by
  intro a U g mk q
  obtain ⟨q1, q2, q3, ws, tys, q4, q5, q6⟩ := q
  exact ⟨q1, q2, eEnv_warm (s := U) (U := U.calling g mk a) (State.WarmedH.refl U) (fun _ _ _ => rfl) q3, ws, tys, q4, va_K.moved (u := U) (U := U.calling g mk a) (Vm.Alike.refl U.vm) q5, q6⟩
def eScr (A : Nat → Prop) (oe : Nat → Nat) (s : State) (sc : Option (List eP)) : Prop :=
  ∀ bx : List eP, sc = some bx → ∃ (b : Nat) (xs : Nat → Int32), va_X b bx.length xs s s.heap ∧ b < s.heap.size ∧ ¬ A b ∧ oe 0 = b ∧ bx.length < 2147483648 ∧ ∀ (j : Nat) (q : eP), bx[j]? = some q → bt2 q (xs j).toInt
/-- what holds of the method that runs -/
def eCx (p : Program) (l : Launch) (R : Room) (s : State) (m : MethodId) (args : Array Value) (meth : Method) (c : Code) (D : va_G) (A : Nat → Prop) (oe : Nat → Nat) (M : eM) (call : eCl) (d : Nat) (sc : Option (List eP)) : Prop :=
  p.tables.exec = Jvm.exec ∧ c.code = m_b M ∧ c.maxLocals = m_L M ∧ s.vm.findClass (m_y M).cls = some m.cls ∧ (∀ w ∈ gtbl, w.before args s = true) ∧ (∀ q, s.heap.size ≤ q → A q) ∧ eEnv A oe s ∧ oNm[m_o M]? = some (m_y M).cls ∧ (isInit M = true → meth.name = "<init>") ∧ R.cells = m_c M ∧ R.slots = m_s M ∧ d + 1 ≤ R.frames ∧ 59 * d + 59 ≤ R.locals ∧ eScr A oe s sc ∧ eCOK l D A oe d call
theorem clTy : ∀ (ci : Nat) (C : String) (T : u_T) (N : Nat), classes[ci]? = some (C, T, N) → ∀ k, k < N → parseFieldDescriptor (T k).2.2.1 = some ((tyls.getD ci []).getD k .int) := by
  intro ci C T N h
  match ci, h with
  | 0, h => cases h; exact cy0
  | 1, h => cases h; exact cy1
  | 2, h => cases h; exact cy2
  | 3, h => cases h; exact cy3
  | 4, h => cases h; exact cy4
  | 5, h => cases h; exact cy5
  | 6, h => cases h; exact cy6
  | 7, h => cases h; exact cy7
  | 8, h => cases h; exact cy8
  | 9, h => cases h; exact cy9
  | 10, h => cases h; exact cy10
  | 11, h => cases h; exact cy11
  | 12, h => cases h; exact cy12
  | n + 13, h => simp [classes] at h
theorem clNm : ∀ (ci : Nat) (r : vw_C), classes[ci]? = some r → oNm[ci]? = some r.1 := by
  intro ci r h
  match ci, h with
  | 0, h => cases h; rfl
  | 1, h => cases h; rfl
  | 2, h => cases h; rfl
  | 3, h => cases h; rfl
  | 4, h => cases h; rfl
  | 5, h => cases h; rfl
  | 6, h => cases h; rfl
  | 7, h => cases h; rfl
  | 8, h => cases h; rfl
  | 9, h => cases h; rfl
  | 10, h => cases h; rfl
  | 11, h => cases h; rfl
  | 12, h => cases h; rfl
  | n + 13, h => simp [classes] at h
theorem clEx : ∀ ci : Nat, ci + 1 ≤ 13 → ∃ r : vw_C, classes[ci]? = some r := by
  intro ci h
  have : ci < classes.length := by
    have e : classes.length = 13 := by rfl
    omega
  exact ⟨classes[ci], List.getElem?_eq_getElem this⟩
/-- a method of the table -/
theorem mOK_use {M : eM} (h : mOKb M = true) : Cond.code (m_y M) (m_b M) (m_L M) (m_t M) ∈ lw_tbl ∧ plainName (m_y M).cls = true ∧ (m_y M).cls ≠ "java/lang/invoke/MethodHandle" ∧ (m_y M).cls ≠ "java/lang/invoke/VarHandle" ∧ (parseMethodDescriptor (m_y M).desc).map (fun d => d.parameters.length) = some (m_n M) ∧ m_L M ≤ 40 ∧ oNm[m_o M]? = some (m_y M).cls ∧ ∀ q ∈ m_il M, decode (m_b M) q.1 = .ok q.2 := by
  unfold mOKb at h
  simp only [Bool.and_eq_true, decide_eq_true_eq] at h
  obtain ⟨⟨⟨⟨⟨⟨⟨h1, h2⟩, h3⟩, h4⟩, h5⟩, h6⟩, h7⟩, h8⟩ := h
  refine ⟨h1, h2, h3, h4, h5, Nat.le_of_ble_eq_true h6, h7, fun q hq => ?_⟩
  unfold ilOK at h8
  have := List.all_eq_true.mp h8 q hq
  exact of_decide_eq_true this
theorem mWs_good {M : eM} (h : mOKb M = true) : GoodIn gtbl (mWs M) := by
  intro w hw
  rcases List.mem_cons.mp hw with rfl | hw
  · have hg : Cond.code (m_y M) (m_b M) (m_L M) (m_t M) ∈ gtbl := gtbl_in (mOK_use h).1 rfl
    exact gtbl_good _ hg
  · exact gtbl_good w hw
theorem gS_cat {al : List Nat} {oe : Nat → Nat} : ∀ {as : List eV} {vs : List Value}, gS al oe as vs → (vs.map fun v => v.category).sum = catS as
  | [], [], _ => rfl
  | a :: as, v :: vs, g => by
    have ih := gS_cat g.2
    simp only [List.map_cons, List.sum_cons, catS, ih]
    match a, g.1 with
    | .inl none, g => cases g; rfl
    | .inl (some k), ⟨x, _, hv⟩ => cases hv; rfl
    | .inr (.inl q), ⟨x, hv, _⟩ => cases hv; rfl
    | .inr (.inr (.inl q)), ⟨x, hv, _⟩ => cases hv; rfl
    | .inr (.inr (.inr k)), g => cases g; rfl
  | [], _ :: _, g => g.elim
  | _ :: _, [], g => g.elim
theorem gS_take {al : List Nat} {oe : Nat → Nat} : ∀ {as : List eV} {vs : List Value} (n : Nat), gS al oe as vs → gS al oe (as.take n) (vs.take n) ∧ gS al oe (as.drop n) (vs.drop n)
  | [], [], n, _ => by simp [gS]
  | a :: as, v :: vs, 0, g => ⟨trivial, g⟩
  | a :: as, v :: vs, n + 1, g => ⟨⟨g.1, (gS_take n g.2).1⟩, (gS_take n g.2).2⟩
  | [], _ :: _, _, g => g.elim
  | _ :: _, [], _, g => g.elim
section
variable {p : Program} {l : Launch} {e : Env} {R : Room} {s : State} {m : MethodId} {args : Array Value} {below : List Frame} {meth : Method} {c : Code} {Q : State → Prop} {D : va_G} {A : Nat → Prop} {al0 : List Nat} {oe : Nat → Nat}
theorem e_call {H : Heap} {locs : List Loc} {cells slots mc ms pc : Nat} {lsC : Array Slot} {st0 rest : List Value} {al : List Nat} {r : Option eV} {h2 : List eC} {a : Array Value} (hr : va_Run p l e R s m args below meth c H locs cells slots mc ms (F0 m pc lsC st0) rest (eQc D A oe al r h2 a) A) (hS : va_S A s.heap H locs)
    (kk : ∀ (H1 : Heap) (locs1 : List Loc) (rv : Option Value) (ws : va_W) (tys : List (ClassId × FieldType)), va_S A s.heap H1 locs1 → al <+: adr ws → va_K D classes tys s → va_P D classes ws H1 → va_D A ws → gW tys oe h2 ws → eRes (adr ws) oe r rv → W p l e R s m args below meth c H1 locs1 (cells + mc) (slots + ms) Q (F0 m (pc + 3) lsC (rv.toList ++ rest))) : W p l e R s m args below meth c H locs cells slots Q (F0 m pc lsC st0) := by
  intro T hT X
  obtain ⟨v, st₀, t, T', L, h0, X', hL, e1, e2, ⟨⟨hz, hk⟩, rv, ws, tys, hv, k1, k2, k3, k4, k5, k6⟩, st⟩ := hr T hT X
  cases hv
  rw [h0] at hz hk
  have hal : s.vm.Alike t.vm := by rw [← e2]; exact X'.warmed.alike
  obtain ⟨t2, a1, b1⟩ := kk T'.heap (locs ++ L) _ ws tys
    ⟨Nat.le_trans hS.1 (by rw [e1]; exact hz), fun q h1 h2 => by rw [e1, hk q (Nat.lt_of_lt_of_le h1 hS.1) h2]; exact hS.2.1 q h1 h2, fun q hq => by
      rcases List.mem_append.mp hq with h | h
      · exact hS.2.2 q h
      · exact hL q h⟩ k1 (va_K.moved hal.symm k2) (by rw [e1]; exact k3) k4 k5 k6 T' rfl X'
  exact ⟨t2, st t2 a1, b1⟩
/-- what a call needs of the caller's state -/
theorem e_pre {M : eM} {call : eCl} {d : Nat} {sc : Option (List eP)} (X : eCx p l R s m args meth c D A oe M call d sc) {ws : va_W} {tys : List (ClassId × FieldType)} {H : Heap} {locs : List Loc} (hK : va_K D classes tys s) (hP : va_P D classes ws H) (hD : va_D A ws) (hS : va_S A s.heap H locs) {h : List eC} (hW : gW tys oe h ws) {as : List eV} {vs : List Value} (hg : gS (adr ws) oe as vs) : ∀ U : State, U.heap = H → s.WarmedH U.vm → ePc D A oe (adr ws) vs as h vs.toArray U := by
  intro U hU hW2
  obtain ⟨-, -, -, -, -, hA, hE, -⟩ := X
  exact ⟨rfl, fun q hq => hA q (by rw [hU] at hq; exact Nat.le_trans hS.1 hq), eEnv_warm hW2 (fun a h1 h2 => by rw [hU]; exact hS.2.1 a h1 h2) hE, ws, tys, rfl, va_K.moved hW2.alike hK, by rw [hU]; exact hP, hD, hW, hg⟩
end
