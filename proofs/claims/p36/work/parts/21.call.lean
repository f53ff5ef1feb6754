/-! THE ENGINE, 9: calls (printed by wip/engine/gen21.py) -/
section
variable {p : Program} {l : Launch} {e : Env} {R : Room} {s : State} {m : MethodId} {args : Array Value} {below : List Frame} {meth : Method} {c : Code} {Q : State → Prop} {D : va_G} {A : Nat → Prop} {al0 : List Nat} {oe : Nat → Nat} {M : eM} {call : eCl} {d : Nat} {sc : Option (List eP)} {pc cl sl : Nat} {ls : List (Nat × eV)} {st : List eV} {h : List eC}
theorem init_void : ∀ N ∈ eMT, (m_y N).name = "<init>" → m_t N = none := by
  have h : (eMT.all fun N => !(decide ((m_y N).name = "<init>")) || (m_t N).isNone) = true := by decide +kernel
  intro N hN hi
  have h1 := List.all_eq_true.mp h N hN
  rcases or_inv h1 with z | z
  · have z2 := not_inv z
    exact absurd hi (of_decide_eq_false z2)
  · exact Option.isNone_iff_eq_none.mp z
theorem e_cont {ws ws1 : va_W} {tys1 : List (ClassId × FieldType)} {H1 : Heap} {locs1 : List Loc} {lsC : Array Slot} {lv : List (Nat × Value)} {r : Option eV} {rv : Option Value} {as : List eV} {vs : List Value} {h2 : List eC} {pc2 cl2 sl2 : Nat} (k : eK p l e R s m args below meth c Q D A al0 oe (m_L M) pc2 ls (r.toList ++ as) h2 cl2 sl2) (ha : al0 <+: adr ws) (hl : lv_has lsC (m_L M) lv) (hL : gL (adr ws) oe ls lv) (g2 : gS (adr ws) oe as vs) (hS1 : va_S A s.heap H1 locs1) (hal : adr ws <+: adr ws1) (hK1 : va_K D classes tys1 s) (hP1 : va_P D classes ws1 H1) (hD1 : va_D A ws1) (hW1 : gW tys1 oe h2 ws1) (hres : eRes (adr ws1) oe r rv) : W p l e R s m args below meth c H1 locs1 cl2 sl2 Q (F0 m pc2 lsC (rv.toList ++ vs)) := by
  refine k H1 locs1 lsC _ ⟨ws1, tys1, hK1, hP1, hD1, hS1, List.IsPrefix.trans ha hal, hW1, ⟨lv, hl, gL_mono hal hL⟩, ?_⟩
  cases r with
  | none =>
    have hz : rv = none := hres
    subst hz
    exact gS_mono hal g2
  | some a =>
    obtain ⟨v, hv, gv⟩ : ∃ v : Value, rv = some v ∧ gV (adr ws1) oe a v := hres
    subst hv
    exact ⟨gv, gS_mono hal g2⟩
set_option maxHeartbeats 1000000 in
theorem q_inv0 (X : eCx p l R s m args meth c D A oe M call d sc) {N : eM} {kd mi idx : Nat} {r : Option eV} {h2 : List eC} (hf : fnd (mTab.getD (m_o M) []) idx = some (kd, mi)) (hkd : kd = 0 ∨ kd = 3) (hN : eMT[mi]? = some N) (hd : decode (m_b M) pc = .ok (.invokestatic idx, 3)) (hn : m_n N ≤ st.length) (hcat : catS (st.drop (m_n N)) ≤ 8) (hc : cl + m_c N ≤ m_c M) (hs : sl + m_s N ≤ m_s M) (hcall : call mi (st.take (m_n N)).reverse h = some (r, h2)) (k : eK p l e R s m args below meth c Q D A al0 oe (m_L M) (pc + 3) ls (r.toList ++ st.drop (m_n N)) h2 (cl + m_c N) (sl + m_s N)) : eK p l e R s m args below meth c Q D A al0 oe (m_L M) pc ls st h cl sl := by
  intro H locs lsC stC g
  obtain ⟨ws, tys, hK, hP, hD, hS, ha, hW, ⟨lv, hl, hL⟩, hst⟩ := g
  have X0 := X
  obtain ⟨hx, hb, hml, hown, hts, hA, hE, hoc, hin, hRc, hRs, hfr, hlo, hsc, hcok⟩ := X
  have hmo := eMT_ok N (List.mem_of_getElem? hN)
  have hmu := mOK_use hmo
  have hmt := List.all_eq_true.mp (mTab_ok _ _ hoc) _ (fnd_mem hf)
  obtain ⟨g1, g2⟩ := gS_take (m_n N) hst
  have hgr := gS_rev g1
  have hM := hcok mi N _ h r h2 hN hcall (adr ws) ((stC.take (m_n N)).reverse)
  have hlen : (stC.take (m_n N)).reverse.length = m_n N := by rw [List.length_reverse, List.length_take, ← gS_len hst]; omega
  have hroom : cl + m_c N ≤ R.cells ∧ sl + m_s N ≤ R.slots := ⟨by rw [hRc]; exact hc, by rw [hRs]; exact hs⟩
  have hcs : ((stC.drop (m_n N)).map fun v => v.category).sum ≤ 8 := by rw [gS_cat g2]; exact hcat
  refine e_call (a := ((stC.take (m_n N)).reverse).toArray) (al := adr ws) (r := r) (h2 := h2) (rest := stC.drop (m_n N)) ?_ hS (fun H1 locs1 rv ws1 tys1 hS1 hal hK1 hP1 hD1 hW1 hres => e_cont k ha hl hL g2 hS1 hal hK1 hP1 hD1 hW1 hres)
  have hstk : stC = ((stC.take (m_n N)).reverse).reverse ++ stC.drop (m_n N) := by rw [List.reverse_reverse, List.take_append_drop]
  rcases hkd with rfl | rfl
  · unfold mOKl at hmt
    dsimp only at hmt
    rw [hN] at hmt
    simp only [Bool.and_eq_true, decide_eq_true_eq] at hmt
    exact va_runS (Ts := gtbl) ⟨hx, hb, hml, hown, hts⟩ hM ⟨callB_of (m_n N) hts (mWs_good hmo) rfl rfl rfl (hts _ (gtbl_in hmt.1 rfl)) (hts _ (gtbl_in hmt.2.1 rfl)) ⟨hmu.2.2.1, hmu.2.2.2.1, hmu.2.2.2.2.1⟩ ⟨hfr, by have := hmu.2.2.2.2.2.1; show 8 + (m_L N + 11) + 59 * d ≤ R.locals; omega⟩, hts _ (gtbl_in hmt.2.2 rfl)⟩ ⟨ePc_blind, e_pre X0 hK hP hD hS hW hgr⟩ rfl hlen hl.1 hstk (lv_room hcs) hd hroom
  · unfold mOKl at hmt
    dsimp only at hmt
    rw [hN] at hmt
    simp only [Bool.and_eq_true, decide_eq_true_eq] at hmt
    exact va_runSN (Ts := gtbl) ⟨hx, hb, hml, hown, hts⟩ hM ⟨va_cnB (host := "TwoMouths") (m_n N) hts (mWs_good hmo) rfl rfl rfl (hE.1 _ hmt.2.1 rfl) (hts _ (gtbl_in hmt.1 rfl)) ⟨hmu.2.2.1, hmu.2.2.2.1, hmu.2.2.2.2.1⟩ ⟨hfr, by have := hmu.2.2.2.2.2.1; show 8 + (m_L N + 11) + 59 * d ≤ R.locals; omega⟩, hts _ (gtbl_in hmt.2.2 rfl), trivial⟩ ⟨ePc_blind, e_pre X0 hK hP hD hS hW hgr⟩ rfl hlen hl.1 hstk (lv_room hcs) hd hroom
set_option maxHeartbeats 1000000 in
theorem q_inv1 (X : eCx p l R s m args meth c D A oe M call d sc) {N : eM} {kd mi idx : Nat} {r : Option eV} {h2 : List eC} (hf : fnd (mTab.getD (m_o M) []) idx = some (kd, mi)) (hkd : kd = 1 ∨ kd = 4) (hN : eMT[mi]? = some N) (hd : decode (m_b M) pc = .ok (.invokespecial idx, 3)) (hn : 1 + m_n N ≤ st.length) (hcat : catS (st.drop (1 + m_n N)) ≤ 8) (hc : cl + m_c N ≤ m_c M) (hs : sl + m_s N ≤ m_s M) (hrec : isK (st.take (1 + m_n N)).reverse = true) (hcall : call mi (st.take (1 + m_n N)).reverse h = some (r, h2)) (k : eK p l e R s m args below meth c Q D A al0 oe (m_L M) (pc + 3) ls (r.toList ++ st.drop (1 + m_n N)) h2 (cl + m_c N) (sl + m_s N)) : eK p l e R s m args below meth c Q D A al0 oe (m_L M) pc ls st h cl sl := by
  intro H locs lsC stC g
  obtain ⟨ws, tys, hK, hP, hD, hS, ha, hW, ⟨lv, hl, hL⟩, hst⟩ := g
  have X0 := X
  obtain ⟨hx, hb, hml, hown, hts, hA, hE, hoc, hin, hRc, hRs, hfr, hlo, hsc, hcok⟩ := X
  have hmo := eMT_ok N (List.mem_of_getElem? hN)
  have hmu := mOK_use hmo
  have hmt := List.all_eq_true.mp (mTab_ok _ _ hoc) _ (fnd_mem hf)
  obtain ⟨g1, g2⟩ := gS_take (1 + m_n N) hst
  have hgr := gS_rev g1
  have hM := hcok mi N _ h r h2 hN hcall (adr ws) ((stC.take (1 + m_n N)).reverse)
  have hlen : (stC.take (1 + m_n N)).reverse.length = 1 + m_n N := by rw [List.length_reverse, List.length_take, ← gS_len hst]; omega
  have hroom : cl + m_c N ≤ R.cells ∧ sl + m_s N ≤ R.slots := ⟨by rw [hRc]; exact hc, by rw [hRs]; exact hs⟩
  have hcs : ((stC.drop (1 + m_n N)).map fun v => v.category).sum ≤ 8 := by rw [gS_cat g2]; exact hcat
  have htk : stC.take (1 + m_n N) = ((stC.take (1 + m_n N)).reverse).reverse := (List.reverse_reverse _).symm
  have hsp : stC = stC.take (1 + m_n N) ++ stC.drop (1 + m_n N) := (List.take_append_drop _ _).symm
  generalize (stC.take (1 + m_n N)).reverse = vs at hM hlen hgr htk
  generalize (st.take (1 + m_n N)).reverse = as at hM hcall hgr hrec
  match as, vs, hgr, hrec with
  | .inl (some k0) :: as, _ :: vs, ⟨⟨b, hb0, rfl⟩, hgs⟩, _ =>
    have hstk : stC = vs.reverse ++ .ref b :: stC.drop (1 + m_n N) := by rw [List.reverse_cons] at htk; rw [htk] at hsp; rw [List.append_assoc] at hsp; exact hsp
    have hlen2 : vs.length = m_n N := by rw [List.length_cons] at hlen; omega
    refine e_call (a := (Value.ref b :: vs).toArray) (al := adr ws) (r := r) (h2 := h2) (rest := stC.drop (1 + m_n N)) ?_ hS (fun H1 locs1 rv ws1 tys1 hS1 hal hK1 hP1 hD1 hW1 hres => e_cont k ha hl hL g2 hS1 hal hK1 hP1 hD1 hW1 hres)
    rcases hkd with rfl | rfl
    · unfold mOKl at hmt
      dsimp only at hmt
      rw [hN] at hmt
      simp only [Bool.and_eq_true, decide_eq_true_eq] at hmt
      have hvoid := init_void N (List.mem_of_getElem? hN) hmt.2.2
      have hws : mWs N = Cond.code (m_y N) (m_b N) (m_L N) none :: gtbl := by unfold mWs; rw [hvoid]
      exact va_runI (Ts := gtbl) ⟨hx, hb, hml, hown, hts⟩ hM ⟨callB_of (m_n N) hts (mWs_good hmo) hws rfl rfl (hts _ (gtbl_in hmt.1 rfl)) (hts _ (gtbl_in hmt.2.1.1 rfl)) ⟨hmu.2.2.1, hmu.2.2.2.1, hmu.2.2.2.2.1⟩ ⟨hfr, by have := hmu.2.2.2.2.2.1; show 8 + (m_L N + 11) + 59 * d ≤ R.locals; omega⟩, hmt.2.2, hts _ (gtbl_in hmt.2.1.2 rfl)⟩ ⟨ePc_blind, e_pre X0 hK hP hD hS hW (as := .inl (some k0) :: as) (vs := .ref b :: vs) ⟨⟨b, hb0, rfl⟩, hgs⟩⟩ rfl hlen2 hl.1 hstk (lv_room hcs) hd hroom
    · unfold mOKl at hmt
      dsimp only at hmt
      rw [hN] at hmt
      simp only [Bool.and_eq_true, decide_eq_true_eq] at hmt
      have hvoid := init_void N (List.mem_of_getElem? hN) hmt.2.2
      have hws : mWs N = Cond.code (m_y N) (m_b N) (m_L N) none :: gtbl := by unfold mWs; rw [hvoid]
      exact va_runIN (Ts := gtbl) ⟨hx, hb, hml, hown, hts⟩ hM ⟨va_cnB (host := "TwoMouths") (m_n N) hts (mWs_good hmo) hws rfl rfl (hE.1 _ hmt.2.1.1 rfl) (hts _ (gtbl_in hmt.1 rfl)) ⟨hmu.2.2.1, hmu.2.2.2.1, hmu.2.2.2.2.1⟩ ⟨hfr, by have := hmu.2.2.2.2.2.1; show 8 + (m_L N + 11) + 59 * d ≤ R.locals; omega⟩, hmt.2.2, hts _ (gtbl_in hmt.2.1.2 rfl)⟩ ⟨ePc_blind, e_pre X0 hK hP hD hS hW (as := .inl (some k0) :: as) (vs := .ref b :: vs) ⟨⟨b, hb0, rfl⟩, hgs⟩⟩ rfl hlen2 hl.1 hstk (lv_room hcs) hd hroom
  | .inl none :: _, _, _, hrec => cases hrec
  | .inr _ :: _, _, _, hrec => cases hrec
  | [], _, _, hrec => cases hrec
set_option maxHeartbeats 1000000 in
theorem q_inv2 (X : eCx p l R s m args meth c D A oe M call d sc) {N : eM} {kd mi idx : Nat} {r : Option eV} {h2 : List eC} (hf : fnd (mTab.getD (m_o M) []) idx = some (kd, mi)) (hkd : kd = 2 ∨ kd = 5) (hN : eMT[mi]? = some N) (hd : decode (m_b M) pc = .ok (.invokevirtual idx, 3)) (hn : 1 + m_n N ≤ st.length) (hcat : catS (st.drop (1 + m_n N)) ≤ 8) (hc : cl + m_c N ≤ m_c M) (hs : sl + m_s N ≤ m_s M) (hrec : recOK h (m_o N) (st.take (1 + m_n N)).reverse = true) (hcall : call mi (st.take (1 + m_n N)).reverse h = some (r, h2)) (k : eK p l e R s m args below meth c Q D A al0 oe (m_L M) (pc + 3) ls (r.toList ++ st.drop (1 + m_n N)) h2 (cl + m_c N) (sl + m_s N)) : eK p l e R s m args below meth c Q D A al0 oe (m_L M) pc ls st h cl sl := by
  intro H locs lsC stC g
  obtain ⟨ws, tys, hK, hP, hD, hS, ha, hW, ⟨lv, hl, hL⟩, hst⟩ := g
  have X0 := X
  obtain ⟨hx, hb, hml, hown, hts, hA, hE, hoc, hin, hRc, hRs, hfr, hlo, hsc, hcok⟩ := X
  have hmo := eMT_ok N (List.mem_of_getElem? hN)
  have hmu := mOK_use hmo
  have hmt := List.all_eq_true.mp (mTab_ok _ _ hoc) _ (fnd_mem hf)
  obtain ⟨g1, g2⟩ := gS_take (1 + m_n N) hst
  have hgr := gS_rev g1
  have hM := hcok mi N _ h r h2 hN hcall (adr ws) ((stC.take (1 + m_n N)).reverse)
  have hlen : (stC.take (1 + m_n N)).reverse.length = 1 + m_n N := by rw [List.length_reverse, List.length_take, ← gS_len hst]; omega
  have hroom : cl + m_c N ≤ R.cells ∧ sl + m_s N ≤ R.slots := ⟨by rw [hRc]; exact hc, by rw [hRs]; exact hs⟩
  have hcs : ((stC.drop (1 + m_n N)).map fun v => v.category).sum ≤ 8 := by rw [gS_cat g2]; exact hcat
  have htk : stC.take (1 + m_n N) = ((stC.take (1 + m_n N)).reverse).reverse := (List.reverse_reverse _).symm
  have hsp : stC = stC.take (1 + m_n N) ++ stC.drop (1 + m_n N) := (List.take_append_drop _ _).symm
  generalize (stC.take (1 + m_n N)).reverse = vs at hM hlen hgr htk
  generalize (st.take (1 + m_n N)).reverse = as at hM hcall hgr hrec
  have hrv : ∃ (b : Nat) (vs2 : List Value), vs = .ref b :: vs2 ∧ ∃ cellB : Cell, H[b]? = some cellB ∧ cellB.vm.isStatics = false ∧ s.vm.findClass (m_y N).cls = some cellB.cls := by
    match as, vs, hgr, hrec with
    | .inl (some k0) :: as, _ :: vs, ⟨⟨b, hb0, rfl⟩, hgs⟩, hrec =>
      refine ⟨b, vs, rfl, ?_⟩
      unfold recOK at hrec
      dsimp only at hrec
      split at hrec
      · rename_i ci fs hk0
        obtain ⟨z1, z2⟩ := and_inv hrec
        have e1 := nbeq_t z1
        obtain ⟨q, hq⟩ := clEx ci (Nat.le_of_ble_eq_true z2)
        obtain ⟨e2, hw, fv, rfl, -⟩ := gW_at hW hk0 hb0
        have hnm := clNm ci q hq
        rw [e1, hmu.2.2.2.2.2.2.1] at hnm
        rw [Option.some.inj hnm]
        exact va_recv hK hP hq hw
      · cases hrec
    | .inr (.inr (.inr n)) :: as, _ :: vs, ⟨rfl, hgs⟩, hrec =>
      refine ⟨oe n, vs, rfl, ?_⟩
      unfold recOK at hrec
      dsimp only at hrec
      obtain ⟨z1, z2⟩ := and_inv hrec
      obtain ⟨z2, z3⟩ := and_inv z2
      have e1 := nbeq_t z1
      have hnm := hmu.2.2.2.2.2.2.1
      rw [nbeq_t z3] at hnm
      have e3 : (m_y N).cls = "java/lang/String" := (Option.some.inj hnm).symm
      rw [e3]
      have hrr := vk_recv hE.2.2.1 (i := n / 2) (Nat.le_of_ble_eq_true z2) hS
      rw [← e1] at hrr
      exact hrr
    | .inl none :: _, _, _, hrec => cases hrec
    | .inr (.inl _) :: _, _, _, hrec => cases hrec
    | .inr (.inr (.inl _)) :: _, _, _, hrec => cases hrec
    | [], _, _, hrec => cases hrec
  obtain ⟨b, vs2, hve, hcell⟩ := hrv
  subst hve
  have hstk : stC = vs2.reverse ++ .ref b :: stC.drop (1 + m_n N) := by rw [List.reverse_cons] at htk; rw [htk] at hsp; rw [List.append_assoc] at hsp; exact hsp
  have hlen2 : vs2.length = m_n N := by rw [List.length_cons] at hlen; omega
  refine e_call (a := (Value.ref b :: vs2).toArray) (al := adr ws) (r := r) (h2 := h2) (rest := stC.drop (1 + m_n N)) ?_ hS (fun H1 locs1 rv ws1 tys1 hS1 hal hK1 hP1 hD1 hW1 hres => e_cont k ha hl hL g2 hS1 hal hK1 hP1 hD1 hW1 hres)
  rcases hkd with rfl | rfl
  · unfold mOKl at hmt
    dsimp only at hmt
    rw [hN] at hmt
    simp only [Bool.and_eq_true, decide_eq_true_eq] at hmt
    exact va_runV (Ts := gtbl) (C := (m_y N).cls) ⟨hx, hb, hml, hown, hts⟩ hM ⟨callB_of (m_n N) hts (mWs_good hmo) rfl rfl rfl (hts _ (gtbl_in hmt.1 rfl)) (hts _ (gtbl_in hmt.2.1.1 rfl)) ⟨hmu.2.2.1, hmu.2.2.2.1, hmu.2.2.2.2.1⟩ ⟨hfr, by have := hmu.2.2.2.2.2.1; show 8 + (m_L N + 11) + 59 * d ≤ R.locals; omega⟩, hts _ (gtbl_in hmt.2.1.2 rfl), hts _ (gtbl_in hmt.2.2 rfl)⟩ ⟨ePc_blind, hcell, e_pre X0 hK hP hD hS hW hgr⟩ rfl hlen2 hl.1 hstk (lv_room hcs) hd hroom
  · unfold mOKl at hmt
    dsimp only at hmt
    rw [hN] at hmt
    simp only [Bool.and_eq_true, decide_eq_true_eq] at hmt
    exact va_runVN (Ts := gtbl) (C := (m_y N).cls) ⟨hx, hb, hml, hown, hts⟩ hM ⟨va_cnB (host := "TwoMouths") (m_n N) hts (mWs_good hmo) rfl rfl rfl (hE.1 _ hmt.2.1.1 rfl) (hts _ (gtbl_in hmt.1 rfl)) ⟨hmu.2.2.1, hmu.2.2.2.1, hmu.2.2.2.2.1⟩ ⟨hfr, by have := hmu.2.2.2.2.2.1; show 8 + (m_L N + 11) + 59 * d ≤ R.locals; omega⟩, hts _ (gtbl_in hmt.2.1.2 rfl), hts _ (gtbl_in hmt.2.2 rfl)⟩ ⟨ePc_blind, hcell, e_pre X0 hK hP hD hS hW hgr⟩ rfl hlen2 hl.1 hstk (lv_room hcs) hd hroom
end
