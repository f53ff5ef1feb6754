/-! ENTRY: both calls, 2 (p22) -/
def eQ (a c d w r n : Int32) : Prop := (a = Int32.ofInt (-1) ∧ r = Int32.ofInt 0 ∧ n = Int32.ofInt 0) ∨ (a ≠ Int32.ofInt (-1) ∧ (20 ≤ w.toInt ∨ ¬ eT a c d) ∧ r = (Int8.ofInt (-2)).toInt32 ∧ n = w) ∨ (a ≠ Int32.ofInt (-1) ∧ w.toInt < 20 ∧ eT a c d ∧ r = w + Int32.ofInt 1 ∧ n = w + Int32.ofInt 1)
theorem eQ_det {a c d w r n r' n' : Int32} (h : eQ a c d w r n) (h' : eQ a c d w r' n') : r = r' ∧ n = n' := by
  rcases h with ⟨x1, x2, x3⟩ | ⟨x1, x2, x3, x4⟩ | ⟨x1, x2, x3, x4, x5⟩ <;> rcases h' with ⟨y1, y2, y3⟩ | ⟨y1, y2, y3, y4⟩ | ⟨y1, y2, y3, y4, y5⟩
  · exact ⟨x2.trans y2.symm, x3.trans y3.symm⟩
  · exact absurd x1 y1
  · exact absurd x1 y1
  · exact absurd y1 x1
  · exact ⟨x3.trans y3.symm, x4.trans y4.symm⟩
  · rcases x2 with x2 | x2
    · omega
    · exact absurd y3 x2
  · exact absurd y1 x1
  · rcases y2 with y2 | y2
    · omega
    · exact absurd x3 y2
  · exact ⟨x4.trans y4.symm, x5.trans y5.symm⟩
theorem ob_j {h : List cC} (hG : HG TT [] h) {k ci j kk : Nat} {ts : List fT} (ht : TT[k]? = some (.inl (ci, ts))) (hj : ts[j]? = some (.inr (.inr (.inr (.inl [kk]))))) {vs : List cV} (m1 : h[k]? = some (.inl (ci, vs))) : vs[j]? = some (cR kk) := by
  obtain ⟨us, v, h1, h2, k', h3, h4⟩ := HG_get hG ht hj
  rw [m1] at h1
  cases h1
  rw [h2, h4, List.mem_singleton.mp h3]
theorem ob_at {h : List cC} (hG : HG TT [] h) {k ci : Nat} {ts : List fT} (ht : TT[k]? = some (.inl (ci, ts))) : ∃ vs : List cV, h[k]? = some (.inl (ci, vs)) := by
  obtain ⟨c, h1, vs, h2, _⟩ := hG.2 k _ ht
  exact ⟨vs, by rw [h1, h2]⟩
theorem ob_w {h : List cC} {k j : Nat} {w : Int32} {ci : Nat} {vs : List cV} (hw : fI h k j = some w) (m1 : h[k]? = some (.inl (ci, vs))) : vs[j]? = some (cI w) := by
  obtain ⟨ci', us, a1, a2⟩ := fI_inv hw
  rw [m1] at a1
  cases a1
  exact a2
theorem ro_at {h : List cC} (hG : HG TT [] h) {k kd n : Nat} {d : eP} {gs : List sG} (ht : TT[k]? = some (.inr (.inl (kd, n, d, gs)))) : ∃ f : Nat → Int32, h[k]? = some (.inr (.inl (kd, n, f))) := by
  obtain ⟨c, h1, f, h2, _⟩ := hG.2 k _ ht
  exact ⟨f, by rw [h1, h2]⟩
abbrev e4L (k : Nat) (a c d : Int32) : List (Nat × cV) := [(0, cR k), (1, cI a), (2, cI c), (3, cI d)]
theorem ad_x {h : List cC} (hG : HG TT [] h) {w : Int32} {vs : List cV} (m1 : h[21]? = some (.inl (6, vs))) (m3 : vs[3]? = some (cI w)) (w0 : 0 ≤ w.toInt) (w20 : w.toInt < 20) (a c d : Int32) : ∃ h1 : List cC, Trm 1 57 [cR 21, cI a, cI c, cI d] h none h1 ∧ h1[21]? = some (.inl (6, vs.set 3 (cI (w + Int32.ofInt 1)))) := by
  have m0 := ob_j hG (k := 21) (ci := 6) (j := 0) (kk := 22) rfl rfl m1
  have m01 := ob_j hG (k := 21) (ci := 6) (j := 1) (kk := 23) rfl rfl m1
  have m02 := ob_j hG (k := 21) (ci := 6) (j := 2) (kk := 24) rfl rfl m1
  obtain ⟨f2, r2⟩ := ro_at hG (k := 22) rfl
  obtain ⟨f3, r3⟩ := ro_at hG (k := 23) rfl
  obtain ⟨f4, r4⟩ := ro_at hG (k := 24) rfl
  have e20 : (Int32.ofNat 20).toInt = 20 := rfl
  have hd : cDec .ge w (Int32.ofNat 20) = false := decide_eq_false (fun z => by have := Int32.le_iff_toInt_le.mp z; omega)
  have hwn : w.toInt = (w.toInt.toNat : Nat) := by omega
  obtain ⟨i1, i2⟩ := in_B (n := 20) hwn (by omega)
  have hcl : classes[6]? = some classes[6] := rfl
  have q1 : (h.set 22 (.inr (.inl (0, 20, upd f2 w.toNatClampNeg a))))[21]? = some (.inl (6, vs)) := rw_ne (by decide) m1
  have q2 : ((h.set 22 (.inr (.inl (0, 20, upd f2 w.toNatClampNeg a)))).set 23 (.inr (.inl (0, 20, upd f3 w.toNatClampNeg c))))[21]? = some (.inl (6, vs)) := rw_ne (by decide) q1
  have q3 : (((h.set 22 (.inr (.inl (0, 20, upd f2 w.toNatClampNeg a)))).set 23 (.inr (.inl (0, 20, upd f3 w.toNatClampNeg c)))).set 24 (.inr (.inl (0, 20, upd f4 w.toNatClampNeg d))))[21]? = some (.inl (6, vs)) := rw_ne (by decide) q2
  have r3' : (h.set 22 (.inr (.inl (0, 20, upd f2 w.toNatClampNeg a))))[23]? = some (.inr (.inl (0, 20, f3))) := rw_ne (by decide) r3
  have r4' : ((h.set 22 (.inr (.inl (0, 20, upd f2 w.toNatClampNeg a)))).set 23 (.inr (.inl (0, 20, upd f3 w.toNatClampNeg c))))[24]? = some (.inr (.inl (0, 20, f4))) := rw_ne (by decide) (rw_ne (by decide) r4)
  have l3 : 3 < vs.length := (List.getElem?_eq_some_iff.mp m3).1
  refine ⟨_, Trm_succ.mpr ⟨eM57, (52, e4L 21 a c d, [], ((((h.set 22 (.inr (.inl (0, 20, upd f2 w.toNatClampNeg a)))).set 23 (.inr (.inl (0, 20, upd f3 w.toNatClampNeg c)))).set 24 (.inr (.inl (0, 20, upd f4 w.toNatClampNeg d)))).set 21 (.inl (6, vs.set 3 (cI (w + Int32.ofInt 1)))))), rfl, Nat.le_of_ble_eq_true rfl, Go.step (o_aload_n (i := 0) rfl rfl) (Go.step (o_get rfl rfl rfl m1 m3) (Go.step (o_aload_n (i := 0) rfl rfl) (Go.step (o_get rfl rfl rfl m1 m0) (Go.step (o_len rfl r2) (Go.step (o_ic_f (t := 52) rfl rfl hd) (Go.step (o_aload_n (i := 0) rfl rfl) (Go.step (o_get rfl rfl rfl m1 m0) (Go.step (o_aload_n (i := 0) rfl rfl) (Go.step (o_get rfl rfl rfl m1 m3) (Go.step (o_iload_n (i := 1) rfl rfl) (Go.step (o_iast rfl r2 i1) (Go.step (o_aload_n (i := 0) rfl rfl) (Go.step (o_get rfl rfl rfl q1 m01) (Go.step (o_aload_n (i := 0) rfl rfl) (Go.step (o_get rfl rfl rfl q1 m3) (Go.step (o_iload_n (i := 2) rfl rfl) (Go.step (o_iast rfl r3' i1) (Go.step (o_aload_n (i := 0) rfl rfl) (Go.step (o_get rfl rfl rfl q2 m02) (Go.step (o_aload_n (i := 0) rfl rfl) (Go.step (o_get rfl rfl rfl q2 m3) (Go.step (o_iload_n (i := 3) rfl rfl) (Go.step (o_iast rfl r4' i1) (Go.step (o_aload_n (i := 0) rfl rfl) (Go.step (o_step rfl rfl) (Go.step (o_get rfl rfl rfl q3 m3) (Go.step (o_step rfl rfl) (Go.step (o_step rfl rfl) (Go.step (o_put rfl rfl rfl q3 m3 hcl rfl rfl) Go.rf))))))))))))))))))))))))))))), rfl⟩, rw_eq q3⟩
theorem gh_in5 {d mi idx : Nat} {M N : eM} {pc : Nat} {ls : List (Nat × cV)} {st : List cV} {h h2 : List cC} {r : Option cV} (hf : fnd (m_il M) pc = some (.invokevirtual idx, 3)) (ht : fnd (mTab.getD (m_o M) []) idx = some (5, mi)) (hN : eMT[mi]? = some N) (hl : Nat.ble (1 + m_n N) st.length = true) (hc : Nat.ble (catC (st.drop (1 + m_n N))) 8 = true) (hr : recC h (m_o N) (st.take (1 + m_n N)).reverse = true) (hT : Trm d mi (st.take (1 + m_n N)).reverse h r h2) : cOne (calF (Trm d)) M none (pc, ls, st, h) = some (pc + 3, ls, r.toList ++ st.drop (1 + m_n N), h2) := o_step hf (by
  show kInv (calF (Trm d)) M 2 idx 3 pc ls st h = _
  unfold kInv
  rw [ht]
  dsimp only
  rw [hN]
  dsimp only
  have e1 : rc 2 = 1 := rfl
  have hcond : (Nat.beq 3 3 && ((Nat.beq 5 2 || Nat.beq 5 (2 + 3)) && (Nat.ble (rc 2 + m_n N) st.length && (Nat.ble (catC (st.drop (rc 2 + m_n N))) 8 && recCk 2 h (m_o N) (st.take (rc 2 + m_n N)).reverse)))) = true := by
    rw [e1, hl, hc]
    show (true && (true && (true && (true && recC h (m_o N) (st.take (1 + m_n N)).reverse)))) = true
    rw [hr]
    rfl
  show (match (Nat.beq 3 3 && ((Nat.beq 5 2 || Nat.beq 5 (2 + 3)) && (Nat.ble (rc 2 + m_n N) st.length && (Nat.ble (catC (st.drop (rc 2 + m_n N))) 8 && recCk 2 h (m_o N) (st.take (rc 2 + m_n N)).reverse)))) with
    | true => (match calF (Trm d) mi (st.take (rc 2 + m_n N)).reverse h with
      | some (r, h2) => some (pc + 3, ls, r.toList ++ st.drop (rc 2 + m_n N), h2)
      | none => none)
    | false => none) = _
  rw [hcond]
  dsimp only
  rw [e1, cal_eq hT])
theorem en_x {h : List cC} (hG : HG TT [] h) {w : Int32} (hw : fI h 21 3 = some w) (w0 : 0 ≤ w.toInt) (a c d : Int32) : ∃ (r n : Int32) (h1 : List cC), Trm 3 107 [cR 0, cI a, cI c, cI d] h (some (cI r)) h1 ∧ fI h1 21 3 = some n ∧ eQ a c d w r n := by
  obtain ⟨v0, a0⟩ := ob_at hG (k := 0) rfl
  obtain ⟨v1, a1⟩ := ob_at hG (k := 12) rfl
  obtain ⟨v2, a2⟩ := ob_at hG (k := 21) rfl
  have b0 := ob_j hG (k := 0) (j := 3) (kk := 12) rfl rfl a0
  have b1 := ob_j hG (k := 12) (j := 1) (kk := 21) rfl rfl a1
  have b2 := ob_w hw a2
  have l3 : 3 < v2.length := (List.getElem?_eq_some_iff.mp b2).1
  have hcl : classes[6]? = some classes[6] := rfl
  have e20 : ((Int8.ofInt 20).toInt32).toInt = 20 := rfl
  have p9 : ∀ S : cS, Go (calF (Trm 2)) eM107 none (11, [(4, cR 21), (0, cR 0), (1, cI a), (2, cI c), (3, cI d)], [cI (Int32.ofInt (-1)), cI a], h) S → Go (calF (Trm 2)) eM107 none (0, e4L 0 a c d, [], h) S := fun S hs => Go.step (o_aload_n (i := 0) rfl rfl) (Go.step (o_get rfl rfl rfl a0 b0) (Go.step (o_get rfl rfl rfl a1 b1) (Go.step (o_step rfl rfl) (Go.step (o_iload_n (i := 1) rfl rfl) (Go.step (o_step rfl rfl) hs)))))
  by_cases c0 : a = Int32.ofInt (-1)
  · refine ⟨Int32.ofInt 0, Int32.ofInt 0, h.set 21 (.inl (6, v2.set 3 (cI (Int32.ofInt 0)))), Trm_succ.mpr ⟨eM107, (21, [(4, cR 21), (0, cR 0), (1, cI a), (2, cI c), (3, cI d)], [cI (Int32.ofInt 0)], h.set 21 (.inl (6, v2.set 3 (cI (Int32.ofInt 0))))), rfl, Nat.le_of_ble_eq_true rfl, p9 _ (Go.step (o_ic_f (t := 22) rfl rfl (decide_eq_false (fun z => z c0))) (Go.step (o_step rfl rfl) (Go.step (o_step rfl rfl) (Go.step (o_put rfl rfl rfl a2 b2 hcl rfl rfl) (Go.step (o_step rfl rfl) Go.rf))))), rfl⟩, fI_at (rw_eq a2) (List.getElem?_set_self l3), Or.inl ⟨c0, rfl, rfl⟩⟩
  have p29 : ∀ S : cS, Go (calF (Trm 2)) eM107 none (29, [(4, cR 21), (0, cR 0), (1, cI a), (2, cI c), (3, cI d)], [cI (Int8.ofInt 20).toInt32, cI w], h) S → Go (calF (Trm 2)) eM107 none (0, e4L 0 a c d, [], h) S := fun S hs => p9 _ (Go.step (o_ic_t (t := 22) rfl rfl (decide_eq_true c0)) (Go.step (o_step rfl rfl) (Go.step (o_get rfl rfl rfl a2 b2) (Go.step (o_step rfl rfl) hs))))
  have no : Go (calF (Trm 2)) eM107 none (41, [(4, cR 21), (0, cR 0), (1, cI a), (2, cI c), (3, cI d)], [], h) (43, [(4, cR 21), (0, cR 0), (1, cI a), (2, cI c), (3, cI d)], [cI (Int8.ofInt (-2)).toInt32], h) := Go.step (o_step rfl rfl) Go.rf
  by_cases c1 : 20 ≤ w.toInt
  · exact ⟨(Int8.ofInt (-2)).toInt32, w, h, Trm_succ.mpr ⟨eM107, _, rfl, Nat.le_of_ble_eq_true rfl, (p29 _ (Go.step (o_ic_t (t := 41) rfl rfl (decide_eq_true (Int32.le_iff_toInt_le.mpr (by omega)))) Go.rf)).trans no, rfl⟩, hw, Or.inr (Or.inl ⟨c0, Or.inl c1, rfl, rfl⟩)⟩
  obtain ⟨b, t1, q1⟩ := ec_x (h := h) a c d
  have s35 : cOne (calF (Trm 2)) eM107 none (35, [(4, cR 21), (0, cR 0), (1, cI a), (2, cI c), (3, cI d)], [cI d, cI c, cI a], h) = some (38, [(4, cR 21), (0, cR 0), (1, cI a), (2, cI c), (3, cI d)], [cI b], h) := gh_st (d := 2) (mi := 121) (N := eM121) (pc := 35) (ls := [(4, cR 21), (0, cR 0), (1, cI a), (2, cI c), (3, cI d)]) (st := [cI d, cI c, cI a]) (r := some (cI b)) rfl rfl rfl rfl rfl t1
  have p38 : ∀ S : cS, Go (calF (Trm 2)) eM107 none (38, [(4, cR 21), (0, cR 0), (1, cI a), (2, cI c), (3, cI d)], [cI b], h) S → Go (calF (Trm 2)) eM107 none (0, e4L 0 a c d, [], h) S := fun S hs => p29 _ (Go.step (o_ic_f (t := 41) rfl rfl (decide_eq_false (fun z => c1 (by have := Int32.le_iff_toInt_le.mp z; omega)))) (Go.step (o_iload_n (i := 1) rfl rfl) (Go.step (o_iload_n (i := 2) rfl rfl) (Go.step (o_iload_n (i := 3) rfl rfl) (Go.step s35 hs)))))
  by_cases c2 : b = 0
  · exact ⟨(Int8.ofInt (-2)).toInt32, w, h, Trm_succ.mpr ⟨eM107, _, rfl, Nat.le_of_ble_eq_true rfl, (p38 _ (Go.step (o_if_f (t := 44) rfl rfl (decide_eq_false (fun z => z c2))) Go.rf)).trans no, rfl⟩, hw, Or.inr (Or.inl ⟨c0, Or.inr (fun z => (enB_nz q1).mpr z c2), rfl, rfl⟩)⟩
  obtain ⟨h1, t2, g1⟩ := ad_x hG a2 b2 w0 (by omega) a c d
  have s49 : cOne (calF (Trm 2)) eM107 none (49, [(4, cR 21), (0, cR 0), (1, cI a), (2, cI c), (3, cI d)], [cI d, cI c, cI a, cR 21], h) = some (52, [(4, cR 21), (0, cR 0), (1, cI a), (2, cI c), (3, cI d)], [], h1) := gh_in5 (d := 2) (mi := 57) (N := eM57) (pc := 49) (ls := [(4, cR 21), (0, cR 0), (1, cI a), (2, cI c), (3, cI d)]) (st := [cI d, cI c, cI a, cR 21]) (r := none) rfl rfl rfl rfl rfl (by show recC h 6 [cR 21, cI a, cI c, cI d] = true; unfold recC; dsimp only; rw [a2]; rfl) (Trm_le (by decide) t2)
  have g3 : (v2.set 3 (cI (w + Int32.ofInt 1)))[3]? = some (cI (w + Int32.ofInt 1)) := List.getElem?_set_self l3
  exact ⟨w + Int32.ofInt 1, w + Int32.ofInt 1, h1, Trm_succ.mpr ⟨eM107, (57, [(4, cR 21), (0, cR 0), (1, cI a), (2, cI c), (3, cI d)], [cI (w + Int32.ofInt 1)], h1), rfl, Nat.le_of_ble_eq_true rfl, p38 _ (Go.step (o_if_t (t := 44) rfl rfl (decide_eq_true c2)) (Go.step (o_step rfl rfl) (Go.step (o_iload_n (i := 1) rfl rfl) (Go.step (o_iload_n (i := 2) rfl rfl) (Go.step (o_iload_n (i := 3) rfl rfl) (Go.step s49 (Go.step (o_step rfl rfl) (Go.step (o_get rfl rfl rfl g1 g3) Go.rf)))))))), rfl⟩, fI_at g1 g3, Or.inr (Or.inr ⟨c0, by omega, (enB_nz q1).mp c2, rfl, rfl⟩)⟩
