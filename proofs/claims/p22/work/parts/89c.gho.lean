/-! GHOSTS, 3: settles, opens, isInside -/
theorem HG_mo {h : List cC} {vs : List cV} (hG : HG TT [] h) (hm : h[170]? = some (.inl (12, vs))) {j : Nat} {b : eP} (hj : mT j = some (.inl b)) {x : Int32} (hx : bt2 b x.toInt) : HG TT [] (h.set 170 (.inl (12, vs.set j (cI x)))) := by
  obtain ⟨ts, ht⟩ := mod_t
  unfold mT at hj
  rw [ht] at hj
  exact HG_put hG ht hj hm ⟨x, rfl, hx⟩
theorem IR_ne {k : Nat} (hk : k ∈ IR9) : k ≠ 170 ∧ k ≠ 180 ∧ k ≠ 173 := by
  unfold IR9 at hk
  simp only [List.mem_cons, List.not_mem_nil, or_false] at hk
  omega
theorem J9_mo {h : List cC} {c : cC} (hJ : J9 h) : J9 (h.set 170 c) := J9_ok h _ (fun k hk => List.getElem?_set_ne (Ne.symm (IR_ne hk).1)) hJ
theorem J9_op {h : List cC} {c : cC} (hJ : J9 h) : J9 (h.set 180 c) := J9_ok h _ (fun k hk => List.getElem?_set_ne (Ne.symm (IR_ne hk).2.1)) hJ
theorem Fr_mo {W : aW} {h0 h : List cC} {vs : List cV} (hf : Fr PT9 W h0 h) (hm : h[170]? = some (.inl (12, vs))) {j : Nat} {v : cV} (hw : inW W 170 j = true) : Fr PT9 W h0 (h.set 170 (.inl (12, vs.set j v))) := hf.set hm ⟨_, rfl, fun i hi => List.getElem?_set_ne (fun e => by subst e; exact inW_ne hw hi)⟩
def str (x : Int32) : Int32 := if x = 13 then 1 else if x = 12 then 2 else if x = 11 then 3 else 0
theorem sg_trm {h : List cC} {x : Int32} (hx : x = 11 ∨ x = 12 ∨ x = 13 ∨ x = 91) : Trm 1 239 [cI x] h (some (cI (str x))) h := by
  rcases hx with rfl | rfl | rfl | rfl
  · exact Trm_succ.mpr ⟨eM239, (31, [(0, cI 11)], [cI 3], h), rfl, Nat.le_of_ble_eq_true rfl, ⟨11, rfl⟩, rfl⟩
  · exact Trm_succ.mpr ⟨eM239, (31, [(0, cI 12)], [cI 2], h), rfl, Nat.le_of_ble_eq_true rfl, ⟨8, rfl⟩, rfl⟩
  · exact Trm_succ.mpr ⟨eM239, (31, [(0, cI 13)], [cI 1], h), rfl, Nat.le_of_ble_eq_true rfl, ⟨5, rfl⟩, rfl⟩
  · exact Trm_succ.mpr ⟨eM239, (31, [(0, cI 91)], [cI 0], h), rfl, Nat.le_of_ble_eq_true rfl, ⟨10, rfl⟩, rfl⟩
theorem gh_st {d mi idx : Nat} {M N : eM} {pc : Nat} {ls : List (Nat × cV)} {st : List cV} {h h2 : List cC} {r : Option cV} (hf : fnd (m_il M) pc = some (.invokestatic idx, 3)) (ht : fnd (mTab.getD (m_o M) []) idx = some (0, mi)) (hN : eMT[mi]? = some N) (hl : Nat.ble (0 + m_n N) st.length = true) (hc : Nat.ble (catC (st.drop (0 + m_n N))) 8 = true) (hT : Trm d mi (st.take (0 + m_n N)).reverse h r h2) : cOne (calF (Trm d)) M none (pc, ls, st, h) = some (pc + 3, ls, r.toList ++ st.drop (0 + m_n N), h2) := o_step hf (by
  show kInv (calF (Trm d)) M 0 idx 3 pc ls st h = _
  unfold kInv
  rw [ht]
  dsimp only
  rw [hN]
  dsimp only
  have e1 : rc 0 = 0 := rfl
  have hcond : (Nat.beq 3 3 && ((Nat.beq 0 0 || Nat.beq 0 (0 + 3)) && (Nat.ble (rc 0 + m_n N) st.length && (Nat.ble (catC (st.drop (rc 0 + m_n N))) 8 && recCk 0 h (m_o N) (st.take (rc 0 + m_n N)).reverse)))) = true := by
    rw [e1, hl, hc]
    rfl
  show (match (Nat.beq 3 3 && ((Nat.beq 0 0 || Nat.beq 0 (0 + 3)) && (Nat.ble (rc 0 + m_n N) st.length && (Nat.ble (catC (st.drop (rc 0 + m_n N))) 8 && recCk 0 h (m_o N) (st.take (rc 0 + m_n N)).reverse)))) with
    | true => (match calF (Trm d) mi (st.take (rc 0 + m_n N)).reverse h with
      | some (r, h2) => some (pc + 3, ls, r.toList ++ st.drop (rc 0 + m_n N), h2)
      | none => none)
    | false => none) = _
  rw [hcond]
  dsimp only
  rw [e1, cal_eq hT])
section
variable {call : cCl} {M : eM} {k : ClassFile.Cond} {off : Int} {pc t : Nat} {ls : List (Nat × cV)} {st : List cV} {h : List cC} {x y : Int32}
theorem o_if_t (hf : fnd (m_il M) pc = some (.ifCond k off, 3)) (ht : tgtOf pc off = some t) (hd : cDec k x 0 = true) : cOne call M none (pc, ls, cI x :: st, h) = some (t, ls, st, h) := o_step hf (by
  show kIf k off 3 pc ls (cI x :: st) h = _
  unfold kIf
  dsimp only
  rw [ht, hd]
  rfl)
theorem o_if_f (hf : fnd (m_il M) pc = some (.ifCond k off, 3)) (ht : tgtOf pc off = some t) (hd : cDec k x 0 = false) : cOne call M none (pc, ls, cI x :: st, h) = some (pc + 3, ls, st, h) := o_step hf (by
  show kIf k off 3 pc ls (cI x :: st) h = _
  unfold kIf
  dsimp only
  rw [ht, hd]
  rfl)
theorem o_ic_t (hf : fnd (m_il M) pc = some (.if_icmp k off, 3)) (ht : tgtOf pc off = some t) (hd : cDec k x y = true) : cOne call M none (pc, ls, cI y :: cI x :: st, h) = some (t, ls, st, h) := o_step hf (by
  show kIc k off 3 pc ls (cI y :: cI x :: st) h = _
  unfold kIc
  dsimp only
  rw [ht, hd]
  rfl)
theorem o_ic_f (hf : fnd (m_il M) pc = some (.if_icmp k off, 3)) (ht : tgtOf pc off = some t) (hd : cDec k x y = false) : cOne call M none (pc, ls, cI y :: cI x :: st, h) = some (pc + 3, ls, st, h) := o_step hf (by
  show kIc k off 3 pc ls (cI y :: cI x :: st) h = _
  unfold kIc
  dsimp only
  rw [ht, hd]
  rfl)
end
theorem one_i : (Int32.ofInt 1).toInt = 1 := rfl
theorem oB_succ (o : Nat → Int32) (n : Nat) : oB o (n + 1) = oB o n + (if o n = 12 ∨ o n = 13 then 1 else 0) := rfl
/-- the last open one goes -/
theorem KZ_bin {t b op md dp L : Nat} {o : Nat → Int32} {e : Nat} {κ : Int} {s : Nat} {h : List cC} (hk : KZ t b (op + 1) md dp L o e κ s h) (hb : o op = 12 ∨ o op = 13) : KZ t b op md dp L o (e + 1) (κ - 1) s h := by
  obtain ⟨k5, f, g, gc, cc, k6, k7, k8, k9, k10, p1, p2, p3, p4, p5, p6, p7, p8, p9⟩ := hk
  have e1 : oB o (op + 1) = oB o op + 1 := by
    rw [oB_succ, if_pos hb]
  rw [e1] at p5 p6 p7
  exact ⟨k5, f, g, gc, cc, k6, k7, k8, k9, k10, p1, p2, p3, fun k hk => p4 k (by omega), by omega, by rw [p6]; congr 1; omega, by omega, by omega, p9⟩
theorem KZ_one {t b op md dp L : Nat} {o : Nat → Int32} {e : Nat} {κ : Int} {s : Nat} {h : List cC} (hk : KZ t b (op + 1) md dp L o e κ s h) (hb : ¬ (o op = 12 ∨ o op = 13)) : 1 ≤ dp ∧ KZ t b op md (dp - 1) L o e (κ - 1) s h := by
  obtain ⟨k5, f, g, gc, cc, k6, k7, k8, k9, k10, p1, p2, p3, p4, p5, p6, p7, p8, p9⟩ := hk
  have e1 : oB o (op + 1) = oB o op := by
    rw [oB_succ, if_neg hb]
    rfl
  have hle : oB o op ≤ op := by
    clear p4 p5 p6 p7 p8 e1 hb
    induction op with
    | zero => exact Nat.le_refl _
    | succ n ih =>
      rw [oB_succ]
      split <;> omega
  rw [e1] at p5 p6 p7
  exact ⟨by omega, k5, f, g, gc, cc, k6, k7, k8, k9, k10, p1, p2, by omega, fun k hk => p4 k (by omega), by omega, p6, by omega, by omega, p9⟩
theorem sOp_bin {x : Int32} {d : Nat} (h0 : (x &&& 15).toInt ≠ 0) (h1 : (x &&& 15).toInt ≠ 1) (h2 : (x &&& 15).toInt ≠ 11) (hd : 2 ≤ d) : sOp x d = some (d - 1) := by
  unfold sOp
  rw [if_neg h0, if_neg h1, if_neg h2, if_pos hd]
theorem sOp_not {x : Int32} {d : Nat} (h2 : (x &&& 15).toInt = 11) (hd : 1 ≤ d) : sOp x d = some d := by
  unfold sOp
  rw [if_neg (by omega), if_neg (by omega), if_pos h2, if_pos hd]
/-- settles: the loop -/
abbrev seL (l : Int32) : List (Nat × cV) := [(0, cR 170), (1, cI l)]
theorem se_loop {t b : Nat} (ht : t < 6) {l : Int32} (hl : 1 ≤ l.toInt) {md : Nat} {o : Nat → Int32} {κ : Int} (hκ : κ ≤ 80) {s : Nat} : ∀ (op dp L : Nat) (h : List cC), HG TT [] h → J9 h → KX t b op md dp L o 1 κ s h → ∃ (h2 : List cC) (op2 dp2 L2 : Nat), Go (calF (Trm 1)) eM235 none (0, seL l, [], h) (76, seL l, [], h2) ∧ HG TT [] h2 ∧ Fr PT9 kTw h h2 ∧ J9 h2 ∧ KX t b op2 md dp2 L2 o 1 κ s h2 ∧ op2 ≤ op ∧ (∀ k : Nat, op2 ≤ k → k < op → o k ≠ 91) ∧ (op2 = 0 ∨ (str (o (op2 - 1))).toInt < l.toInt)
  | 0, dp, L, h, hG, hJ, hk => by
    obtain ⟨vs, m1, m3, m4, m5, m6, m7⟩ := mo_at hG
    obtain ⟨x, x1, x2⟩ := fv_at m1 hk.2.1
    have hd : cDec .le x 0 = true := decide_eq_true (Int32.le_iff_toInt_le.mpr (by have : (0 : Int32).toInt = 0 := rfl; omega))
    exact ⟨h, 0, dp, L, Go.step (o_aload_n (i := 0) rfl rfl) (Go.step (o_get rfl rfl rfl m1 x1) (Go.step (o_if_t (t := 76) rfl rfl hd) Go.rf)), hG, Fr.rf, hJ, hk, Nat.le_refl _, (fun k h1 h2 => by omega), Or.inl rfl⟩
  | op + 1, dp, L, h, hG, hJ, hk => by
    obtain ⟨vs, m1, m3, m4, m5, m6, m7⟩ := mo_at hG
    obtain ⟨q1, q2, q3, q4, q5⟩ := hk
    obtain ⟨x, x1, x2⟩ := fv_at m1 q2
    obtain ⟨w, w1, w2⟩ := fv_at m1 q4
    have r5 := q5.1
    obtain ⟨_, f, g, gc, cc, _, _, _, _, _, p1, p2, p3, p4, p5, p6, p7, p8, p9⟩ := q5
    have z0 : (0 : Int32).toInt = 0 := rfl
    have hop : op + 1 ≤ 400 := by omega
    have hd : cDec .le x 0 = false := decide_eq_false (fun z => by have := Int32.le_iff_toInt_le.mp z; omega)
    have hx1 : (x - Int32.ofInt 1).toInt = (op : Nat) := by
      rw [i32_sub (by rw [one_i]; omega) (by rw [one_i]; omega), one_i]
      omega
    obtain ⟨i1, i2⟩ := in_B (n := 400) hx1 (by omega)
    have s17 : ∀ st : List cV, cOne (calF (Trm 1)) eM235 none (17, seL l, cI (x - Int32.ofInt 1) :: cR 180 :: st, h) = some (18, seL l, cI (o op) :: st, h) := fun st => by
      have := o_iald (call := calF (Trm 1)) (M := eM235) (sc := none) (pc := 17) (ls := seL l) (st := st) rfl r5 i1
      rw [i2] at this
      exact this
    have hoo := p4 op (by omega)
    have s18 : cOne (calF (Trm 1)) eM235 none (18, seL l, [cI (o op)], h) = some (21, seL l, [cI (str (o op))], h) := gh_st (d := 1) (mi := 239) (N := eM239) (pc := 18) (ls := seL l) (st := [cI (o op)]) (r := some (cI (str (o op)))) rfl rfl rfl rfl rfl (sg_trm hoo)
    have pre : ∀ S : cS, Go (calF (Trm 1)) eM235 none (22, seL l, [cI l, cI (str (o op))], h) S → Go (calF (Trm 1)) eM235 none (0, seL l, [], h) S := fun S hs => Go.step (o_aload_n (i := 0) rfl rfl) (Go.step (o_get rfl rfl rfl m1 x1) (Go.step (o_if_f (t := 76) rfl rfl hd) (Go.step (o_aload_n (i := 0) rfl rfl) (Go.step (o_get rfl rfl rfl m1 m7) (Go.step (o_aload_n (i := 0) rfl rfl) (Go.step (o_get rfl rfl rfl m1 x1) (Go.step (o_step rfl rfl) (Go.step (o_step rfl rfl) (Go.step (s17 _) (Go.step s18 (Go.step (o_iload_n (i := 1) rfl rfl) hs)))))))))))
    by_cases hlt : (str (o op)).toInt < l.toInt
    · have hd2 : cDec .lt (str (o op)) l = true := decide_eq_true (Int32.lt_iff_toInt_lt.mpr hlt)
      exact ⟨h, op + 1, dp, L, pre _ (Go.step (o_ic_t (t := 76) rfl rfl hd2) Go.rf), hG, Fr.rf, hJ, ⟨q1, q2, q3, q4, r5, f, g, gc, cc, by assumption, by assumption, by assumption, by assumption, by assumption, p1, p2, p3, p4, p5, p6, p7, p8, p9⟩, Nat.le_refl _, (fun k h1 h2 => by omega), Or.inr hlt⟩
    · have hd2 : cDec .lt (str (o op)) l = false := decide_eq_false (fun z => hlt (Int32.lt_iff_toInt_lt.mp z))
      have q5 : KZ t b (op + 1) md dp L o 1 κ s h := ⟨r5, f, g, gc, cc, by assumption, by assumption, by assumption, by assumption, by assumption, p1, p2, p3, p4, p5, p6, p7, p8, p9⟩
      have hcl : classes[12]? = some classes[12] := rfl
      have hv22 : 22 < vs.length := (List.getElem?_eq_some_iff.mp x1).1
      have hv19 : 19 < vs.length := (List.getElem?_eq_some_iff.mp w1).1
      -- the heap with one open less
      have gG : HG TT [] (h.set 170 (.inl (12, vs.set 22 (cI (x - Int32.ofInt 1))))) := HG_mo hG m1 (j := 22) (b := (0, 400)) rfl ⟨by show (0 : Int) ≤ _; omega, by show _ ≤ (400 : Int); omega⟩
      have gJ : J9 (h.set 170 (.inl (12, vs.set 22 (cI (x - Int32.ofInt 1))))) := J9_mo hJ
      have gF : Fr PT9 kTw h (h.set 170 (.inl (12, vs.set 22 (cI (x - Int32.ofInt 1))))) := Fr_mo Fr.rf m1 rfl
      have g17 : fv (h.set 170 (.inl (12, vs.set 22 (cI (x - Int32.ofInt 1))))) 17 t := fv_ne m1 (by decide) q1
      have g18 : fv (h.set 170 (.inl (12, vs.set 22 (cI (x - Int32.ofInt 1))))) 18 md := fv_ne m1 (by decide) q3
      have g19 : fv (h.set 170 (.inl (12, vs.set 22 (cI (x - Int32.ofInt 1))))) 19 dp := fv_ne m1 (by decide) q4
      have g22 : fv (h.set 170 (.inl (12, vs.set 22 (cI (x - Int32.ofInt 1))))) 22 (op : Nat) := by
        have := fv_eq m1 hv22 (x - Int32.ofInt 1)
        rw [hx1] at this
        exact this
      have gm : (h.set 170 (.inl (12, vs.set 22 (cI (x - Int32.ofInt 1)))))[170]? = some (.inl (12, vs.set 22 (cI (x - Int32.ofInt 1)))) := List.getElem?_set_self (List.getElem?_eq_some_iff.mp m1).1
      have gZ : KZ t b (op + 1) md dp L o 1 κ s (h.set 170 (.inl (12, vs.set 22 (cI (x - Int32.ofInt 1))))) := KZ_mo q5
      generalize hh1 : h.set 170 (.inl (12, vs.set 22 (cI (x - Int32.ofInt 1)))) = h1 at gG gJ gF g17 g18 g19 g22 gm gZ
      have gv22 : (vs.set 22 (cI (x - Int32.ofInt 1)))[22]? = some (cI (x - Int32.ofInt 1)) := List.getElem?_set_self hv22
      have gv21 : (vs.set 22 (cI (x - Int32.ofInt 1)))[21]? = some (cR 180) := by
        rw [List.getElem?_set_ne (by decide)]
        exact m7
      have s44 : ∀ st : List cV, cOne (calF (Trm 1)) eM235 none (44, seL l, cI (x - Int32.ofInt 1) :: cR 180 :: st, h1) = some (45, seL l, cI (o op) :: st, h1) := fun st => by
        have := o_iald (call := calF (Trm 1)) (M := eM235) (sc := none) (pc := 44) (ls := seL l) (st := st) rfl gZ.1 i1
        rw [i2] at this
        exact this
      have pre2 : ∀ S : cS, Go (calF (Trm 1)) eM235 none (46, seL l, [cI (Int32.ofInt 0), cI (o op), cR 170], h1) S → Go (calF (Trm 1)) eM235 none (0, seL l, [], h) S := fun S hs => pre _ (Go.step (o_ic_f (t := 76) rfl rfl hd2) (Go.step (o_aload_n (i := 0) rfl rfl) (Go.step (o_step rfl rfl) (Go.step (o_get rfl rfl rfl m1 x1) (Go.step (o_step rfl rfl) (Go.step (o_step rfl rfl) (Go.step (o_put rfl rfl rfl m1 x1 hcl rfl rfl) (by
        rw [hh1]
        exact Go.step (o_aload_n (i := 0) rfl rfl) (Go.step (o_aload_n (i := 0) rfl rfl) (Go.step (o_get rfl rfl rfl gm gv21) (Go.step (o_aload_n (i := 0) rfl rfl) (Go.step (o_get rfl rfl rfl gm gv22) (Go.step (s44 _) (Go.step (o_step rfl rfl) hs))))))))))))))
      -- behind puts
      have post : ∀ (h2 : List cC) (dp1 L1 : Nat), HG TT [] h2 → J9 h2 → fv h2 22 (op : Nat) → h2[180]? = some (.inr (.inl (0, 400, o))) → Go (calF (Trm 1)) eM235 none (49, seL l, [], h2) (60, seL l, [cI (Int8.ofInt 11).toInt32, cI (o op)], h2) := fun h2 _ _ yG yJ y22 yo => by
        obtain ⟨us, n1, n3, n4, n5, n6, n7⟩ := mo_at yG
        obtain ⟨y, y1, y2⟩ := fv_at n1 y22
        obtain ⟨j1, j2⟩ := in_B (n := 400) y2 (by omega)
        have s57 : ∀ st : List cV, cOne (calF (Trm 1)) eM235 none (57, seL l, cI y :: cR 180 :: st, h2) = some (58, seL l, cI (o op) :: st, h2) := fun st => by
          have := o_iald (call := calF (Trm 1)) (M := eM235) (sc := none) (pc := 57) (ls := seL l) (st := st) rfl yo j1
          rw [j2] at this
          exact this
        exact Go.step (o_aload_n (i := 0) rfl rfl) (Go.step (o_get rfl rfl rfl n1 n7) (Go.step (o_aload_n (i := 0) rfl rfl) (Go.step (o_get rfl rfl rfl n1 y1) (Go.step (s57 _) (Go.step (o_step rfl rfl) Go.rf)))))
      by_cases hb : o op = 12 ∨ o op = 13
      · have gZ2 := KZ_bin gZ hb
        obtain ⟨h2, t1, t2, t3, t4, t5, t6⟩ := pt_ok (e2 := 1) (s2 := s) gG gJ g17 gZ2 ht (by omega) (by omega) (a := o op) (v := Int32.ofInt 0) (fun q hq => by
          rcases hb with e | e
          · rw [e]
            exact sOp_bin (by decide) (by decide) (by decide) (by omega)
          · rw [e]
            exact sOp_bin (by decide) (by decide) (by decide) (by omega))
        have s46 : cOne (calF (Trm 1)) eM235 none (46, seL l, [cI (Int32.ofInt 0), cI (o op), cR 170], h1) = some (49, seL l, [], h2) := gh_inv (d := 1) (mi := 226) (N := eM226) (pc := 46) (ls := seL l) (st := [cI (Int32.ofInt 0), cI (o op), cR 170]) (r := none) rfl rfl rfl rfl rfl (by show recC h1 12 [cR 170, cI (o op), cI (Int32.ofInt 0)] = true; unfold recC; dsimp only; rw [gm]; rfl) t1
        have hd3 : cDec .ne (o op) (Int8.ofInt 11).toInt32 = true := by rcases hb with e | e <;> rw [e] <;> decide
        have hX : KX t b op md dp (L + 1) o 1 κ s h2 := ⟨t6 _ _ g17, t6 _ _ g22, t6 _ _ g18, t6 _ _ g19, by have := t5; rw [show κ - 1 + 1 = κ by omega] at this; exact this⟩
        obtain ⟨h3, op2, dp2, L2, z1, z2, z3, z4, z5, z6, z7, z8⟩ := se_loop ht hl hκ op dp (L + 1) h2 t2 t4 hX
        refine ⟨h3, op2, dp2, L2, pre2 _ (Go.step s46 ((post h2 dp L t2 t4 (t6 _ _ g22) t5.1).trans (Go.step (o_ic_t (t := 0) rfl rfl hd3) z1))), z2, Fr.tr (subW_rf kTw) (Fr.tr (subW_rf kTw) gF t3) z3, z4, z5, by omega, fun k h4 h5 => ?_, z8⟩
        by_cases e : k = op
        · subst e
          rcases hb with e | e <;> rw [e] <;> decide
        · exact z7 k h4 (by omega)
      · obtain ⟨hdp, gZ2⟩ := KZ_one gZ hb
        have h11 : o op = 11 := by
          rcases hoo with e | e | e | e
          · exact e
          · exact absurd (Or.inl e) hb
          · exact absurd (Or.inr e) hb
          · exfalso
            rw [e] at hlt
            have : (str 91).toInt = 0 := rfl
            omega
        obtain ⟨h2, t1, t2, t3, t4, t5, t6⟩ := pt_ok (e2 := 1) (s2 := s) gG gJ g17 gZ2 ht (by omega) (by omega) (a := o op) (v := Int32.ofInt 0) (fun q hq => by
          rw [h11]
          exact sOp_not (by decide) (by omega))
        have s46 : cOne (calF (Trm 1)) eM235 none (46, seL l, [cI (Int32.ofInt 0), cI (o op), cR 170], h1) = some (49, seL l, [], h2) := gh_inv (d := 1) (mi := 226) (N := eM226) (pc := 46) (ls := seL l) (st := [cI (Int32.ofInt 0), cI (o op), cR 170]) (r := none) rfl rfl rfl rfl rfl (by show recC h1 12 [cR 170, cI (o op), cI (Int32.ofInt 0)] = true; unfold recC; dsimp only; rw [gm]; rfl) t1
        have hd3 : cDec .ne (o op) (Int8.ofInt 11).toInt32 = false := by rw [h11]; decide
        obtain ⟨us, n1, n3, n4, n5, n6, n7⟩ := mo_at t2
        obtain ⟨y, y1, y2⟩ := fv_at n1 (t6 _ _ g19)
        have hv19 : 19 < us.length := (List.getElem?_eq_some_iff.mp y1).1
        have hy1 : (y - Int32.ofInt 1).toInt = ((dp - 1 : Nat) : Int) := by
          rw [i32_sub (by rw [one_i]; omega) (by rw [one_i]; omega), one_i]
          omega
        have hX : KX t b op md (dp - 1) (L + 1) o 1 κ s (h2.set 170 (.inl (12, us.set 19 (cI (y - Int32.ofInt 1))))) := ⟨fv_ne n1 (by decide) (t6 _ _ g17), fv_ne n1 (by decide) (t6 _ _ g22), fv_ne n1 (by decide) (t6 _ _ g18), by
          have := fv_eq n1 hv19 (y - Int32.ofInt 1)
          rw [hy1] at this
          exact this, by
          have := KZ_mo (c := .inl (12, us.set 19 (cI (y - Int32.ofInt 1)))) t5
          rw [show κ - 1 + 1 = κ by omega] at this
          exact this⟩
        obtain ⟨h3, op2, dp2, L2, z1, z2, z3, z4, z5, z6, z7, z8⟩ := se_loop ht hl hκ op (dp - 1) (L + 1) _ (HG_mo t2 n1 (j := 19) (b := (-2147483648, 2147483647)) rfl (in_f32 _)) (J9_mo t4) hX
        refine ⟨h3, op2, dp2, L2, pre2 _ (Go.step s46 ((post h2 dp L t2 t4 (t6 _ _ g22) t5.1).trans (Go.step (o_ic_f (t := 0) rfl rfl hd3) (Go.step (o_aload_n (i := 0) rfl rfl) (Go.step (o_step rfl rfl) (Go.step (o_get rfl rfl rfl n1 y1) (Go.step (o_step rfl rfl) (Go.step (o_step rfl rfl) (Go.step (o_put rfl rfl rfl n1 y1 hcl rfl rfl) (Go.step (o_step rfl rfl) z1)))))))))), z2, Fr.tr (subW_rf kTw) (Fr_mo (Fr.tr (subW_rf kTw) gF t3) n1 rfl) z3, z4, z5, by omega, fun k h4 h5 => ?_, z8⟩
        by_cases e : k = op
        · subst e
          rw [h11]
          decide
        · exact z7 k h4 (by omega)
theorem se_trm {t b : Nat} (ht : t < 6) {l : Int32} (hl : 1 ≤ l.toInt) {md op dp L : Nat} {o : Nat → Int32} {κ : Int} (hκ : κ ≤ 80) {s : Nat} {h : List cC} (hG : HG TT [] h) (hJ : J9 h) (hk : KX t b op md dp L o 1 κ s h) : ∃ (h2 : List cC) (op2 dp2 L2 : Nat), Trm 2 235 [cR 170, cI l] h none h2 ∧ HG TT [] h2 ∧ Fr PT9 kTw h h2 ∧ J9 h2 ∧ KX t b op2 md dp2 L2 o 1 κ s h2 ∧ op2 ≤ op ∧ (∀ k : Nat, op2 ≤ k → k < op → o k ≠ 91) ∧ (op2 = 0 ∨ (str (o (op2 - 1))).toInt < l.toInt) := by
  obtain ⟨h2, op2, dp2, L2, z1, z2⟩ := se_loop ht hl hκ op dp L h hG hJ hk
  exact ⟨h2, op2, dp2, L2, Trm_succ.mpr ⟨eM235, (76, seL l, [], h2), rfl, Nat.le_of_ble_eq_true rfl, z1, rfl⟩, z2⟩
