/-! RUNS, 8: a step is the machine's (printed by wip/engine2/gen46.py) -/
section
variable {p : Program} {l : Launch} {e : Env} {R : Room} {s : State} {m : MethodId} {args : Array Value} {below : List Frame} {meth : Method} {c : Code} {cl sl : Nat} {Q : State → Prop} {D : va_G} {A : Nat → Prop} {al : List Nat} {oe : Nat → Nat} {M : eM} {call : cCl} {d : Nat} {sc : Option (Nat × (Nat → Int32))} {pc : Nat} {ls : List (Nat × cV)} {st : List cV} {h : List cC}
theorem sTab_odd {own : String} {oc idx i : Nat} {tx : String} (hoc : oNm[oc]? = some own) (hf : fnd (sTab.getD oc []) idx = some (tx, i)) : Nat.beq (2 * i + 1) 99 = false := odd99 (sTab_lt oc own hoc _ (fnd_mem hf))
theorem iTab_use {own : String} {oc idx : Nat} {n : Int} (hoc : oNm[oc]? = some own) (hf : fnd (iTab.getD oc []) idx = some n) : Cond.constant own idx (Int32.ofInt n) ∈ lw_tbl := by
  have h1 := List.all_eq_true.mp (iTab_ok _ _ hoc) _ (fnd_mem hf)
  unfold iOKb at h1
  simp only [decide_eq_true_eq] at h1
  exact h1
set_option maxHeartbeats 4000000 in
theorem cStep_ok (X : cCx p l R s m args c cl sl D A al oe M call d sc) {ins : Instr} {len : Nat} {S : cS} (hd : decode (m_b M) pc = .ok (ins, len)) (hs : cStep call M sc ins len pc ls st h = some S) (k : cK p l e R s m args below meth c cl sl Q D A al oe (m_L M) S.1 S.2.1 S.2.2.1 S.2.2.2) : cK p l e R s m args below meth c cl sl Q D A al oe (m_L M) pc ls st h := by
  have X0 := X
  obtain ⟨hx, hb, hml, hown, hts, hA, hE, hoc, hRc, hRs, hfr, hlo, hsc, hcok⟩ := X
  unfold cStep at hs
  split at hs
  · obtain ⟨rfl, rfl⟩ := kConst_inv hs
    exact c_iconst hx hb hd k
  · obtain ⟨rfl, rfl⟩ := kConst_inv hs
    exact c_bipush hx hb hd k
  · obtain ⟨rfl, rfl⟩ := kConst_inv hs
    exact c_sipush hx hb hd k
  · obtain ⟨rfl, rfl⟩ := kConst_inv hs
    exact c_lconst hx hb hd k
  · rcases kLdc_inv hs with ⟨tx, i, hf, rfl, rfl⟩ | ⟨n, hf, rfl, rfl⟩
    · exact c_ldcS hx hb (sTab_odd hoc hf) hown (hE.1.2.2.2.2 _ _ hoc _ _ _ (fnd_mem hf)) hd k
    · exact c_ldcI hx hb hown (hts _ (gtbl_in (iTab_use hoc hf) rfl)) hd k
  · obtain ⟨n, hf, rfl, rfl⟩ := kLdcw_inv hs
    exact c_ldcw hx hb hown (hts _ (gtbl_in (iTab_use hoc hf) rfl)) hd k
  · obtain ⟨n, hf, rfl, rfl⟩ := kLdc2_inv hs
    have h1 := List.all_eq_true.mp (jTab_ok _ _ hoc) _ (fnd_mem hf)
    unfold jOKb at h1
    simp only [Bool.and_eq_true, decide_eq_true_eq] at h1
    exact c_ldc2 hx hb hown (hts _ (gtbl_in h1.1 rfl)) hd k
  · obtain ⟨x, h1, rfl, rfl⟩ := kLoadI_inv hs
    exact c_iload hx hb h1 hd k
  · obtain ⟨x, h1, rfl, rfl⟩ := kLoadI_inv hs
    exact c_iload_n hx hb h1 hd k
  · obtain ⟨x, h1, rfl, rfl⟩ := kLoadJ_inv hs
    exact c_lload hx hb h1 hd k
  · obtain ⟨x, h1, rfl, rfl⟩ := kLoadJ_inv hs
    exact c_lload_n hx hb h1 hd k
  · obtain ⟨a, h1, rfl, h2, rfl⟩ := kLoadA_inv hs
    rcases isRf_inv h2 with ⟨k0, rfl⟩ | ⟨n0, rfl, h9⟩
    · exact c_aloadR hx hb h1 hd k
    · exact c_aloadO hx hb h9 h1 hd k
  · obtain ⟨a, h1, rfl, h2, rfl⟩ := kLoadA_inv hs
    rcases isRf_inv h2 with ⟨k0, rfl⟩ | ⟨n0, rfl, h9⟩
    · exact c_aload_nR hx hb h1 hd k
    · exact c_aload_nO hx hb h9 h1 hd k
  · obtain ⟨x, st2, rfl, rfl, h1, rfl⟩ := kStoreI_inv hs
    exact c_istore hx hb h1 hd k
  · obtain ⟨x, st2, rfl, rfl, h1, rfl⟩ := kStoreI_inv hs
    exact c_istore_n hx hb h1 hd k
  · obtain ⟨x, st2, rfl, rfl, h1, rfl⟩ := kStoreJ_inv hs
    exact c_lstore hx hb h1 hd k
  · obtain ⟨x, st2, rfl, rfl, h1, rfl⟩ := kStoreJ_inv hs
    exact c_lstore_n hx hb h1 hd k
  · obtain ⟨k0, st2, rfl, rfl, h1, rfl⟩ := kStoreA_inv hs
    exact c_astoreR hx hb h1 hd k
  · obtain ⟨k0, st2, rfl, rfl, h1, rfl⟩ := kStoreA_inv hs
    exact c_astore_nR hx hb h1 hd k
  · obtain ⟨x, h1, rfl, h2, rfl⟩ := kInc_inv hs
    exact c_iinc hx hb h1 h2 hd k
  · obtain ⟨x, y, st2, rfl, rfl, h1, rfl⟩ := kBin_inv hs
    exact c_iadd hx hb hd k
  · obtain ⟨x, y, st2, rfl, rfl, h1, rfl⟩ := kBin_inv hs
    exact c_isub hx hb hd k
  · obtain ⟨x, y, st2, rfl, rfl, h1, rfl⟩ := kBin_inv hs
    exact c_imul hx hb hd k
  · obtain ⟨x, y, st2, rfl, rfl, h1, rfl⟩ := kBin_inv hs
    exact c_iand hx hb hd k
  · obtain ⟨x, y, st2, rfl, rfl, h1, rfl⟩ := kBin_inv hs
    exact c_ior hx hb hd k
  · obtain ⟨x, y, st2, rfl, rfl, h1, rfl⟩ := kBin_inv hs
    exact c_ixor hx hb hd k
  · obtain ⟨x, y, st2, rfl, rfl, h1, rfl⟩ := kBin_inv hs
    exact c_ishl hx hb hd k
  · obtain ⟨x, y, st2, rfl, rfl, h1, rfl⟩ := kBin_inv hs
    exact c_ishr hx hb hd k
  · obtain ⟨x, y, st2, rfl, rfl, h1, rfl⟩ := kBin_inv hs
    exact c_iushr hx hb hd k
  · obtain ⟨x, y, st2, rfl, rfl, h1, rfl⟩ := kBin_inv hs
    exact c_idiv hx hb (of_decide_eq_true h1) hd k
  · obtain ⟨x, y, st2, rfl, rfl, h1, rfl⟩ := kBin_inv hs
    exact c_irem hx hb (of_decide_eq_true h1) hd k
  · obtain ⟨x, y, st2, rfl, rfl, h1, rfl⟩ := kBinJ_inv hs
    exact c_ladd hx hb hd k
  · obtain ⟨x, y, st2, rfl, rfl, h1, rfl⟩ := kBinJ_inv hs
    exact c_lsub hx hb hd k
  · obtain ⟨x, y, st2, rfl, rfl, h1, rfl⟩ := kBinJ_inv hs
    exact c_lmul hx hb hd k
  · obtain ⟨x, y, st2, rfl, rfl, h1, rfl⟩ := kBinJ_inv hs
    exact c_land hx hb hd k
  · obtain ⟨x, y, st2, rfl, rfl, h1, rfl⟩ := kBinJ_inv hs
    exact c_lor hx hb hd k
  · obtain ⟨x, y, st2, rfl, rfl, h1, rfl⟩ := kBinJ_inv hs
    exact c_ldiv hx hb (of_decide_eq_true h1) hd k
  · obtain ⟨x, y, st2, rfl, rfl, h1, rfl⟩ := kBinJ_inv hs
    exact c_lrem hx hb (of_decide_eq_true h1) hd k
  · obtain ⟨x, y, st2, rfl, rfl, h1, rfl⟩ := kShJ_inv hs
    exact c_lshl hx hb hd k
  · obtain ⟨x, y, st2, rfl, rfl, h1, rfl⟩ := kShJ_inv hs
    exact c_lushr hx hb hd k
  · obtain ⟨x, y, st2, rfl, rfl, h1, rfl⟩ := kCmp_inv hs
    exact c_lcmp hx hb hd k
  · obtain ⟨x, st2, rfl, rfl, rfl⟩ := kUn_inv hs
    exact c_i2l hx hb hd k
  · obtain ⟨x, st2, rfl, rfl, rfl⟩ := kUnJ_inv hs
    exact c_l2i hx hb hd k
  · obtain ⟨x, st2, rfl, rfl, rfl⟩ := kUn_inv hs
    exact c_i2b hx hb hd k
  · obtain ⟨x, st2, rfl, rfl, rfl⟩ := kUn_inv hs
    exact c_i2c hx hb hd k
  · obtain ⟨a, st2, rfl, rfl, h1, rfl⟩ := kDup_inv hs
    exact c_dup hx hb h1 hd k
  · obtain ⟨a, b, st2, rfl, rfl, h1, h2, rfl⟩ := kDup2_inv hs
    exact c_dup2 hx hb h1 h2 hd k
  · obtain ⟨a, st2, rfl, rfl, h1, rfl⟩ := kPop_inv hs
    exact c_pop hx hb h1 hd k
  · obtain ⟨t, h1, rfl, rfl⟩ := kGoto_inv hs
    exact c_goto hx hb h1 hd k
  · rename_i kk off
    obtain ⟨x, st2, t, rfl, h1, rfl, rfl⟩ := kIf_inv hs
    cases kk with
    | eq => exact c_if_eq hx hb h1 hd k
    | ne => exact c_if_ne hx hb h1 hd k
    | lt => exact c_if_lt hx hb h1 hd k
    | ge => exact c_if_ge hx hb h1 hd k
    | gt => exact c_if_gt hx hb h1 hd k
    | le => exact c_if_le hx hb h1 hd k
  · rename_i kk off
    obtain ⟨x, y, st2, t, rfl, h1, rfl, rfl⟩ := kIc_inv hs
    cases kk with
    | eq => exact c_icmp_eq hx hb h1 hd k
    | ne => exact c_icmp_ne hx hb h1 hd k
    | lt => exact c_icmp_lt hx hb h1 hd k
    | ge => exact c_icmp_ge hx hb h1 hd k
    | gt => exact c_icmp_gt hx hb h1 hd k
    | le => exact c_icmp_le hx hb h1 hd k
  · obtain ⟨x, st2, off, t, rfl, h1, h2, rfl⟩ := kTsw_inv hs
    exact c_tsw hx hb h1 h2 hd k
  · obtain ⟨x, st2, t, rfl, h1, h2, rfl⟩ := kLsw_inv hs
    exact c_lsw hx hb h1 h2 hd k
  · rcases kGet_inv hs with ⟨kd, ci, fi, k0, st2, fs, a, hf, rfl, h1, h2, rfl, h3, rfl⟩ | ⟨ci, fi, n, i, st2, a, hf, rfl, h1, h2, rfl, h3, rfl⟩
    · obtain ⟨C, T, N, hc⟩ := tab_fc hoc hf h3
      have h4 : kd = 0 ∨ kd = 1 := by omega
      rcases h4 with rfl | rfl
      · obtain ⟨z1, z2⟩ := tab_f0 hoc hf hc
        exact c_get (host := "") hx hb hts hown hc z1 z2 h1 h2 hd k
      · obtain ⟨z1, z2⟩ := tab_f1 hE.1 hoc hf hc
        exact c_getN hx hb hts hown hc z1 z2 h1 h2 hd k
    · have z := tab_f hoc hf
      unfold fOKb at z
      subst h1
      rcases h3 with ⟨rfl, rfl⟩ | ⟨rfl, rfl⟩
      · dsimp only at z
        exact c_getO (a := cO (2 * i + 1 + 1)) hx hb (odd99 h2) (hE.1.2.2.1.1 i h2).2.2.1 (fun al => tv_O (even99 i)) hown (hts _ (gtbl_in (of_decide_eq_true z) rfl)) hd k
      · dsimp only at z
        exact c_getO (a := cI 0) hx hb (odd99 h2) (hE.1.2.2.1.1 i h2).2.1 (fun al => rfl) hown (hts _ (gtbl_in (of_decide_eq_true z) rfl)) hd k
  · obtain ⟨kd, ci, fi, k0, st2, fs, a, a0, C, T, N, hf, rfl, h1, h2, hc, rfl, h3, h4, h5, rfl⟩ := kPut_inv hs
    have h7 : kd = 0 ∨ kd = 1 := by omega
    rcases h7 with rfl | rfl
    · obtain ⟨z1, z2⟩ := tab_f0 hoc hf hc
      exact c_put (host := "") hx hb hts hown hc z1 z2 h4 (clTy ci C T N hc fi z1) h3 h1 h2 hd k
    · obtain ⟨z1, z2⟩ := tab_f1 hE.1 hoc hf hc
      exact c_putN hx hb hts hown hc z1 z2 h4 (clTy ci C T N hc fi z1) h3 h1 h2 hd k
  · rcases kGetS_inv hs with ⟨fi, hf, rfl, rfl⟩ | ⟨fi, hf, rfl, rfl⟩
    · have z := tab_f hoc hf
      unfold fOKb at z
      dsimp only at z
      exact c_gets (a := cI 1) hx hb hE.1.2.2.2.1 (fun al => rfl) hown (hts _ (gtbl_in (of_decide_eq_true z) rfl)) hd k
    · exact c_gets (a := cO 99) hx hb hE.2 (fun al => rfl) hown (hts _ (gtbl_in (fTab_fm hoc hf) rfl)) hd k
  · rcases kLen_inv hs with ⟨k0, kd, n, f, st2, rfl, h1, rfl, rfl⟩ | ⟨k0, n, f, st2, rfl, h1, rfl, rfl⟩ | ⟨L, xs, st2, rfl, h1, rfl, rfl⟩ | ⟨i, st2, rfl, h1, rfl, rfl⟩
    · exact c_alen hx hb h1 hd k
    · exact c_alenJ hx hb h1 hd k
    · obtain ⟨b, z1, z2, z3, z4⟩ := hsc L xs h1
      exact c_slen hx hb z1 z2 z3 z4 hd k
    · exact c_tlen hx hb (even99 i) (hE.1.2.2.1.1 i h1).2.2.2 hd k
  · rcases kIald_inv hs with ⟨k0, n, f, i, st2, rfl, h1, rfl, h2, rfl⟩ | ⟨L, xs, i, st2, rfl, h1, rfl, h2, rfl⟩
    · exact c_iald hx hb h1 h2 hd k
    · obtain ⟨b, z1, z2, z3, z4⟩ := hsc L xs h1
      exact c_sld hx hb z1 z2 z3 z4 h2 hd k
  · rcases kBald_inv hs with ⟨k0, n, f, i, st2, rfl, h1, rfl, h2, rfl⟩ | ⟨j, i, st2, rfl, h1, rfl, h2, rfl⟩
    · rcases h1 with h1 | h1
      · exact c_bald hx hb h1 h2 hd k
      · exact c_zald hx hb h1 h2 hd k
    · exact c_tb hx hb (even99 j) (hE.1.2.2.1.1 j h1).2.2.2 h2 rfl hd k
  · obtain ⟨k0, n, f, i, st2, rfl, h1, rfl, h2, rfl⟩ := kLald_inv hs
    exact c_lald hx hb h1 h2 hd k
  · obtain ⟨k0, ci, n, kr, rs, i, st2, rfl, h1, h2, rfl, h3, rfl⟩ := kAald_inv hs
    exact c_aald hx hb h1 h3 h2 hd k
  · obtain ⟨k0, n, f, i, x, st2, rfl, h1, rfl, h2, rfl⟩ := kIast_inv hs
    exact c_iast hx hb h1 h2 hd k
  · obtain ⟨k0, n, f, i, x, st2, rfl, rfl, h2, h1⟩ := kBast_inv hs
    rcases h1 with ⟨h1, rfl⟩ | ⟨h1, rfl⟩
    · exact c_bast hx hb h1 h2 hd k
    · exact c_zast hx hb h1 h2 hd k
  · obtain ⟨k0, n, f, i, x, st2, rfl, h1, rfl, h2, rfl⟩ := kLast_inv hs
    exact c_last hx hb h1 h2 hd k
  · rcases kInv_inv hs with ⟨mi, hf, h0, h1⟩ | ⟨mi, hf, h0, h1⟩ | ⟨mi, hf, h0, h1⟩ | ⟨kd, mi, N, r, h2, hf, hN, rfl, h3, h4, h5, h6, h7, rfl⟩
    · obtain ⟨n, dp, sp, kd, ks, n0, n1, rfl, rfl, a1, a2, a3, a4, a5, a6⟩ := kCpy_inv h1
      rcases a6 with ⟨f0, f1, a6, a7, rfl⟩ | ⟨f0, f1, a6, a7, rfl⟩
      · exact c_cpyI X0 hf hd a6 a7 a1 a2 a3 a4 a5 k
      · exact c_cpyJ X0 hf hd a6 a7 a1 a2 a3 a4 a5 k
    · obtain ⟨x, y, st2, rfl, rfl, a1, rfl⟩ := kMath_inv h1
      exact c_mmax X0 hf hd a1 k
    · obtain ⟨x, y, st2, rfl, rfl, a1, rfl⟩ := kMath_inv h1
      exact c_mmin X0 hf hd a1 k
    · have e0 : rc 0 + m_n N = m_n N := Nat.zero_add _
      rw [e0] at h4 h5 h7 k
      exact c_inv0 X0 hf h3 hN hd h4 h5 h7 k
  · rcases kInv_inv hs with ⟨mi, hf, h0, h1⟩ | ⟨mi, hf, h0, h1⟩ | ⟨mi, hf, h0, h1⟩ | ⟨kd, mi, N, r, h2, hf, hN, rfl, h3, h4, h5, h6, h7, rfl⟩
    · exact absurd h0 (by decide)
    · exact absurd h0 (by decide)
    · exact absurd h0 (by decide)
    · exact c_inv1 X0 hf h3 hN hd h4 h5 h6 h7 k
  · rcases kInv_inv hs with ⟨mi, hf, h0, h1⟩ | ⟨mi, hf, h0, h1⟩ | ⟨mi, hf, h0, h1⟩ | ⟨kd, mi, N, r, h2, hf, hN, rfl, h3, h4, h5, h6, h7, rfl⟩
    · exact absurd h0 (by decide)
    · exact absurd h0 (by decide)
    · exact absurd h0 (by decide)
    · exact c_inv2 X0 hf h3 hN hd h4 h5 h6 h7 k
  · cases hs
end
