/-! THE ENGINE, 11: a step, whole (printed by wip/engine/gen23.py) -/
section
variable {p : Program} {l : Launch} {e : Env} {R : Room} {s : State} {m : MethodId} {args : Array Value} {below : List Frame} {meth : Method} {c : Code} {Q : State → Prop} {D : va_G} {A : Nat → Prop} {al0 : List Nat} {oe : Nat → Nat} {M : eM} {call : eCl} {d : Nat} {sc : Option (List eP)} {pc cl sl : Nat} {ls : List (Nat × eV)} {st : List eV} {h : List eC}
theorem tab_f {own : String} {oc idx kd ci fi : Nat} (hoc : oNm[oc]? = some own) (hf : fnd (fTab.getD oc []) idx = some (kd, ci, fi)) : fOKb own (idx, (kd, ci, fi)) = true := List.all_eq_true.mp (fTab_ok _ _ hoc) _ (fnd_mem hf)
theorem tab_f0 {own C : String} {T : u_T} {N oc idx ci fi : Nat} (hoc : oNm[oc]? = some own) (hf : fnd (fTab.getD oc []) idx = some (0, ci, fi)) (hc : classes[ci]? = some (C, T, N)) : fi < N ∧ Cond.fieldLink own idx C (T fi).2.1 (T fi).2.2.1 ∈ gtbl := by
  have h1 := tab_f hoc hf
  unfold fOKb at h1
  dsimp only at h1
  rw [hc] at h1
  simp only [Bool.and_eq_true, decide_eq_true_eq] at h1
  exact ⟨h1.1, gtbl_in h1.2 rfl⟩
theorem tab_f1 {own C : String} {T : u_T} {N oc idx ci fi : Nat} {s : State} {A : Nat → Prop} {oe : Nat → Nat} (hE : eEnv A oe s) (hoc : oNm[oc]? = some own) (hf : fnd (fTab.getD oc []) idx = some (1, ci, fi)) (hc : classes[ci]? = some (C, T, N)) : fi < N ∧ va_Nw (.fieldLinkNest own idx C (T fi).2.1 (T fi).2.2.1 "TwoMouths") s := by
  have h1 := tab_f hoc hf
  unfold fOKb at h1
  dsimp only at h1
  rw [hc] at h1
  simp only [Bool.and_eq_true, decide_eq_true_eq] at h1
  exact ⟨h1.1, hE.1 _ h1.2 rfl⟩
theorem tab_fc {own : String} {oc idx kd ci fi : Nat} (hoc : oNm[oc]? = some own) (hf : fnd (fTab.getD oc []) idx = some (kd, ci, fi)) (hk : kd ≤ 1) : ∃ (C : String) (T : u_T) (N : Nat), classes[ci]? = some (C, T, N) := by
  have h1 := tab_f hoc hf
  unfold fOKb at h1
  cases hc : classes[ci]? with
  | some r => exact ⟨r.1, r.2.1, r.2.2, rfl⟩
  | none =>
    have h2 : kd = 0 ∨ kd = 1 := by omega
    rcases h2 with rfl | rfl
    · dsimp only at h1
      rw [hc] at h1
      cases h1
    · dsimp only at h1
      rw [hc] at h1
      cases h1
theorem aK_tbl {t : ArrayType} {kd : Nat} (h : aK t = some kd) : Cond.arrayClass (newarray.typeOf t) ∈ gtbl := by
  obtain ⟨-, -, -, -, -, g1, g2, g3, g4⟩ := glb_ok
  cases t <;> first | (exact gtbl_in g1 rfl) | (exact gtbl_in g2 rfl) | (exact gtbl_in g3 rfl) | (exact gtbl_in g4 rfl) | (cases h)
theorem lenS_lt (i : Nat) : lenS.getD i 0 < 2147483648 := by
  have h : ∀ j, j < 18 → lenS.getD j 0 < 2147483648 := by decide +kernel
  by_cases hi : i < 18
  · exact h i hi
  · have : lenS.getD i 0 = 0 := by
      rw [List.getD_eq_getElem?_getD, List.getElem?_eq_none (by show 18 ≤ i; omega)]
      rfl
    omega
set_option maxHeartbeats 4000000 in
theorem eStep_ok (X : eCx p l R s m args meth c D A oe M call d sc) {ins : Instr} {len : Nat} {S : eS} (hd : decode (m_b M) pc = .ok (ins, len)) (hs : eStep call M sc ins len pc ls st h cl sl = some S) (k : eK p l e R s m args below meth c Q D A al0 oe (m_L M) S.1 S.2.1 S.2.2.1 S.2.2.2.1 S.2.2.2.2.1 S.2.2.2.2.2) : eK p l e R s m args below meth c Q D A al0 oe (m_L M) pc ls st h cl sl := by
  have X0 := X
  obtain ⟨hx, hb, hml, hown, hts, hA, hE, hoc, hin, hRc, hRs, hfr, hlo, hsc, hcok⟩ := X
  unfold eStep at hs
  split at hs
  · obtain ⟨rfl, h2, rfl⟩ := hConst_inv hs
    exact q_iconst hx hb hd h2 k
  · obtain ⟨rfl, h2, rfl⟩ := hConst_inv hs
    exact q_bipush hx hb hd h2 k
  · obtain ⟨rfl, h2, rfl⟩ := hConst_inv hs
    exact q_sipush hx hb hd h2 k
  · obtain ⟨rfl, h2, rfl⟩ := hConst_inv hs
    exact q_lconst hx hb hd k
  · obtain ⟨tx, i, hf, rfl, rfl⟩ := hLdc_inv hs
    exact q_ldcS hx hb hown (hE.2.2.2.2 _ _ hoc _ _ _ (fnd_mem hf)) hd k
  · obtain ⟨n, hf, rfl, rfl⟩ := hLdc2_inv hs
    have h1 := List.all_eq_true.mp (jTab_ok _ _ hoc) _ (fnd_mem hf)
    unfold jOKb at h1
    simp only [Bool.and_eq_true, decide_eq_true_eq] at h1
    exact q_ldc2 hx hb hown (hts _ (gtbl_in h1.1 rfl)) (by rw [h1.2]; exact ⟨Int.le_refl _, Int.le_refl _⟩) hd k
  · obtain ⟨q, h1, rfl, rfl⟩ := hLoadI_inv hs
    exact q_iload hx hb hd h1 k
  · obtain ⟨q, h1, rfl, rfl⟩ := hLoadI_inv hs
    exact q_iload_n hx hb hd h1 k
  · obtain ⟨q, h1, rfl, rfl⟩ := hLoadJ_inv hs
    exact q_lload hx hb hd h1 k
  · obtain ⟨q, h1, rfl, rfl⟩ := hLoadJ_inv hs
    exact q_lload_n hx hb hd h1 k
  · obtain ⟨a, h1, rfl, h2, rfl⟩ := hLoadA_inv hs
    exact q_aload hx hb hd h1 h2 k
  · obtain ⟨a, h1, rfl, h2, rfl⟩ := hLoadA_inv hs
    exact q_aload_n hx hb hd h1 h2 k
  · obtain ⟨q, st2, rfl, rfl, h1, rfl⟩ := hStoreI_inv hs
    exact q_istore hx hb hd h1 k
  · obtain ⟨q, st2, rfl, rfl, h1, rfl⟩ := hStoreI_inv hs
    exact q_istore_n hx hb hd h1 k
  · obtain ⟨q, st2, rfl, rfl, h1, rfl⟩ := hStoreJ_inv hs
    exact q_lstore hx hb hd h1 k
  · obtain ⟨q, st2, rfl, rfl, h1, rfl⟩ := hStoreJ_inv hs
    exact q_lstore_n hx hb hd h1 k
  · obtain ⟨a, st2, rfl, rfl, h1, h2, rfl⟩ := hStoreA_inv hs
    exact q_astore hx hb hd h1 h2 k
  · obtain ⟨a, st2, rfl, rfl, h1, h2, rfl⟩ := hStoreA_inv hs
    exact q_astore_n hx hb hd h1 h2 k
  · obtain ⟨q, h1, rfl, h2, h3, rfl⟩ := hInc_inv hs
    exact q_iinc hx hb hd h1 h2 h3 k
  · obtain ⟨a, b, st2, rfl, rfl, rfl⟩ := hBin_inv hs
    exact q_iadd hx hb hd k
  · obtain ⟨a, b, st2, rfl, rfl, rfl⟩ := hBin_inv hs
    exact q_isub hx hb hd k
  · obtain ⟨a, b, st2, rfl, rfl, rfl⟩ := hBin_inv hs
    exact q_imul hx hb hd k
  · obtain ⟨a, b, st2, rfl, rfl, rfl⟩ := hBin_inv hs
    exact q_iand hx hb hd k
  · obtain ⟨a, b, st2, rfl, rfl, rfl⟩ := hBin_inv hs
    exact q_ior hx hb hd k
  · obtain ⟨a, b, st2, rfl, rfl, rfl⟩ := hBin_inv hs
    exact q_ishl hx hb hd k
  · obtain ⟨a, b, st2, rfl, rfl, rfl⟩ := hBin_inv hs
    exact q_ishr hx hb hd k
  · obtain ⟨a, b, st2, rfl, rfl, rfl⟩ := hBin_inv hs
    exact q_iushr hx hb hd k
  · obtain ⟨a, b, st2, rfl, rfl, rfl⟩ := hLsh_inv hs
    exact q_lushr hx hb hd k
  · obtain ⟨a, b, st2, rfl, rfl, rfl⟩ := hLand_inv hs
    exact q_land hx hb hd k
  · obtain ⟨a, b, st2, rfl, rfl, rfl⟩ := hCmp_inv hs
    exact q_lcmp hx hb hd k
  · obtain ⟨a, st2, rfl, rfl, rfl⟩ := hUn_inv hs
    exact q_i2l hx hb hd k
  · obtain ⟨a, st2, rfl, rfl, rfl⟩ := hUn_inv hs
    exact q_i2b hx hb hd k
  · obtain ⟨a, st2, rfl, rfl, h1, rfl⟩ := hDup_inv hs
    exact q_dup hx hb hd h1 k
  · obtain ⟨a, b, st2, rfl, rfl, h1, h2, rfl⟩ := hDup2_inv hs
    exact q_dup2 hx hb hd h1 h2 k
  · obtain ⟨a, st2, rfl, rfl, h1, rfl⟩ := hPop_inv hs
    exact q_pop hx hb hd h1 k
  · obtain ⟨t, h1, rfl, rfl⟩ := hGoto_inv hs
    exact q_goto hx hb hd h1 k
  · rename_i kk off
    obtain ⟨a, st2, b, t, rfl, h1, h2, rfl, rfl⟩ := hIf_inv hs
    cases kk with
    | eq =>
      cases b with
      | true => exact q_if_eq hx hb hd h2 h1 k
      | false => exact q_if_eq hx hb hd h2 h1 k
    | ne =>
      cases b with
      | true => exact q_if_ne hx hb hd h2 h1 k
      | false => exact q_if_ne hx hb hd h2 h1 k
    | lt =>
      cases b with
      | true => exact q_if_lt hx hb hd h2 h1 k
      | false => exact q_if_lt hx hb hd h2 h1 k
    | ge =>
      cases b with
      | true => exact q_if_ge hx hb hd h2 h1 k
      | false => exact q_if_ge hx hb hd h2 h1 k
    | gt =>
      cases b with
      | true => exact q_if_gt hx hb hd h2 h1 k
      | false => exact q_if_gt hx hb hd h2 h1 k
    | le =>
      cases b with
      | true => exact q_if_le hx hb hd h2 h1 k
      | false => exact q_if_le hx hb hd h2 h1 k
  · rename_i kk off
    obtain ⟨a, a2, st2, b, t, rfl, h1, h2, rfl, rfl⟩ := hIc_inv hs
    cases kk with
    | eq =>
      cases b with
      | true => exact q_icmp_eq hx hb hd h2 h1 k
      | false => exact q_icmp_eq hx hb hd h2 h1 k
    | ne =>
      cases b with
      | true => exact q_icmp_ne hx hb hd h2 h1 k
      | false => exact q_icmp_ne hx hb hd h2 h1 k
    | lt =>
      cases b with
      | true => exact q_icmp_lt hx hb hd h2 h1 k
      | false => exact q_icmp_lt hx hb hd h2 h1 k
    | ge =>
      cases b with
      | true => exact q_icmp_ge hx hb hd h2 h1 k
      | false => exact q_icmp_ge hx hb hd h2 h1 k
    | gt =>
      cases b with
      | true => exact q_icmp_gt hx hb hd h2 h1 k
      | false => exact q_icmp_gt hx hb hd h2 h1 k
    | le =>
      cases b with
      | true => exact q_icmp_le hx hb hd h2 h1 k
      | false => exact q_icmp_le hx hb hd h2 h1 k
  · obtain ⟨a, st2, off, t, rfl, h1, h2, rfl⟩ := hTsw_inv hs
    exact q_tsw hx hb hd h1 h2 k
  · obtain ⟨a, st2, off, t, rfl, h1, h2, h3, rfl⟩ := hLsw_inv hs
    exact q_lsw hx hb hd h1 (fun n hn => lsO_ok _ _ _ _ _ h2 hn) h3 k
  · rcases hGet_inv hs with ⟨kd, ci, fi, k0, st2, fs, a, hf, rfl, h1, h2, rfl, h3, rfl⟩ | ⟨ci, fi, n, i, st2, a, hf, rfl, h1, h2, rfl, h3, rfl⟩
    · obtain ⟨C, T, N, hc⟩ := tab_fc hoc hf h3
      have h4 : kd = 0 ∨ kd = 1 := by omega
      rcases h4 with rfl | rfl
      · obtain ⟨z1, z2⟩ := tab_f0 hoc hf hc
        exact q_get hx hb hts hown hc z1 z2 h1 h2 hd k
      · obtain ⟨z1, z2⟩ := tab_f1 hE hoc hf hc
        exact q_getN hx hb hts hown hc z1 z2 h1 h2 hd k
    · have z := tab_f hoc hf
      unfold fOKb at z
      subst h1
      rcases h3 with ⟨rfl, rfl⟩ | ⟨rfl, rfl⟩
      · dsimp only at z
        exact q_getO (a := eO (2 * i + 1 + 1)) hx hb (hE.2.2.1.1 i h2).2.2.1 (fun al => rfl) hown (hts _ (gtbl_in (of_decide_eq_true z) rfl)) hd k
      · dsimp only at z
        exact q_getO (a := eI (0, 0)) hx hb (hE.2.2.1.1 i h2).2.1 (fun al => ⟨0, rfl, by decide, by decide⟩) hown (hts _ (gtbl_in (of_decide_eq_true z) rfl)) hd k
  · obtain ⟨kd, ci, fi, k0, st2, fs, a, a0, C, T, N, hf, rfl, h1, h2, hc, rfl, h3, h4, rfl⟩ := hPut_inv hs
    rcases h4 with ⟨h4, h5⟩ | ⟨h4, rfl, rfl, h6⟩
    · have h7 : kd = 0 ∨ kd = 1 := by omega
      rcases h7 with rfl | rfl
      · obtain ⟨z1, z2⟩ := tab_f0 hoc hf hc
        exact q_put (host := "") hx hb hts hown hc z1 z2 h4 (clTy ci C T N hc fi z1) h3 h1 h2 hd k
      · obtain ⟨z1, z2⟩ := tab_f1 hE hoc hf hc
        exact q_putN hx hb hts hown hc z1 z2 h4 (clTy ci C T N hc fi z1) h3 h1 h2 hd k
    · obtain ⟨z1, z2⟩ := tab_f0 hoc hf hc
      have hn := clNm _ _ hc
      rw [hoc] at hn
      exact q_putF (host := "") hx hb hts hown (hin h6) (Option.some.inj hn).symm hc z1 z2 h4 (clTy _ C T N hc fi z1) h3 h1 h2 hd k
  · obtain ⟨fi, hf, rfl, rfl⟩ := hGetS_inv hs
    have z := tab_f hoc hf
    unfold fOKb at z
    dsimp only at z
    exact q_gets (a := eI (1, 1)) hx hb hE.2.2.2.1 (fun al => ⟨1, rfl, by decide, by decide⟩) hown (hts _ (gtbl_in (of_decide_eq_true z) rfl)) hd k
  · obtain ⟨ci, C, T, N, hf, hc, rfl, h1, h2, h3, rfl⟩ := hNew_inv hs
    have z := List.all_eq_true.mp (cTab_ok _ _ hoc) _ (fnd_mem hf)
    unfold cOKb at z
    dsimp only at z
    rw [hc] at z
    exact q_new hx hb hts hown hA _ hc (gtbl_in (of_decide_eq_true z) rfl) (clTy ci C T N hc) h3 (by rw [hRc]; exact h1) (by rw [hRs]; exact h2) hd k
  · obtain ⟨kd, a, st2, h1, rfl, rfl, h2, h3, h4, h5, rfl⟩ := hNewa_inv hs
    exact q_newa hx hb hts hA h1 h2 rfl h3 (aK_tbl h1) (by rw [hRc]; exact h4) (by rw [hRs]; exact h5) hd k
  · obtain ⟨ci, a, st2, hf, rfl, rfl, h1, h2, h3, h4, h5, rfl⟩ := hNewq_inv hs
    have z := List.all_eq_true.mp (cTab_ok _ _ hoc) _ (fnd_mem hf)
    unfold cOKb at z
    dsimp only at z
    split at z
    · rename_i C T N hc
      exact q_newq hx hb hts hown hA hc (gtbl_in (of_decide_eq_true z) rfl) (hE.2.1 ci h1 _ hc) h2 rfl h3 (by rw [hRc]; exact h4) (by rw [hRs]; exact h5) hd k
    · cases z
  · rcases hLen_inv hs with ⟨k0, kd, n, q, st2, rfl, h1, rfl, rfl⟩ | ⟨bx, st2, rfl, h1, rfl, rfl⟩ | ⟨i, st2, rfl, h1, rfl, rfl⟩
    · exact q_alen hx hb h1 hd k
    · obtain ⟨b, xs, z1, z2, z3, z4, z5, z6⟩ := hsc bx h1
      exact q_slen hx hb z1 z2 z3 z4 z5 hd k
    · exact q_tlen hx hb (hE.2.2.1.1 i h1).2.2.2 (lenS_lt i) hd k
  · rcases hIald_inv hs with ⟨k0, n, q, i, st2, rfl, h1, rfl, h2, rfl⟩ | ⟨bx, i, q, st2, rfl, h1, h2, rfl, h3, rfl⟩
    · exact q_iald hx hb h1 h2 hd k
    · obtain ⟨b, xs, z1, z2, z3, z4, z5, z6⟩ := hsc bx h1
      exact q_sld hx hb z1 z2 z3 z4 (fun j q hj => ⟨(List.getElem?_eq_some_iff.mp hj).1, z6 j q hj⟩) z5 h3 h2 hd k
  · obtain ⟨k0, n, q, i, st2, rfl, h1, rfl, h2, rfl⟩ := hBald_inv hs
    rcases h1 with h1 | h1
    · exact q_bald hx hb h1 h2 hd k
    · exact q_zald hx hb h1 h2 hd k
  · obtain ⟨k0, n, q, i, st2, rfl, h1, rfl, h2, rfl⟩ := hLald_inv hs
    exact q_lald hx hb h1 h2 hd k
  · obtain ⟨k0, ci, n, kr, rs, i, st2, rfl, h1, h2, rfl, h3, h4, rfl⟩ := hAald_inv hs
    exact q_aald hx hb h1 h3 h4 h2 hd k
  · obtain ⟨k0, n, q, i, v, st2, rfl, h1, rfl, h2, rfl⟩ := hIast_inv hs
    exact q_iast hx hb h1 h2 hd k
  · obtain ⟨k0, n, q, i, v, st2, rfl, rfl, h2, h1⟩ := hBast_inv hs
    rcases h1 with ⟨h1, rfl⟩ | ⟨h1, rfl⟩
    · exact q_bast hx hb h1 h2 hd k
    · exact q_zast hx hb h1 h2 hd k
  · obtain ⟨k0, n, q, i, v, st2, rfl, h1, rfl, h2, rfl⟩ := hLast_inv hs
    exact q_last hx hb h1 h2 hd k
  · obtain ⟨k0, kr, ci, n, rs, fs, i, st2, rfl, h1, h2, rfl, h3, h4, h5, rfl⟩ := hAast_inv hs
    exact q_aast hx hb h1 h2 h4 h3 h5 hd k
  · rcases hInv_inv hs with ⟨a, mi, hf, rfl, rfl, h1, h2, rfl⟩ | ⟨mi, hf, h1, h2⟩ | ⟨mi, hf, h1⟩ | ⟨mi, hf, h1⟩ | ⟨kd, mi, N, r, h2, hf, hN, rfl, h3, h4, h5, h6, h7, h8, h9, rfl⟩
    · exact absurd h1 (by decide)
    · obtain ⟨n, dp, sp, kd, ks, k0, n0, n1, q0, q1, rfl, a0, a1, rfl, a2, a3, a4, a5, a6, a7, rfl⟩ := hCpy_inv h2
      exact q_cpy X0 hf hd a0 a1 a2 a3 a4 a5 a6 a7 k
    · obtain ⟨a, b, st2, rfl, rfl, z1, z2, z3, z4, rfl⟩ := hMath_inv h1
      exact q_mmax X0 hf hd z2 z3 z4 k
    · obtain ⟨a, b, st2, rfl, rfl, z1, z2, z3, z4, rfl⟩ := hMath_inv h1
      exact q_mmin X0 hf hd z2 z3 z4 k
    · have e0 : rc 0 + m_n N = m_n N := Nat.zero_add _
      rw [e0] at h4 h5 h9 k
      exact q_inv0 X0 hf h3 hN hd h4 h5 h6 h7 h9 k
  · rcases hInv_inv hs with ⟨a, mi, hf, rfl, rfl, h1, h2, rfl⟩ | ⟨mi, hf, h1, h2⟩ | ⟨mi, hf, h1⟩ | ⟨mi, hf, h1⟩ | ⟨kd, mi, N, r, h2, hf, hN, rfl, h3, h4, h5, h6, h7, h8, h9, rfl⟩
    · have z := List.all_eq_true.mp (mTab_ok _ _ hoc) _ (fnd_mem hf)
      unfold mOKl at z
      dsimp only at z
      exact q_objInit hx hb hml hown h2 (hts _ (gtbl_in (of_decide_eq_true z) rfl)) (hts _ (gtbl_in glb_ok.1 rfl)) (hts _ (gtbl_in glb_ok.2.1 rfl)) rfl (by omega) (by omega) hd k
    · exact absurd h1 (by decide)
    · obtain ⟨a, b, st2, -, -, z1, -⟩ := hMath_inv h1
      exact absurd z1 (by decide)
    · obtain ⟨a, b, st2, -, -, z1, -⟩ := hMath_inv h1
      exact absurd z1 (by decide)
    · exact q_inv1 X0 hf h3 hN hd h4 h5 h6 h7 h8 h9 k
  · rcases hInv_inv hs with ⟨a, mi, hf, rfl, rfl, h1, h2, rfl⟩ | ⟨mi, hf, h1, h2⟩ | ⟨mi, hf, h1⟩ | ⟨mi, hf, h1⟩ | ⟨kd, mi, N, r, h2, hf, hN, rfl, h3, h4, h5, h6, h7, h8, h9, rfl⟩
    · exact absurd h1 (by decide)
    · exact absurd h1 (by decide)
    · obtain ⟨a, b, st2, -, -, z1, -⟩ := hMath_inv h1
      exact absurd z1 (by decide)
    · obtain ⟨a, b, st2, -, -, z1, -⟩ := hMath_inv h1
      exact absurd z1 (by decide)
    · exact q_inv2 X0 hf h3 hN hd h4 h5 h6 h7 h8 h9 k
  · cases hs
end
