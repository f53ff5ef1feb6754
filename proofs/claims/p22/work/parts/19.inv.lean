/-! THE ENGINE, 7: what a step's answer says -/
theorem eNx_inv {b : Bool} {r S : eS} (h : eNx b r = some S) : b = true ∧ S = r := by
  cases b with
  | true => cases h; exact ⟨rfl, rfl⟩
  | false => cases h
theorem and_inv {a b : Bool} (h : (a && b) = true) : a = true ∧ b = true := by simpa using h
theorem tgt_inv {pc t : Nat} {off : Int} (h : tgtOf pc off = some t) : (pc : Int) + off = (t : Int) := by
  unfold tgtOf at h
  cases c : iLe 0 (Int.ofNat pc + off) with
  | true =>
    rw [c] at h
    cases h
    rw [iLe_ok] at c
    rw [Int.toNat_of_nonneg c]
    rfl
  | false => rw [c] at h; cases h
section
variable {len pc cl sl : Nat} {ls : List (Nat × eV)} {st : List eV} {h : List eC} {S : eS}
theorem hConst_inv {ln : Nat} {ok : Bool} {v : eV} (hs : hConst ln ok v len pc ls st h cl sl = some S) : len = ln ∧ ok = true ∧ S = (pc + ln, ls, v :: st, h, cl, sl) := by
  unfold hConst at hs
  obtain ⟨h1, rfl⟩ := eNx_inv hs
  obtain ⟨h1, h2⟩ := and_inv h1
  exact ⟨nbeq_t h1, h2, rfl⟩
theorem hLoadI_inv {i ln : Nat} (hs : hLoadI i ln len pc ls st h cl sl = some S) : ∃ q : eP, lkp ls i = some (eI q) ∧ len = ln ∧ S = (pc + ln, ls, eI q :: st, h, cl, sl) := by
  unfold hLoadI at hs
  split at hs
  · rename_i q hq
    obtain ⟨h1, rfl⟩ := eNx_inv hs
    exact ⟨_, hq, nbeq_t h1, rfl⟩
  · cases hs
theorem hLoadJ_inv {i ln : Nat} (hs : hLoadJ i ln len pc ls st h cl sl = some S) : ∃ q : eP, lkp ls i = some (eJ q) ∧ len = ln ∧ S = (pc + ln, ls, eJ q :: st, h, cl, sl) := by
  unfold hLoadJ at hs
  split at hs
  · rename_i q hq
    obtain ⟨h1, rfl⟩ := eNx_inv hs
    exact ⟨_, hq, nbeq_t h1, rfl⟩
  · cases hs
theorem hLoadA_inv {i ln : Nat} (hs : hLoadA i ln len pc ls st h cl sl = some S) : ∃ a : eV, lkp ls i = some a ∧ len = ln ∧ isR a = true ∧ S = (pc + ln, ls, a :: st, h, cl, sl) := by
  unfold hLoadA at hs
  split at hs
  · rename_i q hq
    obtain ⟨h1, rfl⟩ := eNx_inv hs
    obtain ⟨h1, h2⟩ := and_inv h1
    exact ⟨_, hq, nbeq_t h1, h2, rfl⟩
  · cases hs
theorem hStoreI_inv {nL i ln : Nat} (hs : hStoreI nL i ln len pc ls st h cl sl = some S) : ∃ (q : eP) (st2 : List eV), st = eI q :: st2 ∧ len = ln ∧ i < nL ∧ S = (pc + ln, (i, eI q) :: ls.filter (keepI i), st2, h, cl, sl) := by
  unfold hStoreI at hs
  split at hs
  · obtain ⟨h1, rfl⟩ := eNx_inv hs
    obtain ⟨h1, h2⟩ := and_inv h1
    exact ⟨_, _, rfl, nbeq_t h1, Nat.le_of_ble_eq_true h2, rfl⟩
  · cases hs
theorem hStoreJ_inv {nL i ln : Nat} (hs : hStoreJ nL i ln len pc ls st h cl sl = some S) : ∃ (q : eP) (st2 : List eV), st = eJ q :: st2 ∧ len = ln ∧ i + 1 < nL ∧ S = (pc + ln, (i, eJ q) :: ls.filter (keepJ i), st2, h, cl, sl) := by
  unfold hStoreJ at hs
  split at hs
  · obtain ⟨h1, rfl⟩ := eNx_inv hs
    obtain ⟨h1, h2⟩ := and_inv h1
    exact ⟨_, _, rfl, nbeq_t h1, Nat.le_of_ble_eq_true h2, rfl⟩
  · cases hs
theorem hStoreA_inv {nL i ln : Nat} (hs : hStoreA nL i ln len pc ls st h cl sl = some S) : ∃ (a : eV) (st2 : List eV), st = a :: st2 ∧ len = ln ∧ i < nL ∧ isR a = true ∧ S = (pc + ln, (i, a) :: ls.filter (keepI i), st2, h, cl, sl) := by
  unfold hStoreA at hs
  split at hs
  · obtain ⟨h1, rfl⟩ := eNx_inv hs
    obtain ⟨h1, h2⟩ := and_inv h1
    obtain ⟨h2, h3⟩ := and_inv h2
    exact ⟨_, _, rfl, nbeq_t h1, Nat.le_of_ble_eq_true h2, h3, rfl⟩
  · cases hs
theorem hInc_inv {nL i : Nat} {n : Int} (hs : hInc nL i n len pc ls st h cl sl = some S) : ∃ q : eP, lkp ls i = some (eI q) ∧ len = 3 ∧ i < nL ∧ (iLe (-32768) n && iLe n 32767) = true ∧ S = (pc + 3, (i, eI (eAdd q (n, n))) :: ls.filter (keepI i), st, h, cl, sl) := by
  unfold hInc at hs
  split at hs
  · rename_i q hq
    obtain ⟨h1, rfl⟩ := eNx_inv hs
    obtain ⟨h1, h2⟩ := and_inv h1
    obtain ⟨h2, h3⟩ := and_inv h2
    exact ⟨_, hq, nbeq_t h1, Nat.le_of_ble_eq_true h2, h3, rfl⟩
  · cases hs
theorem hBin_inv {f : eP → eP → eP} (hs : hBin f len pc ls st h cl sl = some S) : ∃ (a b : eP) (st2 : List eV), st = eI b :: eI a :: st2 ∧ len = 1 ∧ S = (pc + 1, ls, eI (f a b) :: st2, h, cl, sl) := by
  unfold hBin at hs
  split at hs
  · obtain ⟨h1, rfl⟩ := eNx_inv hs
    exact ⟨_, _, _, rfl, nbeq_t h1, rfl⟩
  · cases hs
theorem hLsh_inv (hs : hLsh len pc ls st h cl sl = some S) : ∃ (a b : eP) (st2 : List eV), st = eI b :: eJ a :: st2 ∧ len = 1 ∧ S = (pc + 1, ls, eJ (eLushr a) :: st2, h, cl, sl) := by
  unfold hLsh at hs
  split at hs
  · obtain ⟨h1, rfl⟩ := eNx_inv hs
    exact ⟨_, _, _, rfl, nbeq_t h1, rfl⟩
  · cases hs
theorem hLand_inv (hs : hLand len pc ls st h cl sl = some S) : ∃ (a b : eP) (st2 : List eV), st = eJ b :: eJ a :: st2 ∧ len = 1 ∧ S = (pc + 1, ls, eJ (eLand a b) :: st2, h, cl, sl) := by
  unfold hLand at hs
  split at hs
  · obtain ⟨h1, rfl⟩ := eNx_inv hs
    exact ⟨_, _, _, rfl, nbeq_t h1, rfl⟩
  · cases hs
theorem hCmp_inv (hs : hCmp len pc ls st h cl sl = some S) : ∃ (a b : eP) (st2 : List eV), st = eJ b :: eJ a :: st2 ∧ len = 1 ∧ S = (pc + 1, ls, eI (eCmp a b) :: st2, h, cl, sl) := by
  unfold hCmp at hs
  split at hs
  · obtain ⟨h1, rfl⟩ := eNx_inv hs
    exact ⟨_, _, _, rfl, nbeq_t h1, rfl⟩
  · cases hs
theorem hUn_inv {f : eP → eV} (hs : hUn f len pc ls st h cl sl = some S) : ∃ (a : eP) (st2 : List eV), st = eI a :: st2 ∧ len = 1 ∧ S = (pc + 1, ls, f a :: st2, h, cl, sl) := by
  unfold hUn at hs
  split at hs
  · obtain ⟨h1, rfl⟩ := eNx_inv hs
    exact ⟨_, _, rfl, nbeq_t h1, rfl⟩
  · cases hs
theorem not_inv {b : Bool} (h : (!b) = true) : b = false := by simpa using h
theorem hDup_inv (hs : hDup len pc ls st h cl sl = some S) : ∃ (a : eV) (st2 : List eV), st = a :: st2 ∧ len = 1 ∧ isJ a = false ∧ S = (pc + 1, ls, a :: a :: st2, h, cl, sl) := by
  unfold hDup at hs
  split at hs
  · obtain ⟨h1, rfl⟩ := eNx_inv hs
    obtain ⟨h1, h2⟩ := and_inv h1
    exact ⟨_, _, rfl, nbeq_t h1, not_inv h2, rfl⟩
  · cases hs
theorem hDup2_inv (hs : hDup2 len pc ls st h cl sl = some S) : ∃ (a b : eV) (st2 : List eV), st = a :: b :: st2 ∧ len = 1 ∧ isJ a = false ∧ isJ b = false ∧ S = (pc + 1, ls, a :: b :: a :: b :: st2, h, cl, sl) := by
  unfold hDup2 at hs
  split at hs
  · obtain ⟨h1, rfl⟩ := eNx_inv hs
    obtain ⟨h1, h2⟩ := and_inv h1
    obtain ⟨h2, h3⟩ := and_inv h2
    exact ⟨_, _, _, rfl, nbeq_t h1, not_inv h2, not_inv h3, rfl⟩
  · cases hs
theorem hPop_inv (hs : hPop len pc ls st h cl sl = some S) : ∃ (a : eV) (st2 : List eV), st = a :: st2 ∧ len = 1 ∧ isJ a = false ∧ S = (pc + 1, ls, st2, h, cl, sl) := by
  unfold hPop at hs
  split at hs
  · obtain ⟨h1, rfl⟩ := eNx_inv hs
    obtain ⟨h1, h2⟩ := and_inv h1
    exact ⟨_, _, rfl, nbeq_t h1, not_inv h2, rfl⟩
  · cases hs
theorem hGoto_inv {off : Int} (hs : hGoto off len pc ls st h cl sl = some S) : ∃ t : Nat, (pc : Int) + off = (t : Int) ∧ len = 3 ∧ S = (t, ls, st, h, cl, sl) := by
  unfold hGoto at hs
  split at hs
  · rename_i t ht
    obtain ⟨h1, rfl⟩ := eNx_inv hs
    exact ⟨_, tgt_inv ht, nbeq_t h1, rfl⟩
  · cases hs
theorem hBr_inv {r : Option Bool} {off : Int} (hs : hBr r off len pc ls st h cl sl = some S) : ∃ (b : Bool) (t : Nat), r = some b ∧ (pc : Int) + off = (t : Int) ∧ len = 3 ∧ S = ((match b with
    | true => t
    | false => pc + 3), ls, st, h, cl, sl) := by
  unfold hBr at hs
  split at hs
  · rename_i b
    split at hs
    · rename_i t ht
      obtain ⟨h1, rfl⟩ := eNx_inv hs
      exact ⟨b, t, rfl, tgt_inv ht, nbeq_t h1, rfl⟩
    · cases hs
  · cases hs
theorem hIf_inv {k : ClassFile.Cond} {off : Int} (hs : hIf k off len pc ls st h cl sl = some S) : ∃ (a : eP) (st2 : List eV) (b : Bool) (t : Nat), st = eI a :: st2 ∧ dC k a (0, 0) = some b ∧ (pc : Int) + off = (t : Int) ∧ len = 3 ∧ S = ((match b with
    | true => t
    | false => pc + 3), ls, st2, h, cl, sl) := by
  unfold hIf at hs
  split at hs
  · obtain ⟨b, t, h1, h2, h3, h4⟩ := hBr_inv hs
    exact ⟨_, _, b, t, rfl, h1, h2, h3, h4⟩
  · cases hs
theorem hIc_inv {k : ClassFile.Cond} {off : Int} (hs : hIc k off len pc ls st h cl sl = some S) : ∃ (a a2 : eP) (st2 : List eV) (b : Bool) (t : Nat), st = eI a2 :: eI a :: st2 ∧ dC k a a2 = some b ∧ (pc : Int) + off = (t : Int) ∧ len = 3 ∧ S = ((match b with
    | true => t
    | false => pc + 3), ls, st2, h, cl, sl) := by
  unfold hIc at hs
  split at hs
  · obtain ⟨b, t, h1, h2, h3, h4⟩ := hBr_inv hs
    exact ⟨_, _, _, b, t, rfl, h1, h2, h3, h4⟩
  · cases hs
theorem hTsw_inv {d lo hi : Int} {offs : Array Int} (hs : hTsw d lo hi offs pc ls st h cl sl = some S) : ∃ (a : eP) (st2 : List eV) (off : Int) (t : Nat), st = eI a :: st2 ∧ swO d lo hi offs a = some off ∧ (pc : Int) + off = (t : Int) ∧ S = (t, ls, st2, h, cl, sl) := by
  unfold hTsw at hs
  split at hs
  · split at hs
    · rename_i off ho
      split at hs
      · rename_i t ht
        cases hs
        exact ⟨_, _, off, t, rfl, ho, tgt_inv ht, rfl⟩
      · cases hs
    · cases hs
  · cases hs
theorem hLsw_inv {d : Int} {ps : Array (Int × Int)} (hs : hLsw d ps pc ls st h cl sl = some S) : ∃ (a : eP) (st2 : List eV) (off : Int) (t : Nat), st = eI a :: st2 ∧ (ps.toList.zip (ps.toList.drop 1)).all (fun (a, next) => a.1 < next.1) = true ∧ lsO ps.toList d a = some off ∧ (pc : Int) + off = (t : Int) ∧ S = (t, ls, st2, h, cl, sl) := by
  unfold hLsw at hs
  split at hs
  · split at hs
    · rename_i hp
      split at hs
      · rename_i off ho
        split at hs
        · rename_i t ht
          cases hs
          exact ⟨_, _, off, t, rfl, hp, ho, tgt_inv ht, rfl⟩
        · cases hs
      · cases hs
    · cases hs
  · cases hs
theorem hGet_inv {oc idx : Nat} (hs : hGet oc idx len pc ls st h cl sl = some S) :
    (∃ (kd ci fi k : Nat) (st2 : List eV) (fs : List eV) (a : eV), fnd (fTab.getD oc []) idx = some (kd, ci, fi) ∧ st = eR k :: st2 ∧ h[k]? = some (.inl (ci, fs)) ∧ fs[fi]? = some a ∧ len = 3 ∧ kd ≤ 1 ∧ S = (pc + 3, ls, a :: st2, h, cl, sl)) ∨
    (∃ (ci fi n i : Nat) (st2 : List eV) (a : eV), fnd (fTab.getD oc []) idx = some (2, ci, fi) ∧ st = eO n :: st2 ∧ n = 2 * i + 1 ∧ i < nS ∧ len = 3 ∧ ((ci = 1 ∧ a = eO (n + 1)) ∨ (ci = 2 ∧ a = eI (0, 0))) ∧ S = (pc + 3, ls, a :: st2, h, cl, sl)) := by
  unfold hGet at hs
  split at hs
  · rename_i kd ci fi hf
    split at hs
    · split at hs
      · rename_i cj fs hk
        split at hs
        · rename_i a ha
          obtain ⟨y1, rfl⟩ := eNx_inv hs
          obtain ⟨y2, y3⟩ := and_inv y1
          obtain ⟨y4, y5⟩ := and_inv y3
          have e := nbeq_t y4
          subst e
          exact Or.inl ⟨kd, ci, fi, _, _, fs, a, hf, rfl, hk, ha, nbeq_t y2, Nat.le_of_ble_eq_true y5, rfl⟩
        · cases hs
      · cases hs
    · rename_i n st2
      split at hs
      · split at hs
        · obtain ⟨y2, rfl⟩ := eNx_inv hs
          obtain ⟨y6, y7⟩ := and_inv y2
          obtain ⟨y8, y9⟩ := and_inv y7
          exact Or.inr ⟨_, fi, n, n / 2, st2, _, hf, rfl, nbeq_t y8, Nat.le_of_ble_eq_true y9, nbeq_t y6, Or.inl ⟨rfl, rfl⟩, rfl⟩
        · obtain ⟨y6, rfl⟩ := eNx_inv hs
          obtain ⟨y10, y11⟩ := and_inv y6
          obtain ⟨y12, y13⟩ := and_inv y11
          exact Or.inr ⟨_, fi, n, n / 2, st2, _, hf, rfl, nbeq_t y12, Nat.le_of_ble_eq_true y13, nbeq_t y10, Or.inr ⟨rfl, rfl⟩, rfl⟩
        · cases hs
      · cases hs
    · cases hs
  · cases hs
theorem or_inv {a b : Bool} (h : (a || b) = true) : a = true ∨ b = true := by simpa using h
theorem hPut_inv {M : eM} {idx : Nat} (hs : hPut M idx len pc ls st h cl sl = some S) :
    ∃ (kd ci fi k : Nat) (st2 : List eV) (fs : List eV) (a a0 : eV) (C : String) (T : u_T) (N : Nat), fnd (fTab.getD (m_o M) []) idx = some (kd, ci, fi) ∧ st = a :: eR k :: st2 ∧ h[k]? = some (.inl (ci, fs)) ∧ fs[fi]? = some a0 ∧ classes[ci]? = some (C, T, N) ∧ len = 3 ∧ okT ((tyls.getD ci []).getD fi .int) a = true ∧ (((T fi).2.2.2 = false ∧ kd ≤ 1) ∨ ((T fi).2.2.2 = true ∧ kd = 0 ∧ ci = m_o M ∧ isInit M = true)) ∧ S = (pc + 3, ls, st2, h.set k (.inl (ci, fs.set fi a)), cl, sl) := by
  unfold hPut at hs
  split at hs
  · rename_i kd ci fi hf
    split at hs
    · split at hs
      · rename_i cj fs hk
        split at hs
        · rename_i a0 C T N ha hc
          obtain ⟨y1, rfl⟩ := eNx_inv hs
          obtain ⟨y2, y3⟩ := and_inv y1
          obtain ⟨y4, y5⟩ := and_inv y3
          obtain ⟨y6, y7⟩ := and_inv y5
          have e := nbeq_t y4
          subst e
          refine ⟨kd, ci, fi, _, _, fs, _, a0, C, T, N, hf, rfl, hk, ha, hc, nbeq_t y2, y6, ?_, rfl⟩
          rcases or_inv y7 with y7 | y7
          · obtain ⟨h5, h6⟩ := and_inv y7
            exact Or.inl ⟨not_inv h5, Nat.le_of_ble_eq_true h6⟩
          · obtain ⟨h5, h6⟩ := and_inv y7
            obtain ⟨y8, y9⟩ := and_inv h6
            obtain ⟨y10, y11⟩ := and_inv y9
            exact Or.inr ⟨h5, nbeq_t y8, nbeq_t y10, y11⟩
        · cases hs
      · cases hs
    · cases hs
  · cases hs
theorem hGetS_inv {oc idx : Nat} (hs : hGetS oc idx len pc ls st h cl sl = some S) : ∃ fi : Nat, fnd (fTab.getD oc []) idx = some (2, 0, fi) ∧ len = 3 ∧ S = (pc + 3, ls, eI (1, 1) :: st, h, cl, sl) := by
  unfold hGetS at hs
  split at hs
  · rename_i fi hf
    obtain ⟨h1, rfl⟩ := eNx_inv hs
    exact ⟨fi, hf, nbeq_t h1, rfl⟩
  · cases hs
theorem hLdc_inv {oc idx : Nat} (hs : hLdc oc idx len pc ls st h cl sl = some S) : ∃ (tx : String) (i : Nat), fnd (sTab.getD oc []) idx = some (tx, i) ∧ len = 2 ∧ S = (pc + 2, ls, eO (2 * i + 1) :: st, h, cl, sl) := by
  unfold hLdc at hs
  split at hs
  · rename_i tx i hf
    obtain ⟨h1, rfl⟩ := eNx_inv hs
    exact ⟨tx, i, hf, nbeq_t h1, rfl⟩
  · cases hs
theorem hLdc2_inv {oc idx : Nat} (hs : hLdc2 oc idx len pc ls st h cl sl = some S) : ∃ n : Int, fnd (jTab.getD oc []) idx = some n ∧ len = 3 ∧ S = (pc + 3, ls, eJ (n, n) :: st, h, cl, sl) := by
  unfold hLdc2 at hs
  split at hs
  · rename_i n hf
    obtain ⟨h1, rfl⟩ := eNx_inv hs
    exact ⟨n, hf, nbeq_t h1, rfl⟩
  · cases hs
theorem hNew_inv {M : eM} {idx : Nat} (hs : hNew M idx len pc ls st h cl sl = some S) : ∃ (ci : Nat) (C : String) (T : u_T) (N : Nat), fnd (cTab.getD (m_o M) []) idx = some ci ∧ classes[ci]? = some (C, T, N) ∧ len = 3 ∧ cl + 1 ≤ m_c M ∧ sl + N ≤ m_s M ∧ (tyls.getD ci []).all okD = true ∧ S = (pc + 3, ls, eR h.length :: st, h ++ [.inl (ci, (List.range N).map (fun k => dV ((tyls.getD ci []).getD k .int)))], cl + 1, sl + N) := by
  unfold hNew at hs
  split at hs
  · rename_i ci hf
    split at hs
    · rename_i C T N hc
      obtain ⟨h1, rfl⟩ := eNx_inv hs
      obtain ⟨h1, h2⟩ := and_inv h1
      obtain ⟨h2, h3⟩ := and_inv h2
      obtain ⟨h3, h4⟩ := and_inv h3
      exact ⟨ci, C, T, N, hf, hc, nbeq_t h1, Nat.le_of_ble_eq_true h2, Nat.le_of_ble_eq_true h3, h4, rfl⟩
    · cases hs
  · cases hs
theorem hNewa_inv {M : eM} {t : ArrayType} (hs : hNewa M t len pc ls st h cl sl = some S) : ∃ (kd : Nat) (a : eP) (st2 : List eV), aK t = some kd ∧ st = eI a :: st2 ∧ len = 2 ∧ onePos a = true ∧ a.1.toNat < 50000000 ∧ cl + 1 ≤ m_c M ∧ sl + a.1.toNat ≤ m_s M ∧ S = (pc + 2, ls, eR h.length :: st2, h ++ [.inr (.inl (kd, a.1.toNat, zA))], cl + 1, sl + a.1.toNat) := by
  unfold hNewa at hs
  split at hs
  · rename_i kd hk
    split at hs
    · rename_i a st2
      obtain ⟨h1, rfl⟩ := eNx_inv hs
      obtain ⟨h1, h2⟩ := and_inv h1
      obtain ⟨h2, h3⟩ := and_inv h2
      obtain ⟨h3, h4⟩ := and_inv h3
      obtain ⟨h4, h5⟩ := and_inv h4
      exact ⟨kd, a, st2, hk, rfl, nbeq_t h1, h2, Nat.le_of_ble_eq_true h3, Nat.le_of_ble_eq_true h4, Nat.le_of_ble_eq_true h5, rfl⟩
    · cases hs
  · cases hs
theorem hNewq_inv {M : eM} {idx : Nat} (hs : hNewq M idx len pc ls st h cl sl = some S) : ∃ (ci : Nat) (a : eP) (st2 : List eV), fnd (cTab.getD (m_o M) []) idx = some ci ∧ st = eI a :: st2 ∧ len = 3 ∧ ci ∈ aoL ∧ onePos a = true ∧ a.1.toNat < 50000000 ∧ cl + 1 ≤ m_c M ∧ sl + a.1.toNat ≤ m_s M ∧ S = (pc + 3, ls, eR h.length :: st2, h ++ [.inr (.inr (ci, a.1.toNat, List.replicate a.1.toNat none))], cl + 1, sl + a.1.toNat) := by
  unfold hNewq at hs
  split at hs
  · rename_i ci hk
    split at hs
    · rename_i a st2
      obtain ⟨h1, rfl⟩ := eNx_inv hs
      obtain ⟨h1, h2⟩ := and_inv h1
      obtain ⟨h2, h3⟩ := and_inv h2
      obtain ⟨h3, h4⟩ := and_inv h3
      obtain ⟨h4, h5⟩ := and_inv h4
      obtain ⟨h5, h6⟩ := and_inv h5
      exact ⟨ci, a, st2, hk, rfl, nbeq_t h1, List.contains_iff_mem.mp h2, h3, Nat.le_of_ble_eq_true h4, Nat.le_of_ble_eq_true h5, Nat.le_of_ble_eq_true h6, rfl⟩
    · cases hs
  · cases hs
theorem hLen_inv {sc : Option (List eP)} (hs : hLen sc len pc ls st h cl sl = some S) :
    (∃ (k kd n : Nat) (q : eA) (st2 : List eV), st = eR k :: st2 ∧ h[k]? = some (.inr (.inl (kd, n, q))) ∧ len = 1 ∧ S = (pc + 1, ls, eI (Int.ofNat n, Int.ofNat n) :: st2, h, cl, sl)) ∨
    (∃ (bx : List eP) (st2 : List eV), st = eO 0 :: st2 ∧ sc = some bx ∧ len = 1 ∧ S = (pc + 1, ls, eI (Int.ofNat bx.length, Int.ofNat bx.length) :: st2, h, cl, sl)) ∨
    (∃ (i : Nat) (st2 : List eV), st = eO (2 * i + 2) :: st2 ∧ i < nS ∧ len = 1 ∧ S = (pc + 1, ls, eI (Int.ofNat (lenS.getD i 0), Int.ofNat (lenS.getD i 0)) :: st2, h, cl, sl)) := by
  unfold hLen at hs
  split at hs
  · split at hs
    · rename_i n q hk
      obtain ⟨h1, rfl⟩ := eNx_inv hs
      exact Or.inl ⟨_, _, _, _, _, rfl, hk, nbeq_t h1, rfl⟩
    · cases hs
  · split at hs
    · obtain ⟨h1, rfl⟩ := eNx_inv hs
      exact Or.inr (Or.inl ⟨_, _, rfl, rfl, nbeq_t h1, rfl⟩)
    · cases hs
  · rename_i n st2
    obtain ⟨h1, rfl⟩ := eNx_inv hs
    obtain ⟨h1, h2⟩ := and_inv h1
    obtain ⟨h2, h3⟩ := and_inv h2
    exact Or.inr (Or.inr ⟨n / 2, st2, by rw [← nbeq_t h2], Nat.le_of_ble_eq_true h3, nbeq_t h1, rfl⟩)
  · cases hs
theorem hIald_inv {sc : Option (List eP)} (hs : hIald sc len pc ls st h cl sl = some S) :
    (∃ (k n : Nat) (q : eA) (i : eP) (st2 : List eV), st = eI i :: eR k :: st2 ∧ h[k]? = some (.inr (.inl (0, n, q))) ∧ len = 1 ∧ inR i n = true ∧ S = (pc + 1, ls, eI (aGet q i) :: st2, h, cl, sl)) ∨
    (∃ (bx : List eP) (i q : eP) (st2 : List eV), st = eI i :: eO 0 :: st2 ∧ sc = some bx ∧ bx[i.1.toNat]? = some q ∧ len = 1 ∧ onePos i = true ∧ S = (pc + 1, ls, eI q :: st2, h, cl, sl)) := by
  unfold hIald at hs
  split at hs
  · split at hs
    · rename_i n q hk
      obtain ⟨h1, rfl⟩ := eNx_inv hs
      obtain ⟨h1, h2⟩ := and_inv h1
      exact Or.inl ⟨_, _, _, _, _, rfl, hk, nbeq_t h1, h2, rfl⟩
    · cases hs
  · split at hs
    · split at hs
      · rename_i q hq
        obtain ⟨h1, rfl⟩ := eNx_inv hs
        obtain ⟨h1, h2⟩ := and_inv h1
        exact Or.inr ⟨_, _, _, _, rfl, rfl, hq, nbeq_t h1, h2, rfl⟩
      · cases hs
    · cases hs
  · cases hs
theorem hBald_inv (hs : hBald len pc ls st h cl sl = some S) : ∃ (k n : Nat) (q : eA) (i : eP) (st2 : List eV), st = eI i :: eR k :: st2 ∧ (h[k]? = some (.inr (.inl (1, n, q))) ∨ h[k]? = some (.inr (.inl (2, n, q)))) ∧ len = 1 ∧ inR i n = true ∧ S = (pc + 1, ls, eI (aGet q i) :: st2, h, cl, sl) := by
  unfold hBald at hs
  split at hs
  · split at hs
    · rename_i n q hk
      obtain ⟨h1, rfl⟩ := eNx_inv hs
      obtain ⟨h1, h2⟩ := and_inv h1
      exact ⟨_, _, _, _, _, rfl, Or.inl hk, nbeq_t h1, h2, rfl⟩
    · rename_i n q hk
      obtain ⟨h1, rfl⟩ := eNx_inv hs
      obtain ⟨h1, h2⟩ := and_inv h1
      exact ⟨_, _, _, _, _, rfl, Or.inr hk, nbeq_t h1, h2, rfl⟩
    · cases hs
  · cases hs
theorem hLald_inv (hs : hLald len pc ls st h cl sl = some S) : ∃ (k n : Nat) (q : eA) (i : eP) (st2 : List eV), st = eI i :: eR k :: st2 ∧ h[k]? = some (.inr (.inl (3, n, q))) ∧ len = 1 ∧ inR i n = true ∧ S = (pc + 1, ls, eJ (aGet q i) :: st2, h, cl, sl) := by
  unfold hLald at hs
  split at hs
  · split at hs
    · rename_i n q hk
      obtain ⟨h1, rfl⟩ := eNx_inv hs
      obtain ⟨h1, h2⟩ := and_inv h1
      exact ⟨_, _, _, _, _, rfl, hk, nbeq_t h1, h2, rfl⟩
    · cases hs
  · cases hs
theorem hAald_inv (hs : hAald len pc ls st h cl sl = some S) : ∃ (k ci n kr : Nat) (rs : List (Option Nat)) (i : eP) (st2 : List eV), st = eI i :: eR k :: st2 ∧ h[k]? = some (.inr (.inr (ci, n, rs))) ∧ rs.getD i.1.toNat none = some kr ∧ len = 1 ∧ onePos i = true ∧ inR i n = true ∧ S = (pc + 1, ls, eR kr :: st2, h, cl, sl) := by
  unfold hAald at hs
  split at hs
  · split at hs
    · rename_i ci n rs hk
      split at hs
      · rename_i kr hr
        obtain ⟨h1, rfl⟩ := eNx_inv hs
        obtain ⟨h1, h2⟩ := and_inv h1
        obtain ⟨h2, h3⟩ := and_inv h2
        exact ⟨_, _, _, _, _, _, _, rfl, hk, hr, nbeq_t h1, h2, h3, rfl⟩
      · cases hs
    · cases hs
  · cases hs
theorem hIast_inv (hs : hIast len pc ls st h cl sl = some S) : ∃ (k n : Nat) (q : eA) (i v : eP) (st2 : List eV), st = eI v :: eI i :: eR k :: st2 ∧ h[k]? = some (.inr (.inl (0, n, q))) ∧ len = 1 ∧ inR i n = true ∧ S = (pc + 1, ls, st2, h.set k (.inr (.inl (0, n, aSet q i v))), cl, sl) := by
  unfold hIast at hs
  split at hs
  · split at hs
    · rename_i n q hk
      obtain ⟨h1, rfl⟩ := eNx_inv hs
      obtain ⟨h1, h2⟩ := and_inv h1
      exact ⟨_, _, _, _, _, _, rfl, hk, nbeq_t h1, h2, rfl⟩
    · cases hs
  · cases hs
theorem hBast_inv (hs : hBast len pc ls st h cl sl = some S) : ∃ (k n : Nat) (q : eA) (i v : eP) (st2 : List eV), st = eI v :: eI i :: eR k :: st2 ∧ len = 1 ∧ inR i n = true ∧ ((h[k]? = some (.inr (.inl (1, n, q))) ∧ S = (pc + 1, ls, st2, h.set k (.inr (.inl (1, n, aSet q i (eB v)))), cl, sl)) ∨ (h[k]? = some (.inr (.inl (2, n, q))) ∧ S = (pc + 1, ls, st2, h.set k (.inr (.inl (2, n, aSet q i (eZ v)))), cl, sl))) := by
  unfold hBast at hs
  split at hs
  · split at hs
    · rename_i n q hk
      obtain ⟨h1, rfl⟩ := eNx_inv hs
      obtain ⟨h1, h2⟩ := and_inv h1
      exact ⟨_, _, _, _, _, _, rfl, nbeq_t h1, h2, Or.inl ⟨hk, rfl⟩⟩
    · rename_i n q hk
      obtain ⟨h1, rfl⟩ := eNx_inv hs
      obtain ⟨h1, h2⟩ := and_inv h1
      exact ⟨_, _, _, _, _, _, rfl, nbeq_t h1, h2, Or.inr ⟨hk, rfl⟩⟩
    · cases hs
  · cases hs
theorem hLast_inv (hs : hLast len pc ls st h cl sl = some S) : ∃ (k n : Nat) (q : eA) (i v : eP) (st2 : List eV), st = eJ v :: eI i :: eR k :: st2 ∧ h[k]? = some (.inr (.inl (3, n, q))) ∧ len = 1 ∧ inR i n = true ∧ S = (pc + 1, ls, st2, h.set k (.inr (.inl (3, n, aSet q i v))), cl, sl) := by
  unfold hLast at hs
  split at hs
  · split at hs
    · rename_i n q hk
      obtain ⟨h1, rfl⟩ := eNx_inv hs
      obtain ⟨h1, h2⟩ := and_inv h1
      exact ⟨_, _, _, _, _, _, rfl, hk, nbeq_t h1, h2, rfl⟩
    · cases hs
  · cases hs
theorem hAast_inv (hs : hAast len pc ls st h cl sl = some S) : ∃ (k kr ci n : Nat) (rs : List (Option Nat)) (fs : List eV) (i : eP) (st2 : List eV), st = eR kr :: eI i :: eR k :: st2 ∧ h[k]? = some (.inr (.inr (ci, n, rs))) ∧ h[kr]? = some (.inl (ci, fs)) ∧ len = 1 ∧ rs.length = n ∧ onePos i = true ∧ inR i n = true ∧ S = (pc + 1, ls, st2, h.set k (.inr (.inr (ci, n, rs.set i.1.toNat (some kr)))), cl, sl) := by
  unfold hAast at hs
  split at hs
  · split at hs
    · rename_i ci n rs cj fs hk hr
      obtain ⟨y1, rfl⟩ := eNx_inv hs
      obtain ⟨y2, y3⟩ := and_inv y1
      obtain ⟨y4, y5⟩ := and_inv y3
      obtain ⟨y6, y7⟩ := and_inv y5
      obtain ⟨y8, y9⟩ := and_inv y7
      have e := nbeq_t y4
      subst e
      exact ⟨_, _, _, _, _, _, _, _, rfl, hk, hr, nbeq_t y2, nbeq_t y6, y8, y9, rfl⟩
    · cases hs
  · cases hs
theorem hCpy_inv (hs : hCpy len pc ls st h cl sl = some S) : ∃ (n dp sp : eP) (kd ks k0 n0 n1 : Nat) (q0 q1 : eA), st = [eI n, eI dp, eR kd, eI sp, eR ks] ∧ h[ks]? = some (.inr (.inl (k0, n0, q0))) ∧ h[kd]? = some (.inr (.inl (k0, n1, q1))) ∧ len = 3 ∧ (k0 = 0 ∨ k0 = 3) ∧ onePos n = true ∧ onePos dp = true ∧ onePos sp = true ∧ sp.1.toNat + n.1.toNat ≤ n0 ∧ dp.1.toNat + n.1.toNat ≤ n1 ∧ S = (pc + 3, ls, [], h.set kd (.inr (.inl (k0, n1, cpy1 n.1.toNat q0 sp.1.toNat dp.1.toNat q1))), cl, sl) := by
  unfold hCpy at hs
  split at hs
  · split at hs
    · rename_i k0 n0 q0 k1 n1 q1 h0 h9
      obtain ⟨y1, rfl⟩ := eNx_inv hs
      obtain ⟨y2, y3⟩ := and_inv y1
      obtain ⟨y4, y5⟩ := and_inv y3
      obtain ⟨y6, y7⟩ := and_inv y5
      obtain ⟨y8, y9⟩ := and_inv y7
      obtain ⟨y10, y11⟩ := and_inv y9
      obtain ⟨y12, y13⟩ := and_inv y11
      obtain ⟨y14, y15⟩ := and_inv y13
      have e := nbeq_t y4
      subst e
      refine ⟨_, _, _, _, _, _, _, _, _, _, rfl, h0, h9, nbeq_t y2, ?_, y8, y10, y12, Nat.le_of_ble_eq_true y14, Nat.le_of_ble_eq_true y15, rfl⟩
      rcases or_inv y6 with z | z
      · exact Or.inl (nbeq_t z)
      · exact Or.inr (nbeq_t z)
    · cases hs
  · cases hs
theorem hMath_inv {f : eP → eP → eP} {M : eM} {k : Nat} (hs : hMath f M k len pc ls st h cl sl = some S) : ∃ (a b : eP) (st2 : List eV), st = eI b :: eI a :: st2 ∧ len = 3 ∧ k = 0 ∧ catS st2 ≤ 8 ∧ cl ≤ m_c M ∧ sl ≤ m_s M ∧ S = (pc + 3, ls, eI (f a b) :: st2, h, cl, sl) := by
  unfold hMath at hs
  split at hs
  · obtain ⟨h1, rfl⟩ := eNx_inv hs
    obtain ⟨h1, h2⟩ := and_inv h1
    obtain ⟨h2, h3⟩ := and_inv h2
    obtain ⟨h3, h4⟩ := and_inv h3
    obtain ⟨h4, h5⟩ := and_inv h4
    exact ⟨_, _, _, rfl, nbeq_t h1, nbeq_t h2, Nat.le_of_ble_eq_true h3, Nat.le_of_ble_eq_true h4, Nat.le_of_ble_eq_true h5, rfl⟩
  · cases hs
theorem hInv_inv {call : eCl} {M : eM} {k idx : Nat} (hs : hInv call M k idx len pc ls st h cl sl = some S) :
    (∃ (a : eV) (mi : Nat), fnd (mTab.getD (m_o M) []) idx = some (6, mi) ∧ st = [a] ∧ len = 3 ∧ k = 1 ∧ isR a = true ∧ S = (pc + 3, ls, [], h, cl, sl)) ∨
    (∃ mi : Nat, fnd (mTab.getD (m_o M) []) idx = some (7, mi) ∧ k = 0 ∧ hCpy len pc ls st h cl sl = some S) ∨
    (∃ mi : Nat, fnd (mTab.getD (m_o M) []) idx = some (8, mi) ∧ hMath eMax M k len pc ls st h cl sl = some S) ∨
    (∃ mi : Nat, fnd (mTab.getD (m_o M) []) idx = some (9, mi) ∧ hMath eMin M k len pc ls st h cl sl = some S) ∨
    (∃ (kd mi : Nat) (N : eM) (r : Option eV) (h2 : List eC), fnd (mTab.getD (m_o M) []) idx = some (kd, mi) ∧ eMT[mi]? = some N ∧ len = 3 ∧ (kd = k ∨ kd = k + 3) ∧ rc k + m_n N ≤ st.length ∧ catS (st.drop (rc k + m_n N)) ≤ 8 ∧ cl + m_c N ≤ m_c M ∧ sl + m_s N ≤ m_s M ∧ recK k h (m_o N) (st.take (rc k + m_n N)).reverse = true ∧ call mi (st.take (rc k + m_n N)).reverse h = some (r, h2) ∧ S = (pc + 3, ls, r.toList ++ st.drop (rc k + m_n N), h2, cl + m_c N, sl + m_s N)) := by
  unfold hInv at hs
  split at hs
  · rename_i kd mi hf
    split at hs
    · rename_i h6
      have e := nbeq_t h6
      subst e
      split at hs
      · obtain ⟨h1, rfl⟩ := eNx_inv hs
        obtain ⟨h1, h2⟩ := and_inv h1
        obtain ⟨h2, h3⟩ := and_inv h2
        exact Or.inl ⟨_, _, hf, rfl, nbeq_t h1, nbeq_t h2, h3, rfl⟩
      · cases hs
    · split at hs
      · rename_i h7
        have e := nbeq_t h7
        subst e
        split at hs
        · rename_i h0
          exact Or.inr (Or.inl ⟨mi, hf, nbeq_t h0, hs⟩)
        · cases hs
      · split at hs
        · rename_i h8
          have e := nbeq_t h8
          subst e
          exact Or.inr (Or.inr (Or.inl ⟨mi, hf, hs⟩))
        · split at hs
          · rename_i h9
            have e := nbeq_t h9
            subst e
            exact Or.inr (Or.inr (Or.inr (Or.inl ⟨mi, hf, hs⟩)))
          · refine Or.inr (Or.inr (Or.inr (Or.inr ?_)))
            split at hs
            · rename_i N hN
              split at hs
              · rename_i h1
                obtain ⟨h1, h2⟩ := and_inv h1
                obtain ⟨h2, h3⟩ := and_inv h2
                obtain ⟨h3, h4⟩ := and_inv h3
                obtain ⟨h4, h5⟩ := and_inv h4
                obtain ⟨h5, h8⟩ := and_inv h5
                obtain ⟨h8, h9⟩ := and_inv h8
                have hkd : kd = k ∨ kd = k + 3 := by
                  rcases or_inv h2 with z | z
                  · exact Or.inl (nbeq_t z)
                  · exact Or.inr (nbeq_t z)
                split at hs
                · rename_i v h2 hc
                  cases hs
                  exact ⟨kd, mi, N, some v, h2, hf, hN, nbeq_t h1, hkd, Nat.le_of_ble_eq_true h3, Nat.le_of_ble_eq_true h4, Nat.le_of_ble_eq_true h5, Nat.le_of_ble_eq_true h8, h9, hc, rfl⟩
                · rename_i h2 hc
                  cases hs
                  exact ⟨kd, mi, N, none, h2, hf, hN, nbeq_t h1, hkd, Nat.le_of_ble_eq_true h3, Nat.le_of_ble_eq_true h4, Nat.le_of_ble_eq_true h5, Nat.le_of_ble_eq_true h8, h9, hc, rfl⟩
                · cases hs
              · cases hs
            · cases hs
  · cases hs
end
