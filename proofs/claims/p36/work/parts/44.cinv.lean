/-! RUNS, 5: what a step's answer says (printed by wip/engine2/gen43.py) -/
section
variable {len pc : Nat} {ls : List (Nat × cV)} {st : List cV} {h : List cC} {S : cS}
theorem kConst_inv {ln : Nat} {a : cV} (hs : kConst ln a len pc ls st h = some S) : len = ln ∧ S = (pc + ln, ls, a :: st, h) := by
  unfold kConst at hs
  obtain ⟨h1, rfl⟩ := cNx_inv hs
  exact ⟨nbeq_t h1, rfl⟩
theorem kLoadI_inv {i ln : Nat} (hs : kLoadI i ln len pc ls st h = some S) : ∃ x : Int32, clk ls i = some (cI x) ∧ len = ln ∧ S = (pc + ln, ls, cI x :: st, h) := by
  unfold kLoadI at hs
  split at hs
  · rename_i x hq
    obtain ⟨h1, rfl⟩ := cNx_inv hs
    exact ⟨x, hq, nbeq_t h1, rfl⟩
  · cases hs
theorem kLoadJ_inv {i ln : Nat} (hs : kLoadJ i ln len pc ls st h = some S) : ∃ x : Int64, clk ls i = some (cJ x) ∧ len = ln ∧ S = (pc + ln, ls, cJ x :: st, h) := by
  unfold kLoadJ at hs
  split at hs
  · rename_i x hq
    obtain ⟨h1, rfl⟩ := cNx_inv hs
    exact ⟨x, hq, nbeq_t h1, rfl⟩
  · cases hs
theorem isRf_inv {a : cV} (h : isRf a = true) : (∃ k : Nat, a = cR k) ∨ ∃ n : Nat, a = cO n ∧ Nat.beq n 99 = false := by
  match a, h with
  | .inl (some k), _ => exact Or.inl ⟨k, rfl⟩
  | .inr (.inr (.inr n)), h => exact Or.inr ⟨n, rfl, not_inv h⟩
theorem kLoadA_inv {i ln : Nat} (hs : kLoadA i ln len pc ls st h = some S) : ∃ a : cV, clk ls i = some a ∧ len = ln ∧ isRf a = true ∧ S = (pc + ln, ls, a :: st, h) := by
  unfold kLoadA at hs
  split at hs
  · rename_i a hq
    obtain ⟨h1, rfl⟩ := cNx_inv hs
    obtain ⟨h1, h2⟩ := and_inv h1
    exact ⟨a, hq, nbeq_t h1, h2, rfl⟩
  · cases hs
theorem kStoreI_inv {nL i ln : Nat} (hs : kStoreI nL i ln len pc ls st h = some S) : ∃ (x : Int32) (st2 : List cV), st = cI x :: st2 ∧ len = ln ∧ i < nL ∧ S = (pc + ln, (i, cI x) :: ls.filter (ckI i), st2, h) := by
  unfold kStoreI at hs
  split at hs
  · obtain ⟨h1, rfl⟩ := cNx_inv hs
    obtain ⟨h1, h2⟩ := and_inv h1
    exact ⟨_, _, rfl, nbeq_t h1, Nat.le_of_ble_eq_true h2, rfl⟩
  · cases hs
theorem kStoreJ_inv {nL i ln : Nat} (hs : kStoreJ nL i ln len pc ls st h = some S) : ∃ (x : Int64) (st2 : List cV), st = cJ x :: st2 ∧ len = ln ∧ i + 1 < nL ∧ S = (pc + ln, (i, cJ x) :: ls.filter (ckJ i), st2, h) := by
  unfold kStoreJ at hs
  split at hs
  · obtain ⟨h1, rfl⟩ := cNx_inv hs
    obtain ⟨h1, h2⟩ := and_inv h1
    exact ⟨_, _, rfl, nbeq_t h1, Nat.le_of_ble_eq_true h2, rfl⟩
  · cases hs
theorem kStoreA_inv {nL i ln : Nat} (hs : kStoreA nL i ln len pc ls st h = some S) : ∃ (k : Nat) (st2 : List cV), st = cR k :: st2 ∧ len = ln ∧ i < nL ∧ S = (pc + ln, (i, cR k) :: ls.filter (ckI i), st2, h) := by
  unfold kStoreA at hs
  split at hs
  · obtain ⟨h1, rfl⟩ := cNx_inv hs
    obtain ⟨h1, h2⟩ := and_inv h1
    exact ⟨_, _, rfl, nbeq_t h1, Nat.le_of_ble_eq_true h2, rfl⟩
  · cases hs
theorem kInc_inv {nL i : Nat} {n : Int} (hs : kInc nL i n len pc ls st h = some S) : ∃ x : Int32, clk ls i = some (cI x) ∧ len = 3 ∧ i < nL ∧ S = (pc + 3, (i, cI (x + Int32.ofInt n)) :: ls.filter (ckI i), st, h) := by
  unfold kInc at hs
  split at hs
  · rename_i x hq
    obtain ⟨h1, rfl⟩ := cNx_inv hs
    obtain ⟨h1, h2⟩ := and_inv h1
    exact ⟨x, hq, nbeq_t h1, Nat.le_of_ble_eq_true h2, rfl⟩
  · cases hs
theorem kBin_inv {ok : Int32 → Bool} {f : Int32 → Int32 → Int32} (hs : kBin ok f len pc ls st h = some S) : ∃ (x : Int32) (y : Int32) (st2 : List cV), st = cI y :: cI x :: st2 ∧ len = 1 ∧ ok y = true ∧ S = (pc + 1, ls, cI (f x y) :: st2, h) := by
  unfold kBin at hs
  split at hs
  · obtain ⟨h1, rfl⟩ := cNx_inv hs
    obtain ⟨h1, h2⟩ := and_inv h1
    exact ⟨_, _, _, rfl, nbeq_t h1, h2, rfl⟩
  · cases hs
theorem kBinJ_inv {ok : Int64 → Bool} {f : Int64 → Int64 → Int64} (hs : kBinJ ok f len pc ls st h = some S) : ∃ (x : Int64) (y : Int64) (st2 : List cV), st = cJ y :: cJ x :: st2 ∧ len = 1 ∧ ok y = true ∧ S = (pc + 1, ls, cJ (f x y) :: st2, h) := by
  unfold kBinJ at hs
  split at hs
  · obtain ⟨h1, rfl⟩ := cNx_inv hs
    obtain ⟨h1, h2⟩ := and_inv h1
    exact ⟨_, _, _, rfl, nbeq_t h1, h2, rfl⟩
  · cases hs
theorem kShJ_inv {ok : Int32 → Bool} {f : Int64 → Int32 → Int64} (hs : kShJ ok f len pc ls st h = some S) : ∃ (x : Int64) (y : Int32) (st2 : List cV), st = cI y :: cJ x :: st2 ∧ len = 1 ∧ ok y = true ∧ S = (pc + 1, ls, cJ (f x y) :: st2, h) := by
  unfold kShJ at hs
  split at hs
  · obtain ⟨h1, rfl⟩ := cNx_inv hs
    obtain ⟨h1, h2⟩ := and_inv h1
    exact ⟨_, _, _, rfl, nbeq_t h1, h2, rfl⟩
  · cases hs
theorem kCmp_inv {ok : Int64 → Bool} {f : Int64 → Int64 → Int32} (hs : kCmp ok f len pc ls st h = some S) : ∃ (x : Int64) (y : Int64) (st2 : List cV), st = cJ y :: cJ x :: st2 ∧ len = 1 ∧ ok y = true ∧ S = (pc + 1, ls, cI (f x y) :: st2, h) := by
  unfold kCmp at hs
  split at hs
  · obtain ⟨h1, rfl⟩ := cNx_inv hs
    obtain ⟨h1, h2⟩ := and_inv h1
    exact ⟨_, _, _, rfl, nbeq_t h1, h2, rfl⟩
  · cases hs
theorem kUn_inv {f : Int32 → cV} (hs : kUn f len pc ls st h = some S) : ∃ (x : Int32) (st2 : List cV), st = cI x :: st2 ∧ len = 1 ∧ S = (pc + 1, ls, f x :: st2, h) := by
  unfold kUn at hs
  split at hs
  · obtain ⟨h1, rfl⟩ := cNx_inv hs
    exact ⟨_, _, rfl, nbeq_t h1, rfl⟩
  · cases hs
theorem kUnJ_inv {f : Int64 → cV} (hs : kUnJ f len pc ls st h = some S) : ∃ (x : Int64) (st2 : List cV), st = cJ x :: st2 ∧ len = 1 ∧ S = (pc + 1, ls, f x :: st2, h) := by
  unfold kUnJ at hs
  split at hs
  · obtain ⟨h1, rfl⟩ := cNx_inv hs
    exact ⟨_, _, rfl, nbeq_t h1, rfl⟩
  · cases hs
theorem kDup_inv (hs : kDup len pc ls st h = some S) : ∃ (a : cV) (st2 : List cV), st = a :: st2 ∧ len = 1 ∧ wide a = false ∧ S = (pc + 1, ls, a :: a :: st2, h) := by
  unfold kDup at hs
  split at hs
  · obtain ⟨h1, rfl⟩ := cNx_inv hs
    obtain ⟨h1, h2⟩ := and_inv h1
    exact ⟨_, _, rfl, nbeq_t h1, not_inv h2, rfl⟩
  · cases hs
theorem kDup2_inv (hs : kDup2 len pc ls st h = some S) : ∃ (a b : cV) (st2 : List cV), st = a :: b :: st2 ∧ len = 1 ∧ wide a = false ∧ wide b = false ∧ S = (pc + 1, ls, a :: b :: a :: b :: st2, h) := by
  unfold kDup2 at hs
  split at hs
  · obtain ⟨h1, rfl⟩ := cNx_inv hs
    obtain ⟨h1, h2⟩ := and_inv h1
    obtain ⟨h2, h3⟩ := and_inv h2
    exact ⟨_, _, _, rfl, nbeq_t h1, not_inv h2, not_inv h3, rfl⟩
  · cases hs
theorem kPop_inv (hs : kPop len pc ls st h = some S) : ∃ (a : cV) (st2 : List cV), st = a :: st2 ∧ len = 1 ∧ wide a = false ∧ S = (pc + 1, ls, st2, h) := by
  unfold kPop at hs
  split at hs
  · obtain ⟨h1, rfl⟩ := cNx_inv hs
    obtain ⟨h1, h2⟩ := and_inv h1
    exact ⟨_, _, rfl, nbeq_t h1, not_inv h2, rfl⟩
  · cases hs
theorem kGoto_inv {off : Int} (hs : kGoto off len pc ls st h = some S) : ∃ t : Nat, (pc : Int) + off = (t : Int) ∧ len = 3 ∧ S = (t, ls, st, h) := by
  unfold kGoto at hs
  split at hs
  · rename_i t ht
    obtain ⟨h1, rfl⟩ := cNx_inv hs
    exact ⟨_, tgt_inv ht, nbeq_t h1, rfl⟩
  · cases hs
theorem kIf_inv {k : ClassFile.Cond} {off : Int} (hs : kIf k off len pc ls st h = some S) : ∃ (x : Int32) (st2 : List cV) (t : Nat), st = cI x :: st2 ∧ (pc : Int) + off = (t : Int) ∧ len = 3 ∧ S = ((match cDec k x 0 with
      | true => t
      | false => pc + 3), ls, st2, h) := by
  unfold kIf at hs
  split at hs
  · split at hs
    · rename_i t ht
      obtain ⟨h1, rfl⟩ := cNx_inv hs
      exact ⟨_, _, t, rfl, tgt_inv ht, nbeq_t h1, rfl⟩
    · cases hs
  · cases hs
theorem kIc_inv {k : ClassFile.Cond} {off : Int} (hs : kIc k off len pc ls st h = some S) : ∃ (x y : Int32) (st2 : List cV) (t : Nat), st = cI y :: cI x :: st2 ∧ (pc : Int) + off = (t : Int) ∧ len = 3 ∧ S = ((match cDec k x y with
      | true => t
      | false => pc + 3), ls, st2, h) := by
  unfold kIc at hs
  split at hs
  · split at hs
    · rename_i t ht
      obtain ⟨h1, rfl⟩ := cNx_inv hs
      exact ⟨_, _, _, t, rfl, tgt_inv ht, nbeq_t h1, rfl⟩
    · cases hs
  · cases hs
theorem kTsw_inv {dd lo hi : Int} {offs : Array Int} (hs : kTsw dd lo hi offs len pc ls st h = some S) : ∃ (x : Int32) (st2 : List cV) (off : Int) (t : Nat), st = cI x :: st2 ∧ cSw dd lo hi offs x = some off ∧ (pc : Int) + off = (t : Int) ∧ S = (t, ls, st2, h) := by
  unfold kTsw at hs
  split at hs
  · split at hs
    · rename_i off hm
      split at hs
      · rename_i t ht
        obtain ⟨h1, rfl⟩ := cNx_inv hs
        exact ⟨_, _, off, t, rfl, hm, tgt_inv ht, rfl⟩
      · cases hs
    · cases hs
  · cases hs
theorem kLsw_inv {dd : Int} {ps : Array (Int × Int)} (hs : kLsw dd ps len pc ls st h = some S) : ∃ (x : Int32) (st2 : List cV) (t : Nat), st = cI x :: st2 ∧ (ps.toList.zip (ps.toList.drop 1)).all (fun (a, next) => a.1 < next.1) = true ∧ (pc : Int) + Op.lookupswitch.offset ps.toList dd x.toInt = (t : Int) ∧ S = (t, ls, st2, h) := by
  unfold kLsw at hs
  split at hs
  · split at hs
    · rename_i hp
      split at hs
      · rename_i t ht
        obtain ⟨h1, rfl⟩ := cNx_inv hs
        exact ⟨_, _, t, rfl, hp, tgt_inv ht, rfl⟩
      · cases hs
    · cases hs
  · cases hs
theorem kGet_inv {oc idx : Nat} (hs : kGet oc idx len pc ls st h = some S) :
    (∃ (kd ci fi k : Nat) (st2 : List cV) (fs : List cV) (a : cV), fnd (fTab.getD oc []) idx = some (kd, ci, fi) ∧ st = cR k :: st2 ∧ h[k]? = some (.inl (ci, fs)) ∧ fs[fi]? = some a ∧ len = 3 ∧ kd ≤ 1 ∧ S = (pc + 3, ls, a :: st2, h)) ∨
    (∃ (ci fi n i : Nat) (st2 : List cV) (a : cV), fnd (fTab.getD oc []) idx = some (2, ci, fi) ∧ st = cO n :: st2 ∧ n = 2 * i + 1 ∧ i < nS ∧ len = 3 ∧ ((ci = 1 ∧ a = cO (n + 1)) ∨ (ci = 2 ∧ a = cI 0)) ∧ S = (pc + 3, ls, a :: st2, h)) := by
  unfold kGet at hs
  split at hs
  · rename_i kd ci fi hf
    split at hs
    · split at hs
      · rename_i cj fs hk
        split at hs
        · rename_i a ha
          obtain ⟨y1, rfl⟩ := cNx_inv hs
          obtain ⟨y2, y3⟩ := and_inv y1
          obtain ⟨y4, y5⟩ := and_inv y3
          have e := nbeq_t y4
          subst e
          exact Or.inl ⟨kd, ci, fi, _, _, fs, a, hf, rfl, hk, ha, nbeq_t y2, Nat.le_of_ble_eq_true y5, rfl⟩
        · cases hs
      · cases hs
    · rename_i n st2
      split at hs
      · split at hs
        · obtain ⟨h1, rfl⟩ := cNx_inv hs
          obtain ⟨h1, h2⟩ := and_inv h1
          obtain ⟨h2, h3⟩ := and_inv h2
          exact Or.inr ⟨_, fi, n, n / 2, st2, _, hf, rfl, nbeq_t h2, Nat.le_of_ble_eq_true h3, nbeq_t h1, Or.inl ⟨rfl, rfl⟩, rfl⟩
        · obtain ⟨h1, rfl⟩ := cNx_inv hs
          obtain ⟨h1, h2⟩ := and_inv h1
          obtain ⟨h2, h3⟩ := and_inv h2
          exact Or.inr ⟨_, fi, n, n / 2, st2, _, hf, rfl, nbeq_t h2, Nat.le_of_ble_eq_true h3, nbeq_t h1, Or.inr ⟨rfl, rfl⟩, rfl⟩
        · cases hs
      · cases hs
    · cases hs
  · cases hs
theorem kPut_inv {M : eM} {idx : Nat} (hs : kPut M idx len pc ls st h = some S) :
    ∃ (kd ci fi k : Nat) (st2 : List cV) (fs : List cV) (a a0 : cV) (C : String) (T : u_T) (N : Nat), fnd (fTab.getD (m_o M) []) idx = some (kd, ci, fi) ∧ st = a :: cR k :: st2 ∧ h[k]? = some (.inl (ci, fs)) ∧ fs[fi]? = some a0 ∧ classes[ci]? = some (C, T, N) ∧ len = 3 ∧ okC ((tyls.getD ci []).getD fi .int) a = true ∧ (T fi).2.2.2 = false ∧ kd ≤ 1 ∧ S = (pc + 3, ls, st2, h.set k (.inl (ci, fs.set fi a))) := by
  unfold kPut at hs
  split at hs
  · rename_i kd ci fi hf
    split at hs
    · split at hs
      · rename_i cj fs hk
        split at hs
        · rename_i a0 C T N ha hc
          obtain ⟨y1, rfl⟩ := cNx_inv hs
          obtain ⟨y2, y3⟩ := and_inv y1
          obtain ⟨y4, y5⟩ := and_inv y3
          obtain ⟨y6, y7⟩ := and_inv y5
          obtain ⟨y8, y9⟩ := and_inv y7
          have e := nbeq_t y4
          subst e
          exact ⟨kd, ci, fi, _, _, fs, _, a0, C, T, N, hf, rfl, hk, ha, hc, nbeq_t y2, y6, not_inv y8, Nat.le_of_ble_eq_true y9, rfl⟩
        · cases hs
      · cases hs
    · cases hs
  · cases hs
theorem kGetS_inv {oc idx : Nat} (hs : kGetS oc idx len pc ls st h = some S) : (∃ fi : Nat, fnd (fTab.getD oc []) idx = some (2, 0, fi) ∧ len = 3 ∧ S = (pc + 3, ls, cI 1 :: st, h)) ∨ ∃ fi : Nat, fnd (fTab.getD oc []) idx = some (3, 0, fi) ∧ len = 3 ∧ S = (pc + 3, ls, cO 99 :: st, h) := by
  unfold kGetS at hs
  split at hs
  · rename_i fi hf
    obtain ⟨h1, rfl⟩ := cNx_inv hs
    exact Or.inl ⟨fi, hf, nbeq_t h1, rfl⟩
  · rename_i fi hf
    obtain ⟨h1, rfl⟩ := cNx_inv hs
    exact Or.inr ⟨fi, hf, nbeq_t h1, rfl⟩
  · cases hs
theorem kLdc_inv {oc idx : Nat} (hs : kLdc oc idx len pc ls st h = some S) : (∃ (tx : String) (i : Nat), fnd (sTab.getD oc []) idx = some (tx, i) ∧ len = 2 ∧ S = (pc + 2, ls, cO (2 * i + 1) :: st, h)) ∨ ∃ n : Int, fnd (iTab.getD oc []) idx = some n ∧ len = 2 ∧ S = (pc + 2, ls, cI (Int32.ofInt n) :: st, h) := by
  unfold kLdc at hs
  split at hs
  · rename_i tx i hf
    obtain ⟨h1, rfl⟩ := cNx_inv hs
    exact Or.inl ⟨tx, i, hf, nbeq_t h1, rfl⟩
  · split at hs
    · rename_i n hf
      obtain ⟨h1, rfl⟩ := cNx_inv hs
      exact Or.inr ⟨n, hf, nbeq_t h1, rfl⟩
    · cases hs
theorem kLdcw_inv {oc idx : Nat} (hs : kLdcw oc idx len pc ls st h = some S) : ∃ n : Int, fnd (iTab.getD oc []) idx = some n ∧ len = 3 ∧ S = (pc + 3, ls, cI (Int32.ofInt n) :: st, h) := by
  unfold kLdcw at hs
  split at hs
  · rename_i n hf
    obtain ⟨h1, rfl⟩ := cNx_inv hs
    exact ⟨n, hf, nbeq_t h1, rfl⟩
  · cases hs
theorem kLdc2_inv {oc idx : Nat} (hs : kLdc2 oc idx len pc ls st h = some S) : ∃ n : Int, fnd (jTab.getD oc []) idx = some n ∧ len = 3 ∧ S = (pc + 3, ls, cJ (Int64.ofInt n) :: st, h) := by
  unfold kLdc2 at hs
  split at hs
  · rename_i n hf
    obtain ⟨h1, rfl⟩ := cNx_inv hs
    exact ⟨n, hf, nbeq_t h1, rfl⟩
  · cases hs
theorem kLen_inv {sc : Option (Nat × (Nat → Int32))} (hs : kLen sc len pc ls st h = some S) :
    (∃ (k kd n : Nat) (f : Nat → Int32) (st2 : List cV), st = cR k :: st2 ∧ h[k]? = some (.inr (.inl (kd, n, f))) ∧ len = 1 ∧ S = (pc + 1, ls, cI (Int32.ofNat n) :: st2, h)) ∨
    (∃ (k n : Nat) (f : Nat → Int64) (st2 : List cV), st = cR k :: st2 ∧ h[k]? = some (.inr (.inr (.inl (n, f)))) ∧ len = 1 ∧ S = (pc + 1, ls, cI (Int32.ofNat n) :: st2, h)) ∨
    (∃ (L : Nat) (xs : Nat → Int32) (st2 : List cV), st = cO 0 :: st2 ∧ sc = some (L, xs) ∧ len = 1 ∧ S = (pc + 1, ls, cI (Int32.ofNat L) :: st2, h)) ∨
    (∃ (i : Nat) (st2 : List cV), st = cO (2 * i + 2) :: st2 ∧ i < nS ∧ len = 1 ∧ S = (pc + 1, ls, cI (Int32.ofNat (lenS.getD i 0)) :: st2, h)) := by
  unfold kLen at hs
  split at hs
  · split at hs
    · rename_i n f hk
      obtain ⟨h1, rfl⟩ := cNx_inv hs
      exact Or.inl ⟨_, _, _, _, _, rfl, hk, nbeq_t h1, rfl⟩
    · rename_i n f hk
      obtain ⟨h1, rfl⟩ := cNx_inv hs
      exact Or.inr (Or.inl ⟨_, _, _, _, rfl, hk, nbeq_t h1, rfl⟩)
    · cases hs
  · split at hs
    · obtain ⟨h1, rfl⟩ := cNx_inv hs
      exact Or.inr (Or.inr (Or.inl ⟨_, _, _, rfl, rfl, nbeq_t h1, rfl⟩))
    · cases hs
  · rename_i n st2
    obtain ⟨h1, rfl⟩ := cNx_inv hs
    obtain ⟨h1, h2⟩ := and_inv h1
    obtain ⟨h2, h3⟩ := and_inv h2
    exact Or.inr (Or.inr (Or.inr ⟨n / 2, st2, by rw [← nbeq_t h2], Nat.le_of_ble_eq_true h3, nbeq_t h1, rfl⟩))
  · cases hs
theorem kIald_inv {sc : Option (Nat × (Nat → Int32))} (hs : kIald sc len pc ls st h = some S) :
    (∃ (k n : Nat) (f : Nat → Int32) (i : Int32) (st2 : List cV), st = cI i :: cR k :: st2 ∧ h[k]? = some (.inr (.inl (0, n, f))) ∧ len = 1 ∧ vp_in i n ∧ S = (pc + 1, ls, cI (f i.toNatClampNeg) :: st2, h)) ∨
    (∃ (L : Nat) (xs : Nat → Int32) (i : Int32) (st2 : List cV), st = cI i :: cO 0 :: st2 ∧ sc = some (L, xs) ∧ len = 1 ∧ vp_in i L ∧ S = (pc + 1, ls, cI (xs i.toNatClampNeg) :: st2, h)) := by
  unfold kIald at hs
  split at hs
  · split at hs
    · rename_i n f hk
      obtain ⟨h1, rfl⟩ := cNx_inv hs
      obtain ⟨h1, h2⟩ := and_inv h1
      exact Or.inl ⟨_, _, _, _, _, rfl, hk, nbeq_t h1, inB_ok h2, rfl⟩
    · cases hs
  · split at hs
    · obtain ⟨h1, rfl⟩ := cNx_inv hs
      obtain ⟨h1, h2⟩ := and_inv h1
      exact Or.inr ⟨_, _, _, _, rfl, rfl, nbeq_t h1, inB_ok h2, rfl⟩
    · cases hs
  · cases hs
theorem kBald_inv (hs : kBald len pc ls st h = some S) :
    (∃ (k n : Nat) (f : Nat → Int32) (i : Int32) (st2 : List cV), st = cI i :: cR k :: st2 ∧ (h[k]? = some (.inr (.inl (1, n, f))) ∨ h[k]? = some (.inr (.inl (2, n, f)))) ∧ len = 1 ∧ vp_in i n ∧ S = (pc + 1, ls, cI (f i.toNatClampNeg) :: st2, h)) ∨
    (∃ (j : Nat) (i : Int32) (st2 : List cV), st = cI i :: cO (2 * j + 2) :: st2 ∧ j < nS ∧ len = 1 ∧ vp_in i (lenS.getD j 0) ∧ S = (pc + 1, ls, cI ((bytS.getD j []).getD i.toNatClampNeg 0) :: st2, h)) := by
  unfold kBald at hs
  split at hs
  · split at hs
    · rename_i n f hk
      obtain ⟨h1, rfl⟩ := cNx_inv hs
      obtain ⟨h1, h2⟩ := and_inv h1
      exact Or.inl ⟨_, _, _, _, _, rfl, Or.inl hk, nbeq_t h1, inB_ok h2, rfl⟩
    · rename_i n f hk
      obtain ⟨h1, rfl⟩ := cNx_inv hs
      obtain ⟨h1, h2⟩ := and_inv h1
      exact Or.inl ⟨_, _, _, _, _, rfl, Or.inr hk, nbeq_t h1, inB_ok h2, rfl⟩
    · cases hs
  · rename_i i n st2
    obtain ⟨h1, rfl⟩ := cNx_inv hs
    obtain ⟨h1, h2⟩ := and_inv h1
    obtain ⟨h2, h3⟩ := and_inv h2
    obtain ⟨h3, h4⟩ := and_inv h3
    exact Or.inr ⟨n / 2, i, st2, by rw [← nbeq_t h2], Nat.le_of_ble_eq_true h3, nbeq_t h1, inB_ok h4, rfl⟩
  · cases hs
theorem kLald_inv (hs : kLald len pc ls st h = some S) : ∃ (k n : Nat) (f : Nat → Int64) (i : Int32) (st2 : List cV), st = cI i :: cR k :: st2 ∧ h[k]? = some (.inr (.inr (.inl (n, f)))) ∧ len = 1 ∧ vp_in i n ∧ S = (pc + 1, ls, cJ (f i.toNatClampNeg) :: st2, h) := by
  unfold kLald at hs
  split at hs
  · split at hs
    · rename_i n f hk
      obtain ⟨h1, rfl⟩ := cNx_inv hs
      obtain ⟨h1, h2⟩ := and_inv h1
      exact ⟨_, _, _, _, _, rfl, hk, nbeq_t h1, inB_ok h2, rfl⟩
    · cases hs
  · cases hs
theorem kAald_inv (hs : kAald len pc ls st h = some S) : ∃ (k ci n kr : Nat) (rs : List (Option Nat)) (i : Int32) (st2 : List cV), st = cI i :: cR k :: st2 ∧ h[k]? = some (.inr (.inr (.inr (ci, n, rs)))) ∧ rs.getD i.toNatClampNeg none = some kr ∧ len = 1 ∧ vp_in i n ∧ S = (pc + 1, ls, cR kr :: st2, h) := by
  unfold kAald at hs
  split at hs
  · split at hs
    · rename_i ci n rs hk
      split at hs
      · rename_i kr hr
        obtain ⟨h1, rfl⟩ := cNx_inv hs
        obtain ⟨h1, h2⟩ := and_inv h1
        exact ⟨_, _, _, _, _, _, _, rfl, hk, hr, nbeq_t h1, inB_ok h2, rfl⟩
      · cases hs
    · cases hs
  · cases hs
theorem kIast_inv (hs : kIast len pc ls st h = some S) : ∃ (k n : Nat) (f : Nat → Int32) (i x : Int32) (st2 : List cV), st = cI x :: cI i :: cR k :: st2 ∧ h[k]? = some (.inr (.inl (0, n, f))) ∧ len = 1 ∧ vp_in i n ∧ S = (pc + 1, ls, st2, h.set k (.inr (.inl (0, n, upd f i.toNatClampNeg x)))) := by
  unfold kIast at hs
  split at hs
  · split at hs
    · rename_i n f hk
      obtain ⟨h1, rfl⟩ := cNx_inv hs
      obtain ⟨h1, h2⟩ := and_inv h1
      exact ⟨_, _, _, _, _, _, rfl, hk, nbeq_t h1, inB_ok h2, rfl⟩
    · cases hs
  · cases hs
theorem kBast_inv (hs : kBast len pc ls st h = some S) : ∃ (k n : Nat) (f : Nat → Int32) (i x : Int32) (st2 : List cV), st = cI x :: cI i :: cR k :: st2 ∧ len = 1 ∧ vp_in i n ∧ ((h[k]? = some (.inr (.inl (1, n, f))) ∧ S = (pc + 1, ls, st2, h.set k (.inr (.inl (1, n, upd f i.toNatClampNeg (vp_nar .byte x)))))) ∨ (h[k]? = some (.inr (.inl (2, n, f))) ∧ S = (pc + 1, ls, st2, h.set k (.inr (.inl (2, n, upd f i.toNatClampNeg (vp_nar .boolean x))))))) := by
  unfold kBast at hs
  split at hs
  · split at hs
    · rename_i n f hk
      obtain ⟨h1, rfl⟩ := cNx_inv hs
      obtain ⟨h1, h2⟩ := and_inv h1
      exact ⟨_, _, _, _, _, _, rfl, nbeq_t h1, inB_ok h2, Or.inl ⟨hk, rfl⟩⟩
    · rename_i n f hk
      obtain ⟨h1, rfl⟩ := cNx_inv hs
      obtain ⟨h1, h2⟩ := and_inv h1
      exact ⟨_, _, _, _, _, _, rfl, nbeq_t h1, inB_ok h2, Or.inr ⟨hk, rfl⟩⟩
    · cases hs
  · cases hs
theorem kLast_inv (hs : kLast len pc ls st h = some S) : ∃ (k n : Nat) (f : Nat → Int64) (i : Int32) (x : Int64) (st2 : List cV), st = cJ x :: cI i :: cR k :: st2 ∧ h[k]? = some (.inr (.inr (.inl (n, f)))) ∧ len = 1 ∧ vp_in i n ∧ S = (pc + 1, ls, st2, h.set k (.inr (.inr (.inl (n, vp_updL f i.toNatClampNeg x))))) := by
  unfold kLast at hs
  split at hs
  · split at hs
    · rename_i n f hk
      obtain ⟨h1, rfl⟩ := cNx_inv hs
      obtain ⟨h1, h2⟩ := and_inv h1
      exact ⟨_, _, _, _, _, _, rfl, hk, nbeq_t h1, inB_ok h2, rfl⟩
    · cases hs
  · cases hs
end
