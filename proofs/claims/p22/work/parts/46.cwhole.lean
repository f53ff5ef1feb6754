/-! RUNS, 7: a step, whole (printed by wip/engine2/gen46.py) -/
def recCk (k : Nat) (h : List cC) (oc : Nat) (as : List cV) : Bool := match k with
  | 0 => true
  | 1 => isKc as
  | _ => recC h oc as
def nng (x : Int32) : Bool := decide (¬ x < 0)
def kCpy (len pc : Nat) (ls : List (Nat × cV)) (st : List cV) (h : List cC) : Option cS := match st with
  | [.inr (.inl n), .inr (.inl dp), .inl (some kd), .inr (.inl sp), .inl (some ks)] => (match h[ks]?, h[kd]? with
    | some (.inr (.inl (0, n0, f0))), some (.inr (.inl (0, n1, f1))) => cNx (Nat.beq len 3 && (nng n && (nng dp && (nng sp && (Nat.ble (sp.toNatClampNeg + n.toNatClampNeg) n0 && Nat.ble (dp.toNatClampNeg + n.toNatClampNeg) n1))))) (pc + 3, ls, [], h.set kd (.inr (.inl (0, n1, va_cpy f0 f1 sp.toNatClampNeg dp.toNatClampNeg n.toNatClampNeg))))
    | some (.inr (.inr (.inl (n0, f0)))), some (.inr (.inr (.inl (n1, f1)))) => cNx (Nat.beq len 3 && (nng n && (nng dp && (nng sp && (Nat.ble (sp.toNatClampNeg + n.toNatClampNeg) n0 && Nat.ble (dp.toNatClampNeg + n.toNatClampNeg) n1))))) (pc + 3, ls, [], h.set kd (.inr (.inr (.inl (n1, va_cpy f0 f1 sp.toNatClampNeg dp.toNatClampNeg n.toNatClampNeg)))))
    | _, _ => none)
  | _ => none
def kMath (f : Int32 → Int32 → Int32) (len pc : Nat) (ls : List (Nat × cV)) (st : List cV) (h : List cC) : Option cS := match st with
  | .inr (.inl y) :: .inr (.inl x) :: st => cNx (Nat.beq len 3 && Nat.ble (catC st) 8) (pc + 3, ls, cI (f x y) :: st, h)
  | _ => none
def kInv (call : cCl) (M : eM) (k : Nat) (idx : Nat) (len pc : Nat) (ls : List (Nat × cV)) (st : List cV) (h : List cC) : Option cS := match fnd (mTab.getD (m_o M) []) idx with
  | some (kd, mi) => (match Nat.beq kd 7 && Nat.beq k 0 with
    | true => kCpy len pc ls st h
    | false => (match Nat.beq kd 8 && Nat.beq k 0 with
      | true => kMath (fun x y => if x < y then y else x) len pc ls st h
      | false => (match Nat.beq kd 9 && Nat.beq k 0 with
        | true => kMath (fun x y => if y < x then y else x) len pc ls st h
        | false => (match eMT[mi]? with
          | some N => (match Nat.beq len 3 && ((Nat.beq kd k || Nat.beq kd (k + 3)) && (Nat.ble (rc k + m_n N) st.length && (Nat.ble (catC (st.drop (rc k + m_n N))) 8 && recCk k h (m_o N) (st.take (rc k + m_n N)).reverse))) with
            | true => (match call mi (st.take (rc k + m_n N)).reverse h with
              | some (r, h2) => some (pc + 3, ls, r.toList ++ st.drop (rc k + m_n N), h2)
              | none => none)
            | false => none)
          | none => none))))
  | none => none
theorem kCpy_inv {len pc : Nat} {ls : List (Nat × cV)} {st : List cV} {h : List cC} {S : cS} (hs : kCpy len pc ls st h = some S) : ∃ (n dp sp : Int32) (kd ks n0 n1 : Nat), st = [cI n, cI dp, cR kd, cI sp, cR ks] ∧ len = 3 ∧ ¬ n < 0 ∧ ¬ dp < 0 ∧ ¬ sp < 0 ∧ sp.toNatClampNeg + n.toNatClampNeg ≤ n0 ∧ dp.toNatClampNeg + n.toNatClampNeg ≤ n1 ∧ ((∃ f0 f1 : Nat → Int32, h[ks]? = some (.inr (.inl (0, n0, f0))) ∧ h[kd]? = some (.inr (.inl (0, n1, f1))) ∧ S = (pc + 3, ls, [], h.set kd (.inr (.inl (0, n1, va_cpy f0 f1 sp.toNatClampNeg dp.toNatClampNeg n.toNatClampNeg))))) ∨ (∃ f0 f1 : Nat → Int64, h[ks]? = some (.inr (.inr (.inl (n0, f0)))) ∧ h[kd]? = some (.inr (.inr (.inl (n1, f1)))) ∧ S = (pc + 3, ls, [], h.set kd (.inr (.inr (.inl (n1, va_cpy f0 f1 sp.toNatClampNeg dp.toNatClampNeg n.toNatClampNeg))))))) := by
  unfold kCpy at hs
  split at hs
  · split at hs
    · rename_i n0 f0 n1 f1 h0 h1
      obtain ⟨y1, rfl⟩ := cNx_inv hs
      obtain ⟨y1, y2⟩ := and_inv y1
      obtain ⟨y2, y3⟩ := and_inv y2
      obtain ⟨y3, y4⟩ := and_inv y3
      obtain ⟨y4, y5⟩ := and_inv y4
      obtain ⟨y5, y6⟩ := and_inv y5
      exact ⟨_, _, _, _, _, n0, n1, rfl, nbeq_t y1, of_decide_eq_true y2, of_decide_eq_true y3, of_decide_eq_true y4, Nat.le_of_ble_eq_true y5, Nat.le_of_ble_eq_true y6, Or.inl ⟨f0, f1, h0, h1, rfl⟩⟩
    · rename_i n0 f0 n1 f1 h0 h1
      obtain ⟨y1, rfl⟩ := cNx_inv hs
      obtain ⟨y1, y2⟩ := and_inv y1
      obtain ⟨y2, y3⟩ := and_inv y2
      obtain ⟨y3, y4⟩ := and_inv y3
      obtain ⟨y4, y5⟩ := and_inv y4
      obtain ⟨y5, y6⟩ := and_inv y5
      exact ⟨_, _, _, _, _, n0, n1, rfl, nbeq_t y1, of_decide_eq_true y2, of_decide_eq_true y3, of_decide_eq_true y4, Nat.le_of_ble_eq_true y5, Nat.le_of_ble_eq_true y6, Or.inr ⟨f0, f1, h0, h1, rfl⟩⟩
    · cases hs
  · cases hs
theorem kMath_inv {f : Int32 → Int32 → Int32} {len pc : Nat} {ls : List (Nat × cV)} {st : List cV} {h : List cC} {S : cS} (hs : kMath f len pc ls st h = some S) : ∃ (x y : Int32) (st2 : List cV), st = cI y :: cI x :: st2 ∧ len = 3 ∧ catC st2 ≤ 8 ∧ S = (pc + 3, ls, cI (f x y) :: st2, h) := by
  unfold kMath at hs
  split at hs
  · obtain ⟨h1, rfl⟩ := cNx_inv hs
    obtain ⟨h1, h2⟩ := and_inv h1
    exact ⟨_, _, _, rfl, nbeq_t h1, Nat.le_of_ble_eq_true h2, rfl⟩
  · cases hs
theorem kInv_inv {call : cCl} {M : eM} {k idx len pc : Nat} {ls : List (Nat × cV)} {st : List cV} {h : List cC} {S : cS} (hs : kInv call M k idx len pc ls st h = some S) :
    (∃ mi : Nat, fnd (mTab.getD (m_o M) []) idx = some (7, mi) ∧ k = 0 ∧ kCpy len pc ls st h = some S) ∨
    (∃ mi : Nat, fnd (mTab.getD (m_o M) []) idx = some (8, mi) ∧ k = 0 ∧ kMath (fun x y => if x < y then y else x) len pc ls st h = some S) ∨
    (∃ mi : Nat, fnd (mTab.getD (m_o M) []) idx = some (9, mi) ∧ k = 0 ∧ kMath (fun x y => if y < x then y else x) len pc ls st h = some S) ∨
    (∃ (kd mi : Nat) (N : eM) (r : Option cV) (h2 : List cC), fnd (mTab.getD (m_o M) []) idx = some (kd, mi) ∧ eMT[mi]? = some N ∧ len = 3 ∧ (kd = k ∨ kd = k + 3) ∧ rc k + m_n N ≤ st.length ∧ catC (st.drop (rc k + m_n N)) ≤ 8 ∧ recCk k h (m_o N) (st.take (rc k + m_n N)).reverse = true ∧ call mi (st.take (rc k + m_n N)).reverse h = some (r, h2) ∧ S = (pc + 3, ls, r.toList ++ st.drop (rc k + m_n N), h2)) := by
  unfold kInv at hs
  split at hs
  · rename_i kd mi hf
    split at hs
    · rename_i h7
      obtain ⟨z1, z2⟩ := and_inv h7
      have e := nbeq_t z1
      subst e
      exact Or.inl ⟨mi, hf, nbeq_t z2, hs⟩
    · split at hs
      · rename_i h7
        obtain ⟨z1, z2⟩ := and_inv h7
        have e := nbeq_t z1
        subst e
        exact Or.inr (Or.inl ⟨mi, hf, nbeq_t z2, hs⟩)
      · split at hs
        · rename_i h7
          obtain ⟨z1, z2⟩ := and_inv h7
          have e := nbeq_t z1
          subst e
          exact Or.inr (Or.inr (Or.inl ⟨mi, hf, nbeq_t z2, hs⟩))
        · refine Or.inr (Or.inr (Or.inr ?_))
          split at hs
          · rename_i N hN
            split at hs
            · rename_i h1
              obtain ⟨h1, h2⟩ := and_inv h1
              obtain ⟨h2, h3⟩ := and_inv h2
              obtain ⟨h3, h4⟩ := and_inv h3
              obtain ⟨h4, h5⟩ := and_inv h4
              have hkd : kd = k ∨ kd = k + 3 := by
                rcases or_inv h2 with z | z
                · exact Or.inl (nbeq_t z)
                · exact Or.inr (nbeq_t z)
              split at hs
              · rename_i r h2 hc
                cases hs
                exact ⟨kd, mi, N, r, h2, hf, hN, nbeq_t h1, hkd, Nat.le_of_ble_eq_true h3, Nat.le_of_ble_eq_true h4, h5, hc, rfl⟩
              · cases hs
            · cases hs
          · cases hs
  · cases hs
def cStep (call : cCl) (M : eM) (sc : Option (Nat × (Nat → Int32))) (ins : Instr) (len pc : Nat) (ls : List (Nat × cV)) (st : List cV) (h : List cC) : Option cS := match ins with
  | .iconst n => kConst 1 (cI (Int32.ofInt n)) len pc ls st h
  | .bipush n => kConst 2 (cI ((Int8.ofInt n).toInt32)) len pc ls st h
  | .sipush n => kConst 3 (cI ((Int16.ofInt n).toInt32)) len pc ls st h
  | .lconst n => kConst 1 (cJ (Int64.ofNat (n : Nat))) len pc ls st h
  | .ldc i => kLdc (m_o M) i len pc ls st h
  | .ldc_w i => kLdcw (m_o M) i len pc ls st h
  | .ldc2_w i => kLdc2 (m_o M) i len pc ls st h
  | .iload i => kLoadI i 2 len pc ls st h
  | .iload_n i => kLoadI i.val 1 len pc ls st h
  | .lload i => kLoadJ i 2 len pc ls st h
  | .lload_n i => kLoadJ i.val 1 len pc ls st h
  | .aload i => kLoadA i 2 len pc ls st h
  | .aload_n i => kLoadA i.val 1 len pc ls st h
  | .istore i => kStoreI (m_L M) i 2 len pc ls st h
  | .istore_n i => kStoreI (m_L M) i.val 1 len pc ls st h
  | .lstore i => kStoreJ (m_L M) i 2 len pc ls st h
  | .lstore_n i => kStoreJ (m_L M) i.val 1 len pc ls st h
  | .astore i => kStoreA (m_L M) i 2 len pc ls st h
  | .astore_n i => kStoreA (m_L M) i.val 1 len pc ls st h
  | .iinc i n => kInc (m_L M) i n len pc ls st h
  | .iadd => kBin (fun _ => true) (fun x y => x + y) len pc ls st h
  | .isub => kBin (fun _ => true) (fun x y => x - y) len pc ls st h
  | .imul => kBin (fun _ => true) (fun x y => x * y) len pc ls st h
  | .iand => kBin (fun _ => true) (fun x y => x &&& y) len pc ls st h
  | .ior => kBin (fun _ => true) (fun x y => x ||| y) len pc ls st h
  | .ixor => kBin (fun _ => true) (fun x y => x ^^^ y) len pc ls st h
  | .ishl => kBin (fun _ => true) (fun x y => x <<< (y &&& 31)) len pc ls st h
  | .ishr => kBin (fun _ => true) (fun x y => x >>> (y &&& 31)) len pc ls st h
  | .iushr => kBin (fun _ => true) (fun x y => (x.toUInt32 >>> (y.toUInt32 &&& Int32.toUInt32 31)).toInt32) len pc ls st h
  | .idiv => kBin (fun y => decide (¬ y = 0)) (fun x y => x / y) len pc ls st h
  | .irem => kBin (fun y => decide (¬ y = 0)) (fun x y => x - x / y * y) len pc ls st h
  | .ladd => kBinJ (fun _ => true) (fun x y => x + y) len pc ls st h
  | .lsub => kBinJ (fun _ => true) (fun x y => x - y) len pc ls st h
  | .lmul => kBinJ (fun _ => true) (fun x y => x * y) len pc ls st h
  | .land => kBinJ (fun _ => true) (fun x y => x &&& y) len pc ls st h
  | .lor => kBinJ (fun _ => true) (fun x y => x ||| y) len pc ls st h
  | .ldiv => kBinJ (fun y => decide (¬ y = 0)) (fun x y => x / y) len pc ls st h
  | .lrem => kBinJ (fun y => decide (¬ y = 0)) (fun x y => x - x / y * y) len pc ls st h
  | .lshl => kShJ (fun _ => true) (fun x y => x <<< (y.toInt64 &&& 63)) len pc ls st h
  | .lushr => kShJ (fun _ => true) (fun x y => (x.toUInt64 >>> (y.toInt64.toUInt64 &&& Int64.toUInt64 63)).toInt64) len pc ls st h
  | .lcmp => kCmp (fun _ => true) (fun x y => lg_cmp x y) len pc ls st h
  | .i2l => kUn (fun x => cJ x.toInt64) len pc ls st h
  | .l2i => kUnJ (fun x => cI x.toInt32) len pc ls st h
  | .i2b => kUn (fun x => cI x.toInt8.toInt32) len pc ls st h
  | .i2c => kUn (fun x => cI (x.toUInt32 % 65536).toInt32) len pc ls st h
  | .dup => kDup len pc ls st h
  | .dup2 => kDup2 len pc ls st h
  | .pop => kPop len pc ls st h
  | .goto off => kGoto off len pc ls st h
  | .ifCond k off => kIf k off len pc ls st h
  | .if_icmp k off => kIc k off len pc ls st h
  | .tableswitch dd lo hi offs => kTsw dd lo hi offs len pc ls st h
  | .lookupswitch dd ps => kLsw dd ps len pc ls st h
  | .getfield i => kGet (m_o M) i len pc ls st h
  | .putfield i => kPut M i len pc ls st h
  | .getstatic i => kGetS (m_o M) i len pc ls st h
  | .arraylength => kLen sc len pc ls st h
  | .iaload => kIald sc len pc ls st h
  | .baload => kBald len pc ls st h
  | .laload => kLald len pc ls st h
  | .aaload => kAald len pc ls st h
  | .iastore => kIast len pc ls st h
  | .bastore => kBast len pc ls st h
  | .lastore => kLast len pc ls st h
  | .invokestatic i => kInv call M 0 i len pc ls st h
  | .invokespecial i => kInv call M 1 i len pc ls st h
  | .invokevirtual i => kInv call M 2 i len pc ls st h
  | _ => none
