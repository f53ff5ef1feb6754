/-! THE CHECKER, 17: a step of it, but for calls, switches and copies -/
theorem b8_ok {n : Int} (h : (iLe (-128) n && iLe n 127) = true) : ((Int8.ofInt n).toInt32).toInt = n := by
  simp only [Bool.and_eq_true, iLe_ok] at h
  rw [Int8.toInt_toInt32, Int8.toInt_ofInt]
  show n.bmod 256 = n
  rw [Int.bmod_def]
  split <;> omega
theorem b16_ok {n : Int} (h : (iLe (-32768) n && iLe n 32767) = true) : ((Int16.ofInt n).toInt32).toInt = n := by
  simp only [Bool.and_eq_true, iLe_ok] at h
  rw [Int16.toInt_toInt32, Int16.toInt_ofInt]
  show n.bmod 65536 = n
  rw [Int.bmod_def]
  split <;> omega
def qIf2 (b : Bool) (o : Option (List aS)) : Option (List aS) := match b with
  | true => o
  | false => none
theorem qIf2_inv {b : Bool} {o : Option (List aS)} {as : List aS} (h : qIf2 b o = some as) : b = true ∧ o = some as := by
  cases b with
  | true => exact ⟨rfl, h⟩
  | false => cases h
def kdAt (T : List tT) (k : Nat) : Nat := match T[k]? with
  | some (.inr (.inl (kd, _, _, _))) => kd
  | _ => 0
def kdL (T : List tT) (a : aS) : Nat := match a.2.2.1 with
  | _ :: .inl (k :: _) :: _ => kdAt T k
  | _ => 0
def kdS (T : List tT) (a : aS) : Nat := match a.2.2.1 with
  | _ :: _ :: .inl (k :: _) :: _ => kdAt T k
  | _ => 0
def topO (a : aS) : Bool := match a.2.2.1 with
  | .inr (.inr (.inr _)) :: _ => true
  | _ => false
def topO2 (a : aS) : Bool := match a.2.2.1 with
  | _ :: .inr (.inr (.inr _)) :: _ => true
  | _ => false
def nxC (M : eM) (pc : Nat) : Option ClassFile.Cond := match fnd (m_il M) (pc + 1) with
  | some (.ifCond k _, _) => some k
  | _ => none
def qOne (T : List tT) (M : eM) (ins : Instr) (len : Nat) (a : aS) : Option (List aS) := match ins with
  | .iconst n => qIcon 1 n len a
  | .bipush n => qIf2 (iLe (-128) n && iLe n 127) (qConst 2 (aI (.inl n)) len a)
  | .sipush n => qIf2 (iLe (-32768) n && iLe n 32767) (qConst 3 (aI (.inl n)) len a)
  | .lconst n => qIf2 (in64 ((n : Nat) : Int)) (qConst 1 (aJ (.inl ((n : Nat) : Int))) len a)
  | .ldc i => qLdc (m_o M) i len a
  | .ldc_w i => qLdcw (m_o M) i len a
  | .ldc2_w i => qLdc2 (m_o M) i len a
  | .iload i => qLoad aisI i 2 len a
  | .iload_n i => qLoad aisI i.val 1 len a
  | .lload i => qLoad awide i 2 len a
  | .lload_n i => qLoad awide i.val 1 len a
  | .aload i => qLoad aisA i 2 len a
  | .aload_n i => qLoad aisA i.val 1 len a
  | .istore i => qStI aisI (m_L M) i 2 len a
  | .istore_n i => qStI aisI (m_L M) i.val 1 len a
  | .lstore i => qStJ (m_L M) i 2 len a
  | .lstore_n i => qStJ (m_L M) i.val 1 len a
  | .astore i => qStI aisR (m_L M) i 2 len a
  | .astore_n i => qStI aisR (m_L M) i.val 1 len a
  | .iinc i n => qInc (m_L M) i n len a
  | .iadd => qBinR tr1 (fun B R x y => rAdd B R x y (xAdd B x y)) (fun B x y t => relAdd B x y t) len a
  | .isub => qBinR tr1 (fun B R x y => rAdd B R x (xScale (-1) y) (xSub B x y)) (fun B x y t => relAdd B x (xScale (-1) y) t) len a
  | .imul => qBin tr1 xMul len a
  | .iand => qBinR tr1 (fun B _ x y => bx bAnd B x y) relAnd len a
  | .ior => qBin tr1 (bx bOr) len a
  | .ixor => qBin tr1 (bx bOr) len a
  | .ishl => qBin tr1 (bx bShl) len a
  | .ishr => qBin tr1 (bx eShr) len a
  | .iushr => qBin tr1 (bx bUsh) len a
  | .idiv => qBin nz (bx bDiv) len a
  | .irem => qBin nz (bx bRem) len a
  | .ladd => qBinJ tr1 len a
  | .lsub => qBinJ tr1 len a
  | .lmul => qBinJ tr1 len a
  | .land => qBinJ tr1 len a
  | .lor => qBinJ tr1 len a
  | .ldiv => qBinJ nz len a
  | .lrem => qBinJ nz len a
  | .lshl => qShJ len a
  | .lushr => qShJ len a
  | .lcmp => qCmpR (nxC M a.1) len a
  | .i2l => qUn (fun _ e => .inl e) (fun e => aJ e) len a
  | .l2i => qUnJ xL2I (fun e => aI e) len a
  | .i2b => qUn (fun B e => match iLe (-128) (xb B e).1 && iLe (xb B e).2 127 with
    | true => .inl e
    | false => .inr (eB (xb B e))) (fun e => aI e) len a
  | .i2c => qUn (fun B e => match iLe 0 (xb B e).1 && iLe (xb B e).2 65535 with
    | true => .inl e
    | false => .inr (0, 65535)) (fun e => aI e) len a
  | .dup => qDup len a
  | .dup2 => qDup2 len a
  | .pop => qPop len a
  | .goto off => qGoto off len a
  | .ifCond k off => qIfR k off len a
  | .if_icmp k off => qIcR k off len a
  | .tableswitch dd lo hi offs => qTsw dd lo hi offs a
  | .lookupswitch dd ps => qLsw dd ps a
  | .getfield i => (match topO a with
    | true => qGetO (m_o M) i len a
    | false => qGet T (m_o M) i len a)
  | .putfield i => qPut T M i len a
  | .getstatic i => qGetS (m_o M) i len a
  | .arraylength => (match topO a with
    | true => qLenO len a
    | false => qLen T len a)
  | .iaload => (match qIald1 T len a with
    | some l => some l
    | none => qIald T len a)
  | .baload => (match topO2 a with
    | true => qBaldO len a
    | false => (match qBald1 T (kdL T a) len a with
      | some l => some l
      | none => qBald T (kdL T a) len a))
  | .laload => qLald T len a
  | .aaload => (match qAaldS T len a with
    | some l => some l
    | none => qAald T len a)
  | .iastore => qIastR T len a
  | .bastore => (match Nat.beq (kdS T a) 2 with
    | true => qBastR T len a
    | false => qBast T (kdS T a) len a)
  | .lastore => qLast T len a
  | _ => none
theorem qOne_ok {T : List tT} {w : List Int} {call : cCl} {M : eM} {sc : Option (Nat × (Nat → Int32))} {ins : Instr} {len : Nat} {a : aS} {as : List aS} (h : qOne T M ins len a = some as) : Snd T w a as (cStep call M sc ins len) := by
  unfold qOne at h
  split at h
  · exact qIcon_ok h
  · rename_i n
    obtain ⟨h1, h2⟩ := qIf2_inv h
    exact qConst_ok (v := aI (.inl n)) (u := cI ((Int8.ofInt n).toInt32)) (fun ρ => ⟨_, rfl, b8_ok h1⟩) h2
  · rename_i n
    obtain ⟨h1, h2⟩ := qIf2_inv h
    exact qConst_ok (v := aI (.inl n)) (u := cI ((Int16.ofInt n).toInt32)) (fun ρ => ⟨_, rfl, b16_ok h1⟩) h2
  · rename_i n
    obtain ⟨h1, h2⟩ := qIf2_inv h
    exact qConst_ok (v := aJ (.inl ((n : Nat) : Int))) (u := cJ (Int64.ofNat (n : Nat))) (fun ρ => ⟨_, rfl, in64_ok h1⟩) h2
  · exact qLdc_ok h
  · exact qLdcw_ok h
  · exact qLdc2_ok h
  · exact qLoadI_ok h
  · exact qLoadI_ok h
  · exact qLoadJ_ok h
  · exact qLoadJ_ok h
  · exact qLoadA_ok h
  · exact qLoadA_ok h
  · exact qStoreI_ok h
  · exact qStoreI_ok h
  · exact qStoreJ_ok h
  · exact qStoreJ_ok h
  · exact qStoreA_ok h
  · exact qStoreA_ok h
  · exact qInc_ok h
  · exact sn_add h
  · exact sn_sub h
  · exact qBin_ok (okC := fun _ => true) (fun _ _ _ _ _ _ hB ha hb _ => xMul_ok hB ha hb) tr1_ok h
  · exact sn_and h
  · exact qBin_ok (g := bx bOr) (f := fun x y => x ||| y) (okC := fun _ => true) (fun _ _ _ _ x y hB ha hb _ => bOr_ok (xb_ok hB ha) (xb_ok hB hb) (fun x y => x ||| y) (fun u v => u ||| v) (by rw [Int32.toBitVec_or, BitVec.toNat_or]) (fun _ _ _ h1 h2 => Nat.or_lt_two_pow h1 h2)) tr1_ok h
  · exact qBin_ok (g := bx bOr) (f := fun x y => x ^^^ y) (okC := fun _ => true) (fun _ _ _ _ x y hB ha hb _ => bOr_ok (xb_ok hB ha) (xb_ok hB hb) (fun x y => x ^^^ y) (fun u v => u ^^^ v) (by rw [Int32.toBitVec_xor, BitVec.toNat_xor]) (fun _ _ _ h1 h2 => Nat.xor_lt_two_pow h1 h2)) tr1_ok h
  · exact qBin_ok (g := bx bShl) (f := fun x y => x <<< (y &&& 31)) (okC := fun _ => true) (fun _ _ _ _ _ _ hB ha hb _ => bShl_ok (xb_ok hB ha) (xb_ok hB hb)) tr1_ok h
  · exact qBin_ok (g := bx eShr) (f := fun x y => x >>> (y &&& 31)) (okC := fun _ => true) (fun _ _ _ _ _ _ hB ha hb _ => n_shr (xb_ok hB ha) (xb_ok hB hb)) tr1_ok h
  · exact qBin_ok (g := bx bUsh) (f := fun x y => (x.toUInt32 >>> (y.toUInt32 &&& Int32.toUInt32 31)).toInt32) (okC := fun _ => true) (fun _ _ _ _ _ _ hB ha hb _ => bUsh_ok (xb_ok hB ha) (xb_ok hB hb)) tr1_ok h
  · exact qBin_ok (okC := fun y => decide (¬ y = 0)) (g := bx bDiv) (f := fun x y => x / y) (fun _ _ _ _ _ _ hB ha hb _ => bDiv_ok (xb_ok hB ha) (xb_ok hB hb)) nz_ok h
  · exact qBin_ok (okC := fun y => decide (¬ y = 0)) (g := bx bRem) (f := fun x y => x - x / y * y) (fun _ _ _ _ _ _ hB ha hb _ => bRem_ok (xb_ok hB ha) (xb_ok hB hb)) nz_ok h
  · exact qBinJ_ok (okC := fun _ => true) tr1J_ok h
  · exact qBinJ_ok (okC := fun _ => true) tr1J_ok h
  · exact qBinJ_ok (okC := fun _ => true) tr1J_ok h
  · exact qBinJ_ok (okC := fun _ => true) tr1J_ok h
  · exact qBinJ_ok (okC := fun _ => true) tr1J_ok h
  · exact qBinJ_ok nzJ_ok h
  · exact qBinJ_ok nzJ_ok h
  · exact qShJ_ok h
  · exact qShJ_ok h
  · exact qCmpR_ok h
  · exact sn_i2l h
  · exact sn_l2i h
  · exact sn_i2b h
  · exact sn_i2c h
  · exact qDup_ok h
  · exact qDup2_ok h
  · exact qPop_ok h
  · exact qGoto_ok h
  · exact qIfR_ok h
  · exact qIcR_ok h
  · exact qTsw_ok h
  · exact qLsw_ok h
  · split at h
    · exact qGetO_ok h
    · exact qGet_ok h
  · exact qPut_ok h
  · exact qGetS_ok h
  · split at h
    · exact qLenO_ok h
    · exact qLen_ok h
  · split at h
    · rename_i l hl
      cases h
      exact qIald1_ok hl
    · exact qIald_ok h
  · split at h
    · exact qBaldO_ok h
    · split at h
      · rename_i l hl
        cases h
        exact qBald1_ok hl
      · exact qBald_ok h
  · exact qLald_ok h
  · split at h
    · rename_i l hl
      cases h
      exact qAaldS_ok hl
    · exact qAald_ok h
  · exact qIastR_ok h
  · split at h
    · exact qBastR_ok h
    · exact qBast_ok h
  · exact qLast_ok h
  · cases h
