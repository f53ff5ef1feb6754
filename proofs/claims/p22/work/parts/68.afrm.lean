/-! THE CHECKER, 19: what a step leaves as it was -/
def isW (ins : Instr) : Bool := match ins with
  | .putfield _ => true
  | .iastore => true
  | .bastore => true
  | .lastore => true
  | .invokestatic _ => true
  | .invokespecial _ => true
  | .invokevirtual _ => true
  | _ => false
set_option maxHeartbeats 2000000 in
theorem same_heap {call : cCl} {M : eM} {sc : Option (Nat × (Nat → Int32))} {ins : Instr} {len pc : Nat} {ls : List (Nat × cV)} {st : List cV} {h : List cC} {S : cS} (hs : cStep call M sc ins len pc ls st h = some S) (hw : isW ins = false) : S.2.2.2 = h := by
  unfold cStep at hs
  split at hs
  · obtain ⟨rfl, rfl⟩ := kConst_inv hs
    rfl
  · obtain ⟨rfl, rfl⟩ := kConst_inv hs
    rfl
  · obtain ⟨rfl, rfl⟩ := kConst_inv hs
    rfl
  · obtain ⟨rfl, rfl⟩ := kConst_inv hs
    rfl
  · rcases kLdc_inv hs with ⟨tx, i, hf, rfl, rfl⟩ | ⟨n, hf, rfl, rfl⟩
    · rfl
    · rfl
  · obtain ⟨n, hf, rfl, rfl⟩ := kLdcw_inv hs
    rfl
  · obtain ⟨n, hf, rfl, rfl⟩ := kLdc2_inv hs
    rfl
  · obtain ⟨x, h1, rfl, rfl⟩ := kLoadI_inv hs
    rfl
  · obtain ⟨x, h1, rfl, rfl⟩ := kLoadI_inv hs
    rfl
  · obtain ⟨x, h1, rfl, rfl⟩ := kLoadJ_inv hs
    rfl
  · obtain ⟨x, h1, rfl, rfl⟩ := kLoadJ_inv hs
    rfl
  · obtain ⟨a, h1, rfl, h2, rfl⟩ := kLoadA_inv hs
    rfl
  · obtain ⟨a, h1, rfl, h2, rfl⟩ := kLoadA_inv hs
    rfl
  · obtain ⟨x, st2, rfl, rfl, h1, rfl⟩ := kStoreI_inv hs
    rfl
  · obtain ⟨x, st2, rfl, rfl, h1, rfl⟩ := kStoreI_inv hs
    rfl
  · obtain ⟨x, st2, rfl, rfl, h1, rfl⟩ := kStoreJ_inv hs
    rfl
  · obtain ⟨x, st2, rfl, rfl, h1, rfl⟩ := kStoreJ_inv hs
    rfl
  · obtain ⟨k0, st2, rfl, rfl, h1, rfl⟩ := kStoreA_inv hs
    rfl
  · obtain ⟨k0, st2, rfl, rfl, h1, rfl⟩ := kStoreA_inv hs
    rfl
  · obtain ⟨x, h1, rfl, h2, rfl⟩ := kInc_inv hs
    rfl
  · obtain ⟨x, y, st2, rfl, rfl, h1, rfl⟩ := kBin_inv hs
    rfl
  · obtain ⟨x, y, st2, rfl, rfl, h1, rfl⟩ := kBin_inv hs
    rfl
  · obtain ⟨x, y, st2, rfl, rfl, h1, rfl⟩ := kBin_inv hs
    rfl
  · obtain ⟨x, y, st2, rfl, rfl, h1, rfl⟩ := kBin_inv hs
    rfl
  · obtain ⟨x, y, st2, rfl, rfl, h1, rfl⟩ := kBin_inv hs
    rfl
  · obtain ⟨x, y, st2, rfl, rfl, h1, rfl⟩ := kBin_inv hs
    rfl
  · obtain ⟨x, y, st2, rfl, rfl, h1, rfl⟩ := kBin_inv hs
    rfl
  · obtain ⟨x, y, st2, rfl, rfl, h1, rfl⟩ := kBin_inv hs
    rfl
  · obtain ⟨x, y, st2, rfl, rfl, h1, rfl⟩ := kBin_inv hs
    rfl
  · obtain ⟨x, y, st2, rfl, rfl, h1, rfl⟩ := kBin_inv hs
    rfl
  · obtain ⟨x, y, st2, rfl, rfl, h1, rfl⟩ := kBin_inv hs
    rfl
  · obtain ⟨x, y, st2, rfl, rfl, h1, rfl⟩ := kBinJ_inv hs
    rfl
  · obtain ⟨x, y, st2, rfl, rfl, h1, rfl⟩ := kBinJ_inv hs
    rfl
  · obtain ⟨x, y, st2, rfl, rfl, h1, rfl⟩ := kBinJ_inv hs
    rfl
  · obtain ⟨x, y, st2, rfl, rfl, h1, rfl⟩ := kBinJ_inv hs
    rfl
  · obtain ⟨x, y, st2, rfl, rfl, h1, rfl⟩ := kBinJ_inv hs
    rfl
  · obtain ⟨x, y, st2, rfl, rfl, h1, rfl⟩ := kBinJ_inv hs
    rfl
  · obtain ⟨x, y, st2, rfl, rfl, h1, rfl⟩ := kBinJ_inv hs
    rfl
  · obtain ⟨x, y, st2, rfl, rfl, h1, rfl⟩ := kShJ_inv hs
    rfl
  · obtain ⟨x, y, st2, rfl, rfl, h1, rfl⟩ := kShJ_inv hs
    rfl
  · obtain ⟨x, y, st2, rfl, rfl, h1, rfl⟩ := kCmp_inv hs
    rfl
  · obtain ⟨x, st2, rfl, rfl, rfl⟩ := kUn_inv hs
    rfl
  · obtain ⟨x, st2, rfl, rfl, rfl⟩ := kUnJ_inv hs
    rfl
  · obtain ⟨x, st2, rfl, rfl, rfl⟩ := kUn_inv hs
    rfl
  · obtain ⟨x, st2, rfl, rfl, rfl⟩ := kUn_inv hs
    rfl
  · obtain ⟨a, st2, rfl, rfl, h1, rfl⟩ := kDup_inv hs
    rfl
  · obtain ⟨a, b, st2, rfl, rfl, h1, h2, rfl⟩ := kDup2_inv hs
    rfl
  · obtain ⟨a, st2, rfl, rfl, h1, rfl⟩ := kPop_inv hs
    rfl
  · obtain ⟨t, h1, rfl, rfl⟩ := kGoto_inv hs
    rfl
  · obtain ⟨x, st2, t, rfl, h1, rfl, rfl⟩ := kIf_inv hs
    rfl
  · obtain ⟨x, y, st2, t, rfl, h1, rfl, rfl⟩ := kIc_inv hs
    rfl
  · obtain ⟨x, st2, off, t, rfl, h1, h2, rfl⟩ := kTsw_inv hs
    rfl
  · obtain ⟨x, st2, t, rfl, h1, h2, rfl⟩ := kLsw_inv hs
    rfl
  · rcases kGet_inv hs with ⟨kd, ci, fi, k0, st2, fs, a, hf, rfl, h1, h2, rfl, h3, rfl⟩ | ⟨ci, fi, n, i, st2, a, hf, rfl, h1, h2, rfl, h3, rfl⟩
    · rfl
    · rfl
  · cases hw
  · rcases kGetS_inv hs with ⟨fi, hf, rfl, rfl⟩ | ⟨fi, hf, rfl, rfl⟩
    · rfl
    · rfl
  · rcases kLen_inv hs with ⟨k0, kd, n, f, st2, rfl, h1, rfl, rfl⟩ | ⟨k0, n, f, st2, rfl, h1, rfl, rfl⟩ | ⟨L, xs, st2, rfl, h1, rfl, rfl⟩ | ⟨i, st2, rfl, h1, rfl, rfl⟩
    · rfl
    · rfl
    · rfl
    · rfl
  · rcases kIald_inv hs with ⟨k0, n, f, i, st2, rfl, h1, rfl, h2, rfl⟩ | ⟨L, xs, i, st2, rfl, h1, rfl, h2, rfl⟩
    · rfl
    · rfl
  · rcases kBald_inv hs with ⟨k0, n, f, i, st2, rfl, h1, rfl, h2, rfl⟩ | ⟨j, i, st2, rfl, h1, rfl, h2, rfl⟩
    · rfl
    · rfl
  · obtain ⟨k0, n, f, i, st2, rfl, h1, rfl, h2, rfl⟩ := kLald_inv hs
    rfl
  · obtain ⟨k0, ci, n, kr, rs, i, st2, rfl, h1, h2, rfl, h3, rfl⟩ := kAald_inv hs
    rfl
  · cases hw
  · cases hw
  · cases hw
  · cases hw
  · cases hw
  · cases hw
  · cases hs
