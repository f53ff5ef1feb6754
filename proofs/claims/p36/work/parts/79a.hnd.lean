/-! BY HAND, 1: steps one by one -/
theorem o_step {call : cCl} {M : eM} {sc : Option (Nat × (Nat → Int32))} {ins : Instr} {len pc : Nat} {ls : List (Nat × cV)} {st : List cV} {h : List cC} {S : cS} (hf : fnd (m_il M) pc = some (ins, len)) (hs : cStep call M sc ins len pc ls st h = some S) : cOne call M sc (pc, ls, st, h) = some S := by
  unfold cOne
  dsimp only
  rw [hf]
  exact hs
section
variable {call : cCl} {M : eM} {sc : Option (Nat × (Nat → Int32))} {pc : Nat} {ls : List (Nat × cV)} {st : List cV} {h : List cC}
theorem o_iload {i : Nat} {x : Int32} (hf : fnd (m_il M) pc = some (.iload i, 2)) (hl : clk ls i = some (cI x)) : cOne call M sc (pc, ls, st, h) = some (pc + 2, ls, cI x :: st, h) := o_step hf (by
  show kLoadI i 2 2 pc ls st h = _
  unfold kLoadI
  rw [hl]
  rfl)
theorem o_iload_n {i : Fin 4} {x : Int32} (hf : fnd (m_il M) pc = some (.iload_n i, 1)) (hl : clk ls i.val = some (cI x)) : cOne call M sc (pc, ls, st, h) = some (pc + 1, ls, cI x :: st, h) := o_step hf (by
  show kLoadI i.val 1 1 pc ls st h = _
  unfold kLoadI
  rw [hl]
  rfl)
theorem o_aload_n {i : Fin 4} {k : Nat} (hf : fnd (m_il M) pc = some (.aload_n i, 1)) (hl : clk ls i.val = some (cR k)) : cOne call M sc (pc, ls, st, h) = some (pc + 1, ls, cR k :: st, h) := o_step hf (by
  show kLoadA i.val 1 1 pc ls st h = _
  unfold kLoadA
  rw [hl]
  rfl)
theorem o_get {idx kd ci fi k : Nat} {fs : List cV} {a : cV} (hf : fnd (m_il M) pc = some (.getfield idx, 3)) (ht : fnd (fTab.getD (m_o M) []) idx = some (kd, ci, fi)) (hkd : Nat.ble kd 1 = true) (hk : h[k]? = some (.inl (ci, fs))) (hv : fs[fi]? = some a) : cOne call M sc (pc, ls, cR k :: st, h) = some (pc + 3, ls, a :: st, h) := o_step hf (by
  show kGet (m_o M) idx 3 pc ls (cR k :: st) h = _
  unfold kGet
  rw [ht]
  dsimp only
  rw [hk]
  dsimp only
  rw [hv]
  exact cNx_t (by have e : Nat.beq ci ci = true := Nat.beq_refl _; rw [hkd, e]; rfl))
theorem o_iald {k n : Nat} {f : Nat → Int32} {i : Int32} (hf : fnd (m_il M) pc = some (.iaload, 1)) (hk : h[k]? = some (.inr (.inl (0, n, f)))) (hi : inB i n = true) : cOne call M sc (pc, ls, cI i :: cR k :: st, h) = some (pc + 1, ls, cI (f i.toNatClampNeg) :: st, h) := o_step hf (by
  show kIald sc 1 pc ls (cI i :: cR k :: st) h = _
  unfold kIald
  dsimp only
  rw [hk]
  exact cNx_t (by rw [hi]; rfl))
theorem o_iast {k n : Nat} {f : Nat → Int32} {i x : Int32} (hf : fnd (m_il M) pc = some (.iastore, 1)) (hk : h[k]? = some (.inr (.inl (0, n, f)))) (hi : inB i n = true) : cOne call M sc (pc, ls, cI x :: cI i :: cR k :: st, h) = some (pc + 1, ls, st, h.set k (.inr (.inl (0, n, upd f i.toNatClampNeg x)))) := o_step hf (by
  show kIast 1 pc ls (cI x :: cI i :: cR k :: st) h = _
  unfold kIast
  dsimp only
  rw [hk]
  exact cNx_t (by rw [hi]; rfl))
theorem o_len {k n kd : Nat} {f : Nat → Int32} (hf : fnd (m_il M) pc = some (.arraylength, 1)) (hk : h[k]? = some (.inr (.inl (kd, n, f)))) : cOne call M sc (pc, ls, cR k :: st, h) = some (pc + 1, ls, cI (Int32.ofNat n) :: st, h) := o_step hf (by
  show kLen sc 1 pc ls (cR k :: st) h = _
  unfold kLen
  dsimp only
  rw [hk]
  rfl)
theorem o_put {idx kd ci fi k : Nat} {fs : List cV} {a a0 : cV} {r : vw_C} (hf : fnd (m_il M) pc = some (.putfield idx, 3)) (ht : fnd (fTab.getD (m_o M) []) idx = some (kd, ci, fi)) (hkd : Nat.ble kd 1 = true) (hk : h[k]? = some (.inl (ci, fs))) (hv : fs[fi]? = some a0) (hcl : classes[ci]? = some r) (hty : okC ((tyls.getD ci []).getD fi .int) a = true) (hfi : (r.2.1 fi).2.2.2 = false) : cOne call M sc (pc, ls, a :: cR k :: st, h) = some (pc + 3, ls, st, h.set k (.inl (ci, fs.set fi a))) := o_step hf (by
  show kPut M idx 3 pc ls (a :: cR k :: st) h = _
  obtain ⟨r1, r2, r3⟩ := r
  unfold kPut
  rw [ht]
  dsimp only
  rw [hk]
  dsimp only
  rw [hv, hcl]
  exact cNx_t (by have e : Nat.beq ci ci = true := Nat.beq_refl _; dsimp only at hfi; rw [hkd, e, hty, hfi]; rfl))
end
theorem clk_st {i j : Nat} {u v : cV} {ls : List (Nat × cV)} (hij : Nat.beq i j = false) (hji : Nat.beq j i = false) (hw : wide v = false) (h : clk ls j = some v) : clk ((i, u) :: ls.filter (ckI i)) j = some v := by
  unfold clk
  rw [hij]
  refine clk_filter ?_ h
  unfold ckI
  dsimp only
  rw [hji, hw, Bool.and_false]
  rfl
theorem clk_hd {i : Nat} {u : cV} {ls : List (Nat × cV)} : clk ((i, u) :: ls) i = some u := by
  unfold clk
  rw [Nat.beq_refl]
