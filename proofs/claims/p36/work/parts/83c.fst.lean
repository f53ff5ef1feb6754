/-! BY HAND, 8: first -/
theorem HG_f {h : List cC} (hG : HG TT [] h) {k j ci : Nat} {ts : List fT} {b : eP} (hT : TT[k]? = some (.inl (ci, ts))) (hj : ts[j]? = some (.inl b)) : ∃ x : Int32, fI h k j = some x ∧ b.1 ≤ x.toInt ∧ x.toInt ≤ b.2 := by
  obtain ⟨vs, v, h1, h2, x, h3, h4⟩ := HG_get hG hT hj
  subst h3
  exact ⟨x, fI_at h1 h2, h4.1, h4.2⟩
/-- what the two calls of first leave alone -/
theorem INV_mid {W : aW} {h h2 : List cC} (hi : INV h) (hf : Fr [] W h h2) (h1 : ∀ k : Nat, k < 4 → inW W (26 + 13 * k) 4 = false) (h3 : inW W 78 1000 = false) (h4 : inW W 204 1000 = false) (h5 : inW W 203 1000 = false) : ∀ k : Nat, k < 4 → ∃ b : Int32, rE h2 78 k = some b ∧ rE h2 204 k = some b ∧ (b = 0 ∨ (b = 1 ∧ ∃ v : Int32, fI h2 (26 + 13 * k) 4 = some v ∧ rE h2 203 (230 * k + 6) = some v)) := fun k hk => by
  obtain ⟨b, b1, b2, b3⟩ := hi.2.2.2 k hk
  refine ⟨b, rE_keep hf h3 b1, rE_keep hf h4 b2, ?_⟩
  rcases b3 with b3 | ⟨b3, v, v1, v2⟩
  · exact Or.inl b3
  · exact Or.inr ⟨b3, v, fI_keep hf (h1 k hk) v1, rE_keep hf h5 v2⟩
theorem Fr_tr2 {PT : List (Nat × sG)} {W1 W2 W : aW} (h1 : subW W1 W = true) (h2 : subW W2 W = true) {a b c : List cC} (f1 : Fr PT W1 a b) (f2 : Fr PT W2 b c) : Fr PT W a c := Fr.tr h2 (Fr.tr h1 Fr.rf f1) f2
theorem ret_c {ρ : List Int} {c : Int} {r : Option cV} (h : retV ρ (some (.inr (.inl (.inl c)))) r) : ∃ x : Int32, r = some (cI x) ∧ x.toInt = c := by
  cases r with
  | none => exact h.elim
  | some v =>
    obtain ⟨x, h1, h2⟩ := h
    subst h1
    exact ⟨x, rfl, h2⟩
theorem ret_s {ρ : List Int} {i : Nat} {z : Int} (hz : ρ[i]? = some z) {r : Option cV} (h : retV ρ (some (.inr (.inl (.inr (0, 1, i))))) r) : ∃ x : Int32, r = some (cI x) ∧ x.toInt = z := by
  cases r with
  | none => exact h.elim
  | some v =>
    obtain ⟨x, h1, y, h2, h3⟩ := h
    subst h1
    rw [hz] at h2
    cases h2
    exact ⟨x, rfl, by omega⟩
theorem okF_fI {ρ : List Int} {F : List (Nat × Nat × aV)} {h : List cC} (hF : okF ρ F h) {k j i : Nat} (hm : (k, j, .inr (.inl (.inr (0, 1, i)))) ∈ F) {a : Int32} (hz : ρ[i]? = some a.toInt) : fI h k j = some a := by
  obtain ⟨ci, vs, x, h1, h2, h3⟩ := vF hF hm hz
  have e : x = a := Int32.toInt_inj.mp (by omega)
  subst e
  exact fI_at h1 h2
theorem okR_rE {ρ : List Int} {h : List cC} {k i n : Nat} (hq : okR1 ρ h (.inr (.inr (.inl (k, i, .inr (0, 1, n)))))) {a : Int32} (hz : ρ[n]? = some a.toInt) : rE h k i = some a := by
  obtain ⟨kd, m, f, h1, r, h2, h3⟩ := hq
  rw [hz] at h2
  cases h2
  have e : f i = a := Int32.toInt_inj.mp (by omega)
  rw [rE_at i h1, e]
theorem rE_okR {ρ : List Int} {h : List cC} {k i n : Nat} {a : Int32} (h1 : rE h k i = some a) (hz : ρ[n]? = some a.toInt) : okR1 ρ h (.inr (.inr (.inl (k, i, .inr (0, 1, n))))) := by
  obtain ⟨kd, m, f, h2, h3⟩ := rE_inv h1
  exact ⟨kd, m, f, h2, a.toInt, hz, by rw [h3]; omega⟩
theorem first_pair {h : List cC} (hi : INV h) (s : Int32) : ∃ (r : Int32) (h1 h2 : List cC), Trm 2 fn_firstX.1 [cR 0, cI s] h (some (cI r)) h1 ∧ HG TT [] h1 ∧ (NSh h → NSh h2) ∧ Trm 2 fn_firstM.1 [cR 170, cI s] h1 (some (cI r)) h2 ∧ INV h2 := by
  obtain ⟨w, w1, w2⟩ := hi.2.2.1
  obtain ⟨w', b1, b2, b3⟩ := HG_f hi.1 (k := 12) (j := 4) (b := (-2147483648, 2147483647)) rfl rfl
  rw [w1] at b1
  cases b1
  dsimp only at b2 b3
  obtain ⟨ci, vs, f1, f2⟩ := fI_inv w1
  have hB : okB [s.toInt, w.toInt] [(-2147483648, 2147483647), (-2147483648, 2147483647)] := bcons (in_f32 s) (bcons ⟨b2, b3⟩ bnil)
  obtain ⟨r, h1, t1, t2, t3, t4, o, o1, ρ', o2, o3, o4, o5, o6⟩ := ft_firstX [s.toInt, w.toInt] [cR 0, cI s] h hi.1 hB (fun q hq => by cases hq) ⟨⟨0, List.mem_singleton.mpr rfl, rfl⟩, vxs rfl, trivial⟩ (fun q hq => by
    have e := List.mem_singleton.mp hq
    subst e
    exact ⟨ci, vs, _, f1, f2, vxs rfl⟩) hi.2.1
  have r0 : ρ'[0]? = some s.toInt := at_mono o2 rfl
  have r1 : ρ'[1]? = some w.toInt := at_mono o2 rfl
  have m2 : rE h1 183 6 = some w := rE_keep t3 rfl w2
  obtain ⟨r', h2, u1, u2, u3, u4, p, p1, σ, p2, p3, p4, p5, p6⟩ := ft_firstM [s.toInt, w.toInt] [cR 170, cI s] h1 t2 hB (fun q hq => by
    have e := List.mem_singleton.mp hq
    subst e
    exact rE_okR m2 rfl) ⟨⟨170, List.mem_singleton.mpr rfl, rfl⟩, vxs rfl, trivial⟩ (fun q hq => by cases hq) t4
  have s0 : σ[0]? = some s.toInt := at_mono p2 rfl
  have s1 : σ[1]? = some w.toInt := at_mono p2 rfl
  have hfr : Fr [] [(12, 4), (183, 1000)] h h2 := Fr_tr2 rfl rfl t3 u3
  have nsh : NSh h → NSh h2 := fun n => ns_of (n := 1) nt_first rfl t2 t4 [s] rfl u1 (NSh_sm hi.1 (SM_of t3 rfl rfl) n)
  have hmid := INV_mid hi hfr (fun k hk => by
    have : k = 0 ∨ k = 1 ∨ k = 2 ∨ k = 3 := by omega
    rcases this with rfl | rfl | rfl | rfl <;> rfl) rfl rfl rfl
  simp only [List.mem_cons, List.not_mem_nil, or_false] at o1 p1
  have neg : ∀ (x y : Int32), x.toInt = -1 → y.toInt = -1 → x = y := fun x y hx hy => Int32.toInt_inj.mp (by omega)
  rcases o1 with rfl | rfl <;> rcases p1 with rfl | rfl
  all_goals (have bo := okB_at o3 (i := 0) rfl r0; have bp := okB_at p3 (i := 0) rfl s0; dsimp only at bo bp)
  · obtain ⟨x, e1, x1⟩ := ret_c o6
    obtain ⟨y, e2, y1⟩ := ret_c p6
    subst e1 e2
    rw [neg y x y1 x1] at u1
    exact ⟨x, h1, h2, t1, t2, nsh, u1, u2, u4, ⟨w, fI_keep u3 rfl (okF_fI o5 (List.mem_of_getElem? (i := 0) rfl) r1), okR_rE (p4 _ (List.mem_of_getElem? (i := 0) rfl)) s1⟩, hmid⟩
  · omega
  · omega
  · obtain ⟨x, e1, x1⟩ := ret_s r1 o6
    obtain ⟨y, e2, y1⟩ := ret_s s1 p6
    subst e1 e2
    have exy : y = x := Int32.toInt_inj.mp (by omega)
    subst exy
    exact ⟨y, h1, h2, t1, t2, nsh, u1, u2, u4, ⟨s, fI_keep u3 rfl (okF_fI o5 (List.mem_of_getElem? (i := 0) rfl) r0), okR_rE (p4 _ (List.mem_of_getElem? (i := 0) rfl)) s0⟩, hmid⟩
