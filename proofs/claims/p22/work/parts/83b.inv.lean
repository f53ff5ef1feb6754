/-! BY HAND, 7: what holds between the calls -/
def fI (h : List cC) (k j : Nat) : Option Int32 := match h[k]? with
  | some (.inl (_, vs)) => (match vs[j]? with
    | some (.inr (.inl x)) => some x
    | _ => none)
  | _ => none
def rE (h : List cC) (k i : Nat) : Option Int32 := match h[k]? with
  | some (.inr (.inl (_, _, f))) => some (f i)
  | _ => none
def INV (h : List cC) : Prop := HG TT [] h ∧ J9 h ∧ (∃ w : Int32, fI h 21 3 = some w ∧ rE h 183 3 = some w) ∧ ∀ k : Nat, k < 4 → ∃ b : Int32, rE h 78 k = some b ∧ rE h 204 k = some b ∧ (b = 0 ∨ (b = 1 ∧ ∃ v : Int32, fI h (35 + 13 * k) 3 = some v ∧ rE h 203 (230 * k + 3) = some v))
theorem fI_at {h : List cC} {k j ci : Nat} {vs : List cV} {x : Int32} (h1 : h[k]? = some (.inl (ci, vs))) (h2 : vs[j]? = some (cI x)) : fI h k j = some x := by
  unfold fI
  rw [h1]
  dsimp only
  rw [h2]
theorem fI_inv {h : List cC} {k j : Nat} {x : Int32} (h1 : fI h k j = some x) : ∃ (ci : Nat) (vs : List cV), h[k]? = some (.inl (ci, vs)) ∧ vs[j]? = some (cI x) := by
  unfold fI at h1
  split at h1
  · rename_i ci vs hk
    split at h1
    · rename_i y hy
      cases h1
      exact ⟨ci, vs, hk, hy⟩
    · cases h1
  · cases h1
theorem rE_at {h : List cC} {k kd n : Nat} {f : Nat → Int32} (i : Nat) (h1 : h[k]? = some (.inr (.inl (kd, n, f)))) : rE h k i = some (f i) := by
  unfold rE
  rw [h1]
theorem rE_inv {h : List cC} {k i : Nat} {x : Int32} (h1 : rE h k i = some x) : ∃ (kd n : Nat) (f : Nat → Int32), h[k]? = some (.inr (.inl (kd, n, f))) ∧ f i = x := by
  unfold rE at h1
  split at h1
  · rename_i kd n f hk
    cases h1
    exact ⟨kd, n, f, hk, rfl⟩
  · cases h1
theorem fI_keep {PT : List (Nat × sG)} {W : aW} {h h2 : List cC} (hf : Fr PT W h h2) {k j : Nat} (hw : inW W k j = false) {x : Int32} (h1 : fI h k j = some x) : fI h2 k j = some x := by
  obtain ⟨ci, vs, a1, a2⟩ := fI_inv h1
  obtain ⟨c2, b1, vs2, b2, b3⟩ := hf k _ a1
  subst b2
  exact fI_at b1 (by rw [b3 j hw]; exact a2)
theorem rE_keep {PT : List (Nat × sG)} {W : aW} {h h2 : List cC} (hf : Fr PT W h h2) {k i : Nat} (hw : inW W k 1000 = false) {x : Int32} (h1 : rE h k i = some x) : rE h2 k i = some x := by
  obtain ⟨kd, n, f, a1, a2⟩ := rE_inv h1
  obtain ⟨c2, b1, f2, b2, b3, b4⟩ := hf k _ a1
  subst b2
  rw [rE_at i b1, b3 hw, a2]
theorem rE_stay {PT : List (Nat × sG)} {W : aW} {h h2 : List cC} (hf : Fr PT W h h2) {k i : Nat} {q : sG} (hq : (k, q) ∈ PT) (hi : inS q i) {x : Int32} (h1 : rE h k i = some x) : rE h2 k i = some x := by
  obtain ⟨kd, n, f, a1, a2⟩ := rE_inv h1
  obtain ⟨c2, b1, f2, b2, b3, b4⟩ := hf k _ a1
  subst b2
  rw [rE_at i b1, b4 _ hq rfl i hi, a2]
def noT (W : aW) : Bool := !(inW W 21 3) && (!(inW W 35 3) && (!(inW W 48 3) && (!(inW W 61 3) && (!(inW W 74 3) && (!(inW W 78 1000) && !(inW W 204 1000))))))
theorem not_t {b : Bool} (h : (!b) = true) : b = false := by
  cases b with
  | false => rfl
  | true => cases h
theorem noT_ok {W : aW} (h : noT W = true) : inW W 21 3 = false ∧ (∀ k : Nat, k < 4 → inW W (35 + 13 * k) 3 = false) ∧ inW W 78 1000 = false ∧ inW W 204 1000 = false := by
  unfold noT at h
  obtain ⟨h1, h⟩ := and_inv h
  obtain ⟨h2, h⟩ := and_inv h
  obtain ⟨h3, h⟩ := and_inv h
  obtain ⟨h4, h⟩ := and_inv h
  obtain ⟨h5, h⟩ := and_inv h
  obtain ⟨h6, h7⟩ := and_inv h
  refine ⟨not_t h1, fun k hk => ?_, not_t h6, not_t h7⟩
  have : k = 0 ∨ k = 1 ∨ k = 2 ∨ k = 3 := by omega
  rcases this with rfl | rfl | rfl | rfl
  · exact not_t h2
  · exact not_t h3
  · exact not_t h4
  · exact not_t h5
theorem INV_keep {W : aW} {h h2 : List cC} (hi : INV h) (hG : HG TT [] h2) (hJ : J9 h2) (hf : Fr PT9 W h h2) (hw : noT W = true) : INV h2 := by
  obtain ⟨_, _, ⟨w, w1, w2⟩, hk⟩ := hi
  obtain ⟨n1, n2, n3, n4⟩ := noT_ok hw
  refine ⟨hG, hJ, ⟨w, fI_keep hf n1 w1, rE_stay hf (List.mem_of_getElem? (i := 0) rfl : ((183, (3, 1, 1, (0, 0))) : Nat × sG) ∈ PT9) ⟨0, by decide, rfl⟩ w2⟩, fun k hk4 => ?_⟩
  obtain ⟨b, b1, b2, b3⟩ := hk k hk4
  refine ⟨b, rE_keep hf n3 b1, rE_keep hf n4 b2, ?_⟩
  rcases b3 with b3 | ⟨b3, v, v1, v2⟩
  · exact Or.inl b3
  · exact Or.inr ⟨b3, v, fI_keep hf (n2 k hk4) v1, rE_stay hf (List.mem_of_getElem? (i := 1) rfl : ((203, (3, 230, 4, (0, 0))) : Nat × sG) ∈ PT9) ⟨k, hk4, by show 230 * k + 3 = 3 + 230 * k; omega⟩ v2⟩
/-- a public method that keeps all that is compared -/
def syL9 : Nat → Nat → List aV
  | _, 0 => []
  | i, n + 1 => aI (xs i) :: syL9 (i + 1) n
theorem syL9_ok : ∀ (n i : Nat) (ρ : List Int) (as : List Int32), as.length = n → (∀ j : Nat, (h : j < as.length) → ρ[i + j]? = some (as[j]).toInt) → okS ρ (syL9 i n) (as.map (fun x => cI x))
  | 0, i, ρ, [], _, _ => trivial
  | n + 1, i, ρ, a :: as, hl, h => ⟨vxs (by have := h 0 (by simp); simpa using this), syL9_ok n (i + 1) ρ as (by simpa using hl) (fun j hj => by
      have := h (j + 1) (by simpa using hj)
      rw [show i + 1 + j = i + (j + 1) by omega]
      simpa using this)⟩
def retI (outs : List aU) : Bool := outs.all (fun o => match o.1 with
  | some (.inr (.inl _)) => true
  | _ => false)
theorem b_f32 : ∀ (as : List Int32), okB (as.map Int32.toInt) (List.replicate as.length (-2147483648, 2147483647))
  | [] => bnil
  | a :: as => bcons (in_f32 a) (b_f32 as)
theorem pub_of {d mi k n : Nat} {W : aW} {outs : List aU} (hc : Con P9 d (mi, .inl [k] :: syL9 0 n, [], List.replicate n (-2147483648, 2147483647), [], W, outs)) (hw : noT W = true) (hr : retI outs = true) {h : List cC} (hi : INV h) {as : List Int32} (hl : as.length = n) : ∃ (r : Int32) (h2 : List cC), Trm d mi (cR k :: as.map (fun x => cI x)) h (some (cI r)) h2 ∧ INV h2 := by
  subst hl
  obtain ⟨r, h2, t1, t2, t3, t4, o, o1, ρ', o2, o3, o4, o5, o6⟩ := hc (as.map Int32.toInt) (cR k :: as.map (fun x => cI x)) h hi.1 (b_f32 as) (fun q hq => by cases hq) ⟨⟨k, List.mem_singleton.mpr rfl, rfl⟩, syL9_ok as.length 0 _ as rfl (fun j hj => by rw [Nat.zero_add, List.getElem?_map, List.getElem?_eq_getElem hj]; rfl)⟩ (fun q hq => by cases hq) hi.2.1
  have hro := List.all_eq_true.mp hr o o1
  split at hro
  · rename_i e he
    rw [he] at o6
    cases r with
    | none => exact o6.elim
    | some v =>
      obtain ⟨x, ex, _⟩ := o6
      subst ex
      exact ⟨x, h2, t1, INV_keep hi t2 t4 t3 hw⟩
  · cases hro
