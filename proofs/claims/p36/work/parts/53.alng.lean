/-! THE CHECKER, 4: longs and narrowings -/
def xL2I (B : List eP) (e : aX) : aX ⊕ eP := match w32 (xb B e) with
  | true => .inl e
  | false => .inr f32
theorem xL2I_ok {ρ : List Int} {B : List eP} (hB : okB ρ B) {e : aX} {x : Int64} (h : xv ρ e x.toInt) : rv ρ (xL2I B e) (x.toInt32).toInt := by
  unfold xL2I
  cases hw : w32 (xb B e) with
  | false => exact in_f32 _
  | true =>
    have h1 := xb_ok hB h
    have h2 := w32_ok hw
    have h3 := h1.1
    have h4 := h1.2
    show xv ρ e (x.toInt32).toInt
    rw [Int64.toInt_toInt32, bmod32 (by omega) (by omega)]
    exact h
theorem xI2L_ok {ρ : List Int} {e : aX} {x : Int32} (h : xv ρ e x.toInt) : xv ρ e (x.toInt64).toInt := by
  rw [Int32.toInt_toInt64]
  exact h
theorem xJ_any {ρ : List Int} (x : Int64) : rv ρ (.inr f64) x.toInt := in_f64 x
/-- an answer put among the symbols -/
def put (B : List eP) (r : aX ⊕ eP) : aX × List eP := match r with
  | .inl e => (e, B)
  | .inr b => (match iLe b.2 b.1 with
    | true => (.inl b.1, B)
    | false => (.inr (0, 1, B.length), B ++ [b]))
theorem put_ok {ρ : List Int} {B : List eP} (hB : okB ρ B) {r : aX ⊕ eP} {z : Int} (h : rv ρ r z) : ∃ ρ' : List Int, ρ <+: ρ' ∧ okB ρ' (put B r).2 ∧ xv ρ' (put B r).1 z := by
  match r, h with
  | .inl e, h => exact ⟨ρ, List.prefix_rfl, hB, h⟩
  | .inr b, h =>
    have h : bt2 b z := h
    unfold put
    dsimp only
    cases hb : iLe b.2 b.1 with
    | true =>
      rw [iLe_ok] at hb
      have h1 := h.1
      have h2 := h.2
      exact ⟨ρ, List.prefix_rfl, hB, by show z = b.1; omega⟩
    | false => exact ⟨ρ ++ [z], ⟨[z], rfl⟩, okB_push hB h, new_at hB z⟩
