/-! BITS of sets of ten people -/
def bN (x : Nat) : Nat := (List.range 10).foldl (fun n k => n + (x >>> k) % 2) 0
def bOf (x k : Nat) : Bool := Nat.beq ((x >>> k) % 2) 1
theorem bN_less_b : (List.range 1024).all (fun x => Nat.beq x 0 || Nat.beq (bN (x &&& (x - 1)) + 1) (bN x)) = true := by decide +kernel
theorem bN_less {x : Nat} (h0 : 0 < x) (h : x < 1024) : bN (x &&& (x - 1)) + 1 = bN x := by
  have h1 := List.all_eq_true.mp bN_less_b x (List.mem_range.mpr h)
  cases e : Nat.beq x 0 with
  | true => have := Nat.eq_of_beq_eq_true e; omega
  | false =>
    rw [e] at h1
    exact Nat.eq_of_beq_eq_true h1
theorem bN_0 : bN 0 = 0 := by decide
theorem bN_more_b : (List.range 1024).all (fun x => (List.range 10).all (fun k => bOf x k || Nat.beq (bN (x ||| 1 <<< k)) (bN x + 1))) = true := by decide +kernel
theorem bN_more {x k : Nat} (h : x < 1024) (hk : k < 10) (hn : bOf x k = false) : bN (x ||| 1 <<< k) = bN x + 1 := by
  have h1 := List.all_eq_true.mp (List.all_eq_true.mp bN_more_b x (List.mem_range.mpr h)) k (List.mem_range.mpr hk)
  rw [hn] at h1
  exact Nat.eq_of_beq_eq_true h1
theorem bN_nine_b : (List.range 1024).all (fun x => (List.range 10).all (fun k => bOf x k || Nat.ble (bN x) 9)) = true := by decide +kernel
theorem bN_nine {x k : Nat} (h : x < 1024) (hk : k < 10) (hn : bOf x k = false) : bN x ≤ 9 := by
  have h1 := List.all_eq_true.mp (List.all_eq_true.mp bN_nine_b x (List.mem_range.mpr h)) k (List.mem_range.mpr hk)
  rw [hn] at h1
  exact Nat.le_of_ble_eq_true h1
theorem bOf_more_b : (List.range 1024).all (fun x => (List.range 10).all (fun k => (List.range 10).all (fun j => bOf (x ||| 1 <<< k) j == (bOf x j || Nat.beq j k)))) = true := by decide +kernel
theorem bOf_more {x k j : Nat} (h : x < 1024) (hk : k < 10) (hj : j < 10) : bOf (x ||| 1 <<< k) j = (bOf x j || Nat.beq j k) := by
  have h1 := List.all_eq_true.mp (List.all_eq_true.mp (List.all_eq_true.mp bOf_more_b x (List.mem_range.mpr h)) k (List.mem_range.mpr hk)) j (List.mem_range.mpr hj)
  exact eq_of_beq h1
theorem bN_pos {x : Nat} (h0 : 0 < x) (h : x < 1024) : 0 < bN x := by
  have := bN_less h0 h
  omega
