/-! the constructors -/
theorem s0_b : eqOS (eLoop (eCall 8) mL none 18 200 (0, [(0, .inr (.inr (.inr 0)))], [], [], 0, 0)) S0 = true := by decide +kernel
theorem s0_ok : eLoop (eCall 8) mL none 18 200 (0, [(0, .inr (.inr (.inr 0)))], [], [], 0, 0) = some S0 := eqOS_ok s0_b
