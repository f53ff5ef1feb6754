def P0 : aP := (TT, [(183, 4, 1, 1, 0, 0)], [], fun _ => True)
def q1 (W : aW) : aQ := inlQ P0 W noQ 100
def q2 (W : aW) : aQ := inlQ P0 W (q1 W) 100
def q3 (W : aW) : aQ := inlQ P0 W (q2 W) 100
def q4 (W : aW) : aQ := inlQ P0 W (q3 W) 200
set_option maxRecDepth 100000 in
theorem tst1 : (q4 [(17, 3), (18, 1000), (19, 1000), (20, 1000)] 144 [.inl [0], aI (xs 0), aI (xs 1), aI (xs 2)] [] [f32, f32, f32] []).isSome = true := by decide +kernel
set_option maxRecDepth 100000 in
theorem tst2 : (q4 [(183, 1000)] 242 [.inl [170], aI (xs 0), aI (xs 1), aI (xs 2)] [] [f32, f32, f32] []).isSome = true := by decide +kernel
