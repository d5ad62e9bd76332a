/-! THE SHAPE BEHIND THE CONSTRUCTORS IS shI -/
def shM : xH := ((9, f9 9) :: R9_9) ++ ((10, fA_19) :: RA_19)
set_option maxRecDepth 1000000 in
set_option maxHeartbeats 4000000 in
theorem shI_eq : shM ++ [(101, dJ 1)] = shI := by rfl
