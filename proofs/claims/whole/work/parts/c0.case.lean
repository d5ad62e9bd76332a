/-! THE LAW: its cases -/
def CK (μ : MM) (i : Int32) (L : (Int32 → xH → Nat → Option (Int32 × xH × Nat)) → Int32 → xH → Nat → Option (Int32 × xH × Nat)) : Prop := ∃ ξ e, e ≤ 1 ∧ RR TT ξ ∧ ∀ K ex, L K i (mem μ) ex = K i (mem ξ) (ex + e)
section Lw
variable {μ : MM} {S : List Int32} {i : Int32} {v : Nat → Int32}
def SC (S : List Int32) (i : Int32) (v : Nat → Int32) : Prop := sc S (i + 1) = some (v 1) ∧ sc S (i + 2) = some (v 2) ∧ sc S (i + 3) = some (v 3) ∧ sc S (i + 4) = some (v 4) ∧ sc S (i + 5) = some (v 5)
theorem lc_feed (h : RR TT μ) (hs : SC S i v) : CK μ i (f_L_C220 S 0 168 532) := by
  obtain ⟨A, hA, hC, hM⟩ := h
  obtain ⟨s1, s2, s3, s4, s5⟩ := hs
  obtain ⟨ξ, e, e1, r, q⟩ := op_feed TT_F hA hC hM (fun q => v (q + 1))
  refine ⟨ξ, e, e1, r, fun K ex => ?_⟩
  rw [← q K i ex]
  simp only [f_L_C220, LI, ↓hbind s1, ↓hbind s2, ↓hbind s3, ↓hbind s4, ↓hbind s5]
theorem lc_text (h : RR TT μ) (hs : SC S i v) : CK μ i (f_L_C293 S 0 168 532) := by
  obtain ⟨A, hA, hC, hM⟩ := h
  obtain ⟨s1, s2, s3, s4, s5⟩ := hs
  obtain ⟨ξ, e, e1, r, q⟩ := op_text TT_F hA hC hM (v 1)
  refine ⟨ξ, e, e1, r, fun K ex => ?_⟩
  rw [← q K i ex]
  simp only [f_L_C293, f_L_text, LB, ↓hbind s1]
theorem lc_fault (h : RR TT μ) (hs : SC S i v) : CK μ i (f_L_C349 S 0 168 532) := by
  obtain ⟨A, hA, hC, hM⟩ := h
  obtain ⟨s1, s2, s3, s4, s5⟩ := hs
  obtain ⟨ξ, e, e1, r, q⟩ := op_fault TT_F hA hC hM 
  refine ⟨ξ, e, e1, r, fun K ex => ?_⟩
  rw [← q K i ex]
  simp only [f_L_C349, LI]
theorem lc_told (h : RR TT μ) (hs : SC S i v) : CK μ i (f_L_C362 S 0 168 532) := by
  obtain ⟨A, hA, hC, hM⟩ := h
  obtain ⟨s1, s2, s3, s4, s5⟩ := hs
  obtain ⟨ξ, e, e1, r, q⟩ := op_told TT_F hA hC hM (v 1)
  refine ⟨ξ, e, e1, r, fun K ex => ?_⟩
  rw [← q K i ex]
  simp only [f_L_C362, f_L_told, LB, ↓hbind s1]
theorem lc_partner (h : RR TT μ) (hs : SC S i v) : CK μ i (f_L_C418 S 0 168 532) := by
  obtain ⟨A, hA, hC, hM⟩ := h
  obtain ⟨s1, s2, s3, s4, s5⟩ := hs
  obtain ⟨ξ, e, e1, r, q⟩ := op_partner TT_F hA hC hM (v 1) (v 2)
  refine ⟨ξ, e, e1, r, fun K ex => ?_⟩
  rw [← q K i ex]
  simp only [f_L_C418, f_L_partner, LB, ↓hbind s1, ↓hbind s2]
theorem lc_cost (h : RR TT μ) (hs : SC S i v) : CK μ i (f_L_C486 S 0 168 532) := by
  obtain ⟨A, hA, hC, hM⟩ := h
  obtain ⟨s1, s2, s3, s4, s5⟩ := hs
  obtain ⟨ξ, e, e1, r, q⟩ := op_cost TT_F hA hC hM (v 1) (v 2)
  refine ⟨ξ, e, e1, r, fun K ex => ?_⟩
  rw [← q K i ex]
  simp only [f_L_C486, f_L_cost, LB, ↓hbind s1, ↓hbind s2]
theorem lc_fits (h : RR TT μ) (hs : SC S i v) : CK μ i (f_L_C554 S 0 168 532) := by
  obtain ⟨A, hA, hC, hM⟩ := h
  obtain ⟨s1, s2, s3, s4, s5⟩ := hs
  obtain ⟨ξ, e, e1, r, q⟩ := op_fits TT_F hA hC hM (v 1) (v 2)
  refine ⟨ξ, e, e1, r, fun K ex => ?_⟩
  rw [← q K i ex]
  simp only [f_L_C554, f_L_fits, LB, ↓hbind s1, ↓hbind s2]
theorem lc_way (h : RR TT μ) (hs : SC S i v) : CK μ i (f_L_C622 S 0 168 532) := by
  obtain ⟨A, hA, hC, hM⟩ := h
  obtain ⟨s1, s2, s3, s4, s5⟩ := hs
  obtain ⟨ξ, e, e1, r, q⟩ := op_way TT_F hA hC hM 
  refine ⟨ξ, e, e1, r, fun K ex => ?_⟩
  rw [← q K i ex]
  simp only [f_L_C622, LI]
theorem lc_wayAt (h : RR TT μ) (hs : SC S i v) : CK μ i (f_L_C635 S 0 168 532) := by
  obtain ⟨A, hA, hC, hM⟩ := h
  obtain ⟨s1, s2, s3, s4, s5⟩ := hs
  obtain ⟨ξ, e, e1, r, q⟩ := op_wayAt TT_F hA hC hM (v 1)
  refine ⟨ξ, e, e1, r, fun K ex => ?_⟩
  rw [← q K i ex]
  simp only [f_L_C635, f_L_wayAt, LB, ↓hbind s1]
theorem lc_wayFrom (h : RR TT μ) (hs : SC S i v) : CK μ i (f_L_C691 S 0 168 532) := by
  obtain ⟨A, hA, hC, hM⟩ := h
  obtain ⟨s1, s2, s3, s4, s5⟩ := hs
  obtain ⟨ξ, e, e1, r, q⟩ := op_wayFrom TT_F hA hC hM (v 1) (v 2)
  refine ⟨ξ, e, e1, r, fun K ex => ?_⟩
  rw [← q K i ex]
  simp only [f_L_C691, f_L_wayFrom, LB, ↓hbind s1, ↓hbind s2]
theorem lc_phases (h : RR TT μ) (hs : SC S i v) : CK μ i (f_L_C759 S 0 168 532) := by
  obtain ⟨A, hA, hC, hM⟩ := h
  obtain ⟨s1, s2, s3, s4, s5⟩ := hs
  obtain ⟨ξ, e, e1, r, q⟩ := op_phases TT_F hA hC hM (v 1)
  refine ⟨ξ, e, e1, r, fun K ex => ?_⟩
  rw [← q K i ex]
  simp only [f_L_C759, f_L_phases, LB, ↓hbind s1]
theorem lc_phased (h : RR TT μ) (hs : SC S i v) : CK μ i (f_L_C815 S 0 168 532) := by
  obtain ⟨A, hA, hC, hM⟩ := h
  obtain ⟨s1, s2, s3, s4, s5⟩ := hs
  obtain ⟨ξ, e, e1, r, q⟩ := op_phased TT_F hA hC hM (v 1)
  refine ⟨ξ, e, e1, r, fun K ex => ?_⟩
  rw [← q K i ex]
  simp only [f_L_C815, f_L_phased, LB, ↓hbind s1]
theorem lc_most (h : RR TT μ) (hs : SC S i v) : CK μ i (f_L_C871 S 0 168 532) := by
  obtain ⟨A, hA, hC, hM⟩ := h
  obtain ⟨s1, s2, s3, s4, s5⟩ := hs
  obtain ⟨ξ, e, e1, r, q⟩ := op_most TT_F hA hC hM 
  refine ⟨ξ, e, e1, r, fun K ex => ?_⟩
  rw [← q K i ex]
  simp only [f_L_C871, LI]
theorem lc_reached (h : RR TT μ) (hs : SC S i v) : CK μ i (f_L_C884 S 0 168 532) := by
  obtain ⟨A, hA, hC, hM⟩ := h
  obtain ⟨s1, s2, s3, s4, s5⟩ := hs
  obtain ⟨ξ, e, e1, r, q⟩ := op_reached TT_F hA hC hM (v 1)
  refine ⟨ξ, e, e1, r, fun K ex => ?_⟩
  rw [← q K i ex]
  simp only [f_L_C884, f_L_reached, LB, ↓hbind s1]
theorem lc_cover (h : RR TT μ) (hs : SC S i v) : CK μ i (f_L_C940 S 0 168 532) := by
  obtain ⟨A, hA, hC, hM⟩ := h
  obtain ⟨s1, s2, s3, s4, s5⟩ := hs
  obtain ⟨ξ, e, e1, r, q⟩ := op_cover TT_F hA hC hM (v 1)
  refine ⟨ξ, e, e1, r, fun K ex => ?_⟩
  rw [← q K i ex]
  simp only [f_L_C940, f_L_cover, LB, ↓hbind s1]
theorem lc_of (h : RR TT μ) (hs : SC S i v) : CK μ i (f_L_C996 S 0 168 532) := by
  obtain ⟨A, hA, hC, hM⟩ := h
  obtain ⟨s1, s2, s3, s4, s5⟩ := hs
  obtain ⟨ξ, e, e1, r, q⟩ := op_of TT_F hA hC hM (v 1) (v 2) (v 3)
  refine ⟨ξ, e, e1, r, fun K ex => ?_⟩
  rw [← q K i ex]
  simp only [f_L_C996, f_L_of, LB, ↓hbind s1, ↓hbind s2, ↓hbind s3]
theorem lc_fit (h : RR TT μ) (hs : SC S i v) : CK μ i (f_L_C1076 S 0 168 532) := by
  obtain ⟨A, hA, hC, hM⟩ := h
  obtain ⟨s1, s2, s3, s4, s5⟩ := hs
  obtain ⟨ξ, e, e1, r, q⟩ := op_fit TT_F hA hC hM (v 1) (v 2)
  refine ⟨ξ, e, e1, r, fun K ex => ?_⟩
  rw [← q K i ex]
  simp only [f_L_C1076, f_L_fit, LB, ↓hbind s1, ↓hbind s2]
theorem lc_fitMany (h : RR TT μ) (hs : SC S i v) : CK μ i (f_L_C1144 S 0 168 532) := by
  obtain ⟨A, hA, hC, hM⟩ := h
  obtain ⟨s1, s2, s3, s4, s5⟩ := hs
  obtain ⟨ξ, e, e1, r, q⟩ := op_fitMany TT_F hA hC hM (v 1)
  refine ⟨ξ, e, e1, r, fun K ex => ?_⟩
  rw [← q K i ex]
  simp only [f_L_C1144, f_L_fitMany, LB, ↓hbind s1]
theorem lc_lack (h : RR TT μ) (hs : SC S i v) : CK μ i (f_L_C1200 S 0 168 532) := by
  obtain ⟨A, hA, hC, hM⟩ := h
  obtain ⟨s1, s2, s3, s4, s5⟩ := hs
  obtain ⟨ξ, e, e1, r, q⟩ := op_lack TT_F hA hC hM (v 1)
  refine ⟨ξ, e, e1, r, fun K ex => ?_⟩
  rw [← q K i ex]
  simp only [f_L_C1200, f_L_lack, LB, ↓hbind s1]
theorem lc_hall (h : RR TT μ) (hs : SC S i v) : CK μ i (f_L_C1256 S 0 168 532) := by
  obtain ⟨A, hA, hC, hM⟩ := h
  obtain ⟨s1, s2, s3, s4, s5⟩ := hs
  obtain ⟨ξ, e, e1, r, q⟩ := op_hall TT_F hA hC hM (v 1)
  refine ⟨ξ, e, e1, r, fun K ex => ?_⟩
  rw [← q K i ex]
  simp only [f_L_C1256, f_L_hall, LB, ↓hbind s1]
theorem lc_many (h : RR TT μ) (hs : SC S i v) : CK μ i (f_L_C1312 S 0 168 532) := by
  obtain ⟨A, hA, hC, hM⟩ := h
  obtain ⟨s1, s2, s3, s4, s5⟩ := hs
  obtain ⟨ξ, e, e1, r, q⟩ := op_many hA hC hM 
  refine ⟨ξ, e, e1, r, fun K ex => ?_⟩
  rw [← q K i ex]
  simp only [f_L_C1312, LJ]
theorem lc_cheap (h : RR TT μ) (hs : SC S i v) : CK μ i (f_L_C1326 S 0 168 532) := by
  obtain ⟨A, hA, hC, hM⟩ := h
  obtain ⟨s1, s2, s3, s4, s5⟩ := hs
  obtain ⟨ξ, e, e1, r, q⟩ := op_cheap hA hC hM (v 1)
  refine ⟨ξ, e, e1, r, fun K ex => ?_⟩
  rw [← q K i ex]
  simp only [f_L_C1326, f_L_cheap, LB, ↓hbind s1]
theorem lc_cheapest (h : RR TT μ) (hs : SC S i v) : CK μ i (f_L_C1382 S 0 168 532) := by
  obtain ⟨A, hA, hC, hM⟩ := h
  obtain ⟨s1, s2, s3, s4, s5⟩ := hs
  obtain ⟨ξ, e, e1, r, q⟩ := op_cheapest hA hC hM (v 1)
  refine ⟨ξ, e, e1, r, fun K ex => ?_⟩
  rw [← q K i ex]
  simp only [f_L_C1382, f_L_cheapest, LB, ↓hbind s1]
theorem lc_narrow (h : RR TT μ) (hs : SC S i v) : CK μ i (f_L_C1438 S 0 168 532) := by
  obtain ⟨A, hA, hC, hM⟩ := h
  obtain ⟨s1, s2, s3, s4, s5⟩ := hs
  obtain ⟨ξ, e, e1, r, q⟩ := op_narrow TT_F hA hC hM 
  refine ⟨ξ, e, e1, r, fun K ex => ?_⟩
  rw [← q K i ex]
  simp only [f_L_C1438, LI]
theorem lc_more (h : RR TT μ) (hs : SC S i v) : CK μ i (f_L_C1451 S 0 168 532) := by
  obtain ⟨A, hA, hC, hM⟩ := h
  obtain ⟨s1, s2, s3, s4, s5⟩ := hs
  obtain ⟨ξ, e, e1, r, q⟩ := op_more TT_F hA hC hM (v 1)
  refine ⟨ξ, e, e1, r, fun K ex => ?_⟩
  rw [← q K i ex]
  simp only [f_L_C1451, f_L_more, LB, ↓hbind s1]
theorem lc_fewest (h : RR TT μ) (hs : SC S i v) : CK μ i (f_L_C1507 S 0 168 532) := by
  obtain ⟨A, hA, hC, hM⟩ := h
  obtain ⟨s1, s2, s3, s4, s5⟩ := hs
  obtain ⟨ξ, e, e1, r, q⟩ := op_fewest TT_F hA hC hM (v 1)
  refine ⟨ξ, e, e1, r, fun K ex => ?_⟩
  rw [← q K i ex]
  simp only [f_L_C1507, f_L_fewest, LB, ↓hbind s1]
theorem lc_chosen (h : RR TT μ) (hs : SC S i v) : CK μ i (f_L_C1563 S 0 168 532) := by
  obtain ⟨A, hA, hC, hM⟩ := h
  obtain ⟨s1, s2, s3, s4, s5⟩ := hs
  obtain ⟨ξ, e, e1, r, q⟩ := op_chosen TT_F hA hC hM (v 1)
  refine ⟨ξ, e, e1, r, fun K ex => ?_⟩
  rw [← q K i ex]
  simp only [f_L_C1563, f_L_chosen, LB, ↓hbind s1]
theorem lc_rounds (h : RR TT μ) (hs : SC S i v) : CK μ i (f_L_C1619 S 0 168 532) := by
  obtain ⟨A, hA, hC, hM⟩ := h
  obtain ⟨s1, s2, s3, s4, s5⟩ := hs
  obtain ⟨ξ, e, e1, r, q⟩ := op_rounds TT_F hA hC hM 
  refine ⟨ξ, e, e1, r, fun K ex => ?_⟩
  rw [← q K i ex]
  simp only [f_L_C1619, LI]
theorem lc_round (h : RR TT μ) (hs : SC S i v) : CK μ i (f_L_C1632 S 0 168 532) := by
  obtain ⟨A, hA, hC, hM⟩ := h
  obtain ⟨s1, s2, s3, s4, s5⟩ := hs
  obtain ⟨ξ, e, e1, r, q⟩ := op_round TT_F hA hC hM (v 1) (v 2)
  refine ⟨ξ, e, e1, r, fun K ex => ?_⟩
  rw [← q K i ex]
  simp only [f_L_C1632, f_L_round, LB, ↓hbind s1, ↓hbind s2]
theorem lc_add (h : RR TT μ) (hs : SC S i v) : CK μ i (f_L_C1700 S 0 168 532) := by
  obtain ⟨A, hA, hC, hM⟩ := h
  obtain ⟨s1, s2, s3, s4, s5⟩ := hs
  obtain ⟨ξ, e, e1, r, q⟩ := op_add TT_F hA hC hM (v 1) (v 2) (v 3)
  refine ⟨ξ, e, e1, r, fun K ex => ?_⟩
  rw [← q K i ex]
  simp only [f_L_C1700, f_L_add, LB, ↓hbind s1, ↓hbind s2, ↓hbind s3]
theorem lc_drop (h : RR TT μ) (hs : SC S i v) : CK μ i (f_L_C1780 S 0 168 532) := by
  obtain ⟨A, hA, hC, hM⟩ := h
  obtain ⟨s1, s2, s3, s4, s5⟩ := hs
  obtain ⟨ξ, e, e1, r, q⟩ := op_drop TT_F hA hC hM (v 1) (v 2)
  refine ⟨ξ, e, e1, r, fun K ex => ?_⟩
  rw [← q K i ex]
  simp only [f_L_C1780, f_L_drop, LB, ↓hbind s1, ↓hbind s2]
theorem lc_is (h : RR TT μ) (hs : SC S i v) : CK μ i (f_L_C1848 S 0 168 532) := by
  obtain ⟨A, hA, hC, hM⟩ := h
  obtain ⟨s1, s2, s3, s4, s5⟩ := hs
  obtain ⟨ξ, e, e1, r, q⟩ := op_is TT_F hA hC hM (v 1) (v 2) (v 3)
  refine ⟨ξ, e, e1, r, fun K ex => ?_⟩
  rw [← q K i ex]
  simp only [f_L_C1848, f_L_is, LB, ↓hbind s1, ↓hbind s2, ↓hbind s3]
theorem lc_pair (h : RR TT μ) (hs : SC S i v) : CK μ i (f_L_C1928 S 0 168 532) := by
  obtain ⟨A, hA, hC, hM⟩ := h
  obtain ⟨s1, s2, s3, s4, s5⟩ := hs
  obtain ⟨ξ, e, e1, r, q⟩ := op_pair TT_F hA hC hM (v 1) (v 2)
  refine ⟨ξ, e, e1, r, fun K ex => ?_⟩
  rw [← q K i ex]
  simp only [f_L_C1928, f_L_pair, LB, ↓hbind s1, ↓hbind s2]
theorem lc_part (h : RR TT μ) (hs : SC S i v) : CK μ i (f_L_C1996 S 0 168 532) := by
  obtain ⟨A, hA, hC, hM⟩ := h
  obtain ⟨s1, s2, s3, s4, s5⟩ := hs
  obtain ⟨ξ, e, e1, r, q⟩ := op_part TT_F hA hC hM (v 1)
  refine ⟨ξ, e, e1, r, fun K ex => ?_⟩
  rw [← q K i ex]
  simp only [f_L_C1996, f_L_part, LB, ↓hbind s1]
theorem lc_weight (h : RR TT μ) (hs : SC S i v) : CK μ i (f_L_C2052 S 0 168 532) := by
  obtain ⟨A, hA, hC, hM⟩ := h
  obtain ⟨s1, s2, s3, s4, s5⟩ := hs
  obtain ⟨ξ, e, e1, r, q⟩ := op_weight TT_F hA hC hM (v 1) (v 2)
  refine ⟨ξ, e, e1, r, fun K ex => ?_⟩
  rw [← q K i ex]
  simp only [f_L_C2052, f_L_weight, LB, ↓hbind s1, ↓hbind s2]
theorem lc_trade (h : RR TT μ) (hs : SC S i v) : CK μ i (f_L_C2120 S 0 168 532) := by
  obtain ⟨A, hA, hC, hM⟩ := h
  obtain ⟨s1, s2, s3, s4, s5⟩ := hs
  obtain ⟨ξ, e, e1, r, q⟩ := op_trade TT_F hA hC hM 
  refine ⟨ξ, e, e1, r, fun K ex => ?_⟩
  rw [← q K i ex]
  simp only [f_L_C2120, LI]
theorem lc_keep (h : RR TT μ) (hs : SC S i v) : CK μ i (f_L_C2133 S 0 168 532) := by
  obtain ⟨A, hA, hC, hM⟩ := h
  obtain ⟨s1, s2, s3, s4, s5⟩ := hs
  obtain ⟨ξ, e, e1, r, q⟩ := op_keep TT_F hA hC hM (v 1)
  refine ⟨ξ, e, e1, r, fun K ex => ?_⟩
  rw [← q K i ex]
  simp only [f_L_C2133, f_L_keep, LB, ↓hbind s1]
theorem lc_settle (h : RR TT μ) (hs : SC S i v) : CK μ i (f_L_C2189 S 0 168 532) := by
  obtain ⟨A, hA, hC, hM⟩ := h
  obtain ⟨s1, s2, s3, s4, s5⟩ := hs
  obtain ⟨ξ, e, e1, r, q⟩ := op_settle TT_F hA hC hM (v 1)
  refine ⟨ξ, e, e1, r, fun K ex => ?_⟩
  rw [← q K i ex]
  simp only [f_L_C2189, f_L_settle, LB, ↓hbind s1]
theorem lc_undo (h : RR TT μ) (hs : SC S i v) : CK μ i (f_L_C2245 S 0 168 532) := by
  obtain ⟨A, hA, hC, hM⟩ := h
  obtain ⟨s1, s2, s3, s4, s5⟩ := hs
  obtain ⟨ξ, e, e1, r, q⟩ := op_undo TT_F hA hC hM 
  refine ⟨ξ, e, e1, r, fun K ex => ?_⟩
  rw [← q K i ex]
  simp only [f_L_C2245, LI]
theorem lc_print (h : RR TT μ) (hs : SC S i v) : CK μ i (f_L_C2258 S 0 168 532) := by
  obtain ⟨A, hA, hC, hM⟩ := h
  obtain ⟨s1, s2, s3, s4, s5⟩ := hs
  obtain ⟨ξ, e, e1, r, q⟩ := op_print TT_F hA hC hM 
  refine ⟨ξ, e, e1, r, fun K ex => ?_⟩
  rw [← q K i ex]
  simp only [f_L_C2258, LJ]
theorem lc_status (h : RR TT μ) (hs : SC S i v) : CK μ i (f_L_C2272 S 0 168 532) := by
  obtain ⟨A, hA, hC, hM⟩ := h
  obtain ⟨s1, s2, s3, s4, s5⟩ := hs
  obtain ⟨ξ, e, e1, r, q⟩ := op_status TT_F hA hC hM (v 1)
  refine ⟨ξ, e, e1, r, fun K ex => ?_⟩
  rw [← q K i ex]
  simp only [f_L_C2272, LI, ↓hbind s1]
/-- any case -/
theorem lc_any (h : RR TT μ) (hs : SC S i v) (u : Int32) : CK μ i (fun K => f_L_S S 0 168 532 K u) := by
  by_cases c : u.toInt < 0 ∨ 40 < u.toInt
  · refine ⟨μ, 0, Nat.zero_le _, h, fun K ex => ?_⟩
    show f_L_S S 0 168 532 K u i (mem μ) ex = K i (mem μ) (ex + 0)
    rw [f_L_S, if_pos c]; rfl
  · obtain ⟨k, hk⟩ : ∃ k, (u.toInt - 0).toNat = k := ⟨_, rfl⟩
    have k40 : k < 41 := by omega
    match k, k40, hk with
    | 0, _, hk =>
      obtain ⟨ξ, e, e1, r, q⟩ := lc_feed h hs
      refine ⟨ξ, e, e1, r, fun K ex => ?_⟩
      show f_L_S S 0 168 532 K u i (mem μ) ex = _
      rw [f_L_S, if_neg c, tsf_at hk]
      exact q K ex
    | 1, _, hk =>
      obtain ⟨ξ, e, e1, r, q⟩ := lc_text h hs
      refine ⟨ξ, e, e1, r, fun K ex => ?_⟩
      show f_L_S S 0 168 532 K u i (mem μ) ex = _
      rw [f_L_S, if_neg c, tsf_at hk]
      exact q K ex
    | 2, _, hk =>
      obtain ⟨ξ, e, e1, r, q⟩ := lc_fault h hs
      refine ⟨ξ, e, e1, r, fun K ex => ?_⟩
      show f_L_S S 0 168 532 K u i (mem μ) ex = _
      rw [f_L_S, if_neg c, tsf_at hk]
      exact q K ex
    | 3, _, hk =>
      obtain ⟨ξ, e, e1, r, q⟩ := lc_told h hs
      refine ⟨ξ, e, e1, r, fun K ex => ?_⟩
      show f_L_S S 0 168 532 K u i (mem μ) ex = _
      rw [f_L_S, if_neg c, tsf_at hk]
      exact q K ex
    | 4, _, hk =>
      obtain ⟨ξ, e, e1, r, q⟩ := lc_partner h hs
      refine ⟨ξ, e, e1, r, fun K ex => ?_⟩
      show f_L_S S 0 168 532 K u i (mem μ) ex = _
      rw [f_L_S, if_neg c, tsf_at hk]
      exact q K ex
    | 5, _, hk =>
      obtain ⟨ξ, e, e1, r, q⟩ := lc_cost h hs
      refine ⟨ξ, e, e1, r, fun K ex => ?_⟩
      show f_L_S S 0 168 532 K u i (mem μ) ex = _
      rw [f_L_S, if_neg c, tsf_at hk]
      exact q K ex
    | 6, _, hk =>
      obtain ⟨ξ, e, e1, r, q⟩ := lc_fits h hs
      refine ⟨ξ, e, e1, r, fun K ex => ?_⟩
      show f_L_S S 0 168 532 K u i (mem μ) ex = _
      rw [f_L_S, if_neg c, tsf_at hk]
      exact q K ex
    | 7, _, hk =>
      obtain ⟨ξ, e, e1, r, q⟩ := lc_way h hs
      refine ⟨ξ, e, e1, r, fun K ex => ?_⟩
      show f_L_S S 0 168 532 K u i (mem μ) ex = _
      rw [f_L_S, if_neg c, tsf_at hk]
      exact q K ex
    | 8, _, hk =>
      obtain ⟨ξ, e, e1, r, q⟩ := lc_wayAt h hs
      refine ⟨ξ, e, e1, r, fun K ex => ?_⟩
      show f_L_S S 0 168 532 K u i (mem μ) ex = _
      rw [f_L_S, if_neg c, tsf_at hk]
      exact q K ex
    | 9, _, hk =>
      obtain ⟨ξ, e, e1, r, q⟩ := lc_wayFrom h hs
      refine ⟨ξ, e, e1, r, fun K ex => ?_⟩
      show f_L_S S 0 168 532 K u i (mem μ) ex = _
      rw [f_L_S, if_neg c, tsf_at hk]
      exact q K ex
    | 10, _, hk =>
      obtain ⟨ξ, e, e1, r, q⟩ := lc_phases h hs
      refine ⟨ξ, e, e1, r, fun K ex => ?_⟩
      show f_L_S S 0 168 532 K u i (mem μ) ex = _
      rw [f_L_S, if_neg c, tsf_at hk]
      exact q K ex
    | 11, _, hk =>
      obtain ⟨ξ, e, e1, r, q⟩ := lc_phased h hs
      refine ⟨ξ, e, e1, r, fun K ex => ?_⟩
      show f_L_S S 0 168 532 K u i (mem μ) ex = _
      rw [f_L_S, if_neg c, tsf_at hk]
      exact q K ex
    | 12, _, hk =>
      obtain ⟨ξ, e, e1, r, q⟩ := lc_most h hs
      refine ⟨ξ, e, e1, r, fun K ex => ?_⟩
      show f_L_S S 0 168 532 K u i (mem μ) ex = _
      rw [f_L_S, if_neg c, tsf_at hk]
      exact q K ex
    | 13, _, hk =>
      obtain ⟨ξ, e, e1, r, q⟩ := lc_reached h hs
      refine ⟨ξ, e, e1, r, fun K ex => ?_⟩
      show f_L_S S 0 168 532 K u i (mem μ) ex = _
      rw [f_L_S, if_neg c, tsf_at hk]
      exact q K ex
    | 14, _, hk =>
      obtain ⟨ξ, e, e1, r, q⟩ := lc_cover h hs
      refine ⟨ξ, e, e1, r, fun K ex => ?_⟩
      show f_L_S S 0 168 532 K u i (mem μ) ex = _
      rw [f_L_S, if_neg c, tsf_at hk]
      exact q K ex
    | 15, _, hk =>
      obtain ⟨ξ, e, e1, r, q⟩ := lc_of h hs
      refine ⟨ξ, e, e1, r, fun K ex => ?_⟩
      show f_L_S S 0 168 532 K u i (mem μ) ex = _
      rw [f_L_S, if_neg c, tsf_at hk]
      exact q K ex
    | 16, _, hk =>
      obtain ⟨ξ, e, e1, r, q⟩ := lc_fit h hs
      refine ⟨ξ, e, e1, r, fun K ex => ?_⟩
      show f_L_S S 0 168 532 K u i (mem μ) ex = _
      rw [f_L_S, if_neg c, tsf_at hk]
      exact q K ex
    | 17, _, hk =>
      obtain ⟨ξ, e, e1, r, q⟩ := lc_fitMany h hs
      refine ⟨ξ, e, e1, r, fun K ex => ?_⟩
      show f_L_S S 0 168 532 K u i (mem μ) ex = _
      rw [f_L_S, if_neg c, tsf_at hk]
      exact q K ex
    | 18, _, hk =>
      obtain ⟨ξ, e, e1, r, q⟩ := lc_lack h hs
      refine ⟨ξ, e, e1, r, fun K ex => ?_⟩
      show f_L_S S 0 168 532 K u i (mem μ) ex = _
      rw [f_L_S, if_neg c, tsf_at hk]
      exact q K ex
    | 19, _, hk =>
      obtain ⟨ξ, e, e1, r, q⟩ := lc_hall h hs
      refine ⟨ξ, e, e1, r, fun K ex => ?_⟩
      show f_L_S S 0 168 532 K u i (mem μ) ex = _
      rw [f_L_S, if_neg c, tsf_at hk]
      exact q K ex
    | 20, _, hk =>
      obtain ⟨ξ, e, e1, r, q⟩ := lc_many h hs
      refine ⟨ξ, e, e1, r, fun K ex => ?_⟩
      show f_L_S S 0 168 532 K u i (mem μ) ex = _
      rw [f_L_S, if_neg c, tsf_at hk]
      exact q K ex
    | 21, _, hk =>
      obtain ⟨ξ, e, e1, r, q⟩ := lc_cheap h hs
      refine ⟨ξ, e, e1, r, fun K ex => ?_⟩
      show f_L_S S 0 168 532 K u i (mem μ) ex = _
      rw [f_L_S, if_neg c, tsf_at hk]
      exact q K ex
    | 22, _, hk =>
      obtain ⟨ξ, e, e1, r, q⟩ := lc_cheapest h hs
      refine ⟨ξ, e, e1, r, fun K ex => ?_⟩
      show f_L_S S 0 168 532 K u i (mem μ) ex = _
      rw [f_L_S, if_neg c, tsf_at hk]
      exact q K ex
    | 23, _, hk =>
      obtain ⟨ξ, e, e1, r, q⟩ := lc_narrow h hs
      refine ⟨ξ, e, e1, r, fun K ex => ?_⟩
      show f_L_S S 0 168 532 K u i (mem μ) ex = _
      rw [f_L_S, if_neg c, tsf_at hk]
      exact q K ex
    | 24, _, hk =>
      obtain ⟨ξ, e, e1, r, q⟩ := lc_more h hs
      refine ⟨ξ, e, e1, r, fun K ex => ?_⟩
      show f_L_S S 0 168 532 K u i (mem μ) ex = _
      rw [f_L_S, if_neg c, tsf_at hk]
      exact q K ex
    | 25, _, hk =>
      obtain ⟨ξ, e, e1, r, q⟩ := lc_fewest h hs
      refine ⟨ξ, e, e1, r, fun K ex => ?_⟩
      show f_L_S S 0 168 532 K u i (mem μ) ex = _
      rw [f_L_S, if_neg c, tsf_at hk]
      exact q K ex
    | 26, _, hk =>
      obtain ⟨ξ, e, e1, r, q⟩ := lc_chosen h hs
      refine ⟨ξ, e, e1, r, fun K ex => ?_⟩
      show f_L_S S 0 168 532 K u i (mem μ) ex = _
      rw [f_L_S, if_neg c, tsf_at hk]
      exact q K ex
    | 27, _, hk =>
      obtain ⟨ξ, e, e1, r, q⟩ := lc_rounds h hs
      refine ⟨ξ, e, e1, r, fun K ex => ?_⟩
      show f_L_S S 0 168 532 K u i (mem μ) ex = _
      rw [f_L_S, if_neg c, tsf_at hk]
      exact q K ex
    | 28, _, hk =>
      obtain ⟨ξ, e, e1, r, q⟩ := lc_round h hs
      refine ⟨ξ, e, e1, r, fun K ex => ?_⟩
      show f_L_S S 0 168 532 K u i (mem μ) ex = _
      rw [f_L_S, if_neg c, tsf_at hk]
      exact q K ex
    | 29, _, hk =>
      obtain ⟨ξ, e, e1, r, q⟩ := lc_add h hs
      refine ⟨ξ, e, e1, r, fun K ex => ?_⟩
      show f_L_S S 0 168 532 K u i (mem μ) ex = _
      rw [f_L_S, if_neg c, tsf_at hk]
      exact q K ex
    | 30, _, hk =>
      obtain ⟨ξ, e, e1, r, q⟩ := lc_drop h hs
      refine ⟨ξ, e, e1, r, fun K ex => ?_⟩
      show f_L_S S 0 168 532 K u i (mem μ) ex = _
      rw [f_L_S, if_neg c, tsf_at hk]
      exact q K ex
    | 31, _, hk =>
      obtain ⟨ξ, e, e1, r, q⟩ := lc_is h hs
      refine ⟨ξ, e, e1, r, fun K ex => ?_⟩
      show f_L_S S 0 168 532 K u i (mem μ) ex = _
      rw [f_L_S, if_neg c, tsf_at hk]
      exact q K ex
    | 32, _, hk =>
      obtain ⟨ξ, e, e1, r, q⟩ := lc_pair h hs
      refine ⟨ξ, e, e1, r, fun K ex => ?_⟩
      show f_L_S S 0 168 532 K u i (mem μ) ex = _
      rw [f_L_S, if_neg c, tsf_at hk]
      exact q K ex
    | 33, _, hk =>
      obtain ⟨ξ, e, e1, r, q⟩ := lc_part h hs
      refine ⟨ξ, e, e1, r, fun K ex => ?_⟩
      show f_L_S S 0 168 532 K u i (mem μ) ex = _
      rw [f_L_S, if_neg c, tsf_at hk]
      exact q K ex
    | 34, _, hk =>
      obtain ⟨ξ, e, e1, r, q⟩ := lc_weight h hs
      refine ⟨ξ, e, e1, r, fun K ex => ?_⟩
      show f_L_S S 0 168 532 K u i (mem μ) ex = _
      rw [f_L_S, if_neg c, tsf_at hk]
      exact q K ex
    | 35, _, hk =>
      obtain ⟨ξ, e, e1, r, q⟩ := lc_trade h hs
      refine ⟨ξ, e, e1, r, fun K ex => ?_⟩
      show f_L_S S 0 168 532 K u i (mem μ) ex = _
      rw [f_L_S, if_neg c, tsf_at hk]
      exact q K ex
    | 36, _, hk =>
      obtain ⟨ξ, e, e1, r, q⟩ := lc_keep h hs
      refine ⟨ξ, e, e1, r, fun K ex => ?_⟩
      show f_L_S S 0 168 532 K u i (mem μ) ex = _
      rw [f_L_S, if_neg c, tsf_at hk]
      exact q K ex
    | 37, _, hk =>
      obtain ⟨ξ, e, e1, r, q⟩ := lc_settle h hs
      refine ⟨ξ, e, e1, r, fun K ex => ?_⟩
      show f_L_S S 0 168 532 K u i (mem μ) ex = _
      rw [f_L_S, if_neg c, tsf_at hk]
      exact q K ex
    | 38, _, hk =>
      obtain ⟨ξ, e, e1, r, q⟩ := lc_undo h hs
      refine ⟨ξ, e, e1, r, fun K ex => ?_⟩
      show f_L_S S 0 168 532 K u i (mem μ) ex = _
      rw [f_L_S, if_neg c, tsf_at hk]
      exact q K ex
    | 39, _, hk =>
      obtain ⟨ξ, e, e1, r, q⟩ := lc_print h hs
      refine ⟨ξ, e, e1, r, fun K ex => ?_⟩
      show f_L_S S 0 168 532 K u i (mem μ) ex = _
      rw [f_L_S, if_neg c, tsf_at hk]
      exact q K ex
    | 40, _, hk =>
      obtain ⟨ξ, e, e1, r, q⟩ := lc_status h hs
      refine ⟨ξ, e, e1, r, fun K ex => ?_⟩
      show f_L_S S 0 168 532 K u i (mem μ) ex = _
      rw [f_L_S, if_neg c, tsf_at hk]
      exact q K ex
    | k + 41, q, _ => exact absurd q (Nat.not_lt.mpr (Nat.le_add_left 41 k))
end Lw
