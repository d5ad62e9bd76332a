/-! THE CLASS'S FACE: refusals, at the law's end -/
section H6
variable {Ξ : xH} {μ : MM} {B : Bk} {H : List Bk}
theorem kn_s {s x : Int32} (h0 : s ≠ 0) (h1 : s ≠ 1) : ¬ KN B s x := by
  rintro (⟨q, -⟩ | ⟨q, -⟩)
  · exact h0 q
  · exact h1 q
theorem x_a (h : RS μ B H) (hl : (shI ++ Ξ).length + 1 < 1000000) {F : xH → Option ((Int32 ⊕ String) × xH)} {wc : String → Option Int32} (w : wc IAE = some (-2000000098)) (c : ∀ A h', RC TT μ A → AOK A → aB A = B → aN A = 0 → f_X9_demand 0 0 (mX Ξ μ) = some (.inr IAE, h') → F (mX Ξ μ) = some (.inr IAE, h')) : Ask Ξ μ B H ((vc (mX Ξ μ) 9 0 (F (mX Ξ μ))).bind (wrp wc)) (-2000000098) := by
  obtain ⟨A, hC, hA, h1, h2, h3⟩ := h
  refine q_of hl (CX_A TT_F hC hA fun ν e => ?_) fun x A' s => ⟨Or.inr ⟨_, s.1, w⟩, by rw [s.2]; exact h1, by rw [s.2]; exact h2, by rw [s.2]; exact h3⟩
  exact c A ν hC hA h1 h3 e
theorem x_p (h : RS μ B H) (hl : (shI ++ Ξ).length + 1 < 1000000) {F : xH → Option ((Int32 ⊕ String) × xH)} {wc : String → Option Int32} (w : wc NSE = some (-2000000096)) (c : ∀ A h', RC TT μ A → AOK A → aB A = B → f_X9_demandPlace 0 0 (mX Ξ μ) = some (.inr NSE, h') → F (mX Ξ μ) = some (.inr NSE, h')) : Ask Ξ μ B H ((vc (mX Ξ μ) 9 0 (F (mX Ξ μ))).bind (wrp wc)) (-2000000096) := by
  obtain ⟨A, hC, hA, h1, h2, h3⟩ := h
  refine q_of hl (CX_P TT_F hC hA fun ν e => ?_) fun x A' s => ⟨Or.inr ⟨_, s.1, w⟩, by rw [s.2]; exact h1, by rw [s.2]; exact h2, by rw [s.2]; exact h3⟩
  exact c A ν hC hA h1 e
variable (h : RS μ B H) (hl : (shI ++ Ξ).length + 1 < 1000000)
theorem x_told (h : RS μ B H) (hl : (shI ++ Ξ).length + 1 < 1000000) : Ask Ξ μ B H (f_L_told 0 12 (mX Ξ μ)) (-2000000098) :=
  x_a (F := f_X9_told 0 12) h hl rfl fun A h' hC hA _ _ e => by
    have d1 : ¬ ((12 : Int32) < 0) := by decide
    have d2 : ((12 : Int32) > 11) := by decide
    simp only [f_X9_told, if_neg d1, if_pos d2, f_X9_told_J15, f_X9_told_J16, ↓hvc (fun _ => vc_0), ↓hbind e, ↓thr_er]
theorem x_text (h : RS μ B H) (hl : (shI ++ Ξ).length + 1 < 1000000) : Ask Ξ μ B H (f_L_text 0 1 (mX Ξ μ)) (-2000000098) :=
  x_a (F := f_X9_text 0 1) h hl rfl fun A h' hC hA _ n0 e => by
    have d1 : ¬ ((1 : Int32) < 0) := by decide
    have g1 : μ.1 139 1 = 0 := by have := hC.2.2.1.1; rw [n0] at this; exact this
    have d2 : ((1 : Int32) > 0) := by decide
    simp only [f_X9_text, if_neg d1, ↓hbind gR_0_3, ↓hbind gI_139_1, g1, if_pos d2, f_X9_text_J20, f_X9_text_J21, ↓hvc (fun _ => vc_0), ↓hbind e, ↓thr_er]
theorem x_wayFrom (h : RS μ B H) (hl : (shI ++ Ξ).length + 1 < 1000000) (n1 : 0 < bn B) : Ask Ξ μ B H (f_L_wayFrom 0 0 2 (mX Ξ μ)) (-2000000098) :=
  x_a (F := f_X9_wayFrom 0 0 2) h hl rfl fun A h' hC hA eB _ e => by
    subst eB
    have hB := hA.1
    have c : KN (aB A) 0 0 := knw hB n1
    have d1 : ¬ ((2 : Int32) = 0) := by decide
    have d2 : ¬ ((2 : Int32) = 1) := by decide
    simp only [f_X9_wayFrom, f_X9_wayFrom_J28, ↓hbind gR_0_0, ↓hvc (fun _ => bk_v bk1), ↓hvc (fun _ => vc_0), ↓hbind (c_kn bk1 hC.1 hB _ _), pb_1 c, show bI true = 1 from rfl, ↓hbind c_dp1, ↓thr_ok, if_neg d1, if_neg d2, ↓hbind e, ↓thr_er]
theorem x_phases (h : RS μ B H) (hl : (shI ++ Ξ).length + 1 < 1000000) : Ask Ξ μ B H (f_L_phases 0 4 (mX Ξ μ)) (-2000000098) :=
  x_a (F := f_X9_phases 0 4) h hl rfl fun A h' hC hA _ _ e => by
    have d1 : ¬ ((4 : Int32) < 0) := by decide
    have d2 : ((4 : Int32) > 3) := by decide
    simp only [f_X9_phases, if_neg d1, if_pos d2, f_X9_phases_J14, f_X9_phases_J15, ↓hvc (fun _ => vc_0), ↓hbind e, ↓thr_er]
theorem x_phased (h : RS μ B H) (hl : (shI ++ Ξ).length + 1 < 1000000) : Ask Ξ μ B H (f_L_phased 0 (-1) (mX Ξ μ)) (-2000000096) :=
  x_p (F := f_X9_phased 0 (-1)) h hl rfl fun A h' hC hA _ e => by
    have hB := hA.1
    have c : ¬ KN (aB A) 0 (-1) := by
      rintro (⟨-, q, -⟩ | ⟨q, -⟩)
      · exact absurd q (by decide)
      · exact absurd q (by decide)
    simp only [f_X9_phased, ↓hbind gR_0_0, ↓hvc (fun _ => bk_v bk1), ↓hbind (c_kn bk1 hC.1 hB _ _), pb_f c, show bI false = 0 from rfl, ↓hvc (fun _ => vc_0), ↓hbind e, ↓thr_ok, ↓thr_er]
theorem x_reached (h : RS μ B H) (hl : (shI ++ Ξ).length + 1 < 1000000) : Ask Ξ μ B H (f_L_reached 0 2 (mX Ξ μ)) (-2000000096) :=
  x_p (F := f_X9_reached 0 2) h hl rfl fun A h' hC hA _ e => by
    have d1 : ¬ ((2 : Int32) = 0) := by decide
    have d2 : ¬ ((2 : Int32) = 1) := by decide
    simp only [f_X9_reached, f_X9_reached_J15, if_neg d1, if_neg d2, ↓hvc (fun _ => vc_0), ↓hbind e, ↓thr_ok, ↓thr_er]
theorem x_cover (h : RS μ B H) (hl : (shI ++ Ξ).length + 1 < 1000000) : Ask Ξ μ B H (f_L_cover 0 (-1) (mX Ξ μ)) (-2000000096) :=
  x_p (F := f_X9_cover 0 (-1)) h hl rfl fun A h' hC hA _ e => by
    have d1 : ¬ ((-1 : Int32) = 0) := by decide
    have d2 : ¬ ((-1 : Int32) = 1) := by decide
    simp only [f_X9_cover, f_X9_cover_J15, if_neg d1, if_neg d2, ↓hvc (fun _ => vc_0), ↓hbind e, ↓thr_ok, ↓thr_er]
theorem x_of (h : RS μ B H) (hl : (shI ++ Ξ).length + 1 < 1000000) (n1 : 0 < bn B) : Ask Ξ μ B H (f_L_of 0 0 0 3 (mX Ξ μ)) (-2000000098) :=
  x_a (F := f_X9_of 0 0 0 3) h hl rfl fun A h' hC hA eB _ e => by
    subst eB
    have hB := hA.1
    have c : KN (aB A) 0 0 := knw hB n1
    have d1 : ¬ ((3 : Int32) < 0) := by decide
    have d2 : ((3 : Int32) > 2) := by decide
    simp only [f_X9_of, ↓hbind gR_0_0, ↓hvc (fun _ => bk_v bk1), ↓hvc (fun _ => vc_0), ↓hbind (c_kn bk1 hC.1 hB _ _), pb_1 c, show bI true = 1 from rfl, ↓hbind c_dp1, ↓thr_ok, if_neg d1, if_pos d2, f_X9_of_J27, f_X9_of_J28, ↓hbind e, ↓thr_er]
theorem x_fitMany (h : RS μ B H) (hl : (shI ++ Ξ).length + 1 < 1000000) : Ask Ξ μ B H (f_L_fitMany 0 0 (mX Ξ μ)) (-2000000098) :=
  x_a (F := f_X9_fitMany 0 0) h hl rfl fun A h' hC hA _ _ e => by
    have d1 : ((0 : Int32) < 1) := by decide
    simp only [f_X9_fitMany, if_pos d1, f_X9_fitMany_J15, f_X9_fitMany_J16, ↓hvc (fun _ => vc_0), ↓hbind e, ↓thr_er]
theorem x_lack1 (h : RS μ B H) (hl : (shI ++ Ξ).length + 1 < 1000000) : Ask Ξ μ B H (f_L_lack 0 (-1) (mX Ξ μ)) (-2000000098) :=
  x_a (F := f_X9_lack 0 (-1)) h hl rfl fun A h' hC hA _ _ e => by
    have d1 : ((-1 : Int32) < 0) := by decide
    simp only [f_X9_lack, if_pos d1, f_X9_lack_J22, f_X9_lack_J23, ↓hvc (fun _ => vc_0), ↓hbind e, ↓thr_ok, ↓thr_er]
theorem x_lack2 (h : RS μ B H) (hl : (shI ++ Ξ).length + 1 < 1000000) : Ask Ξ μ B H (f_L_lack 0 ((1 : Int32) <<< (Int32.ofNat (bn B) &&& 31)) (mX Ξ μ)) (-2000000098) :=
  x_a (F := f_X9_lack 0 ((1 : Int32) <<< (Int32.ofNat (bn B) &&& 31))) h hl rfl fun A h' hC hA eB _ e => by
    subst eB
    have hB := hA.1
    have hp := pow_12 hB.n
    have e0 : μ.1 1 0 = Int32.ofNat (bn (aB A)) := hC.1.1.1
    have d1 : ¬ (Int32.ofNat (2 ^ bn (aB A)) < 0) := by rw [oN_l0 (by omega)]; exact id
    have d2 : (Int32.ofNat (2 ^ bn (aB A)) ≥ Int32.ofNat (2 ^ bn (aB A))) := by rw [oN_ge (by omega) (by omega)]; omega
    rw [one_shl hB.n]
    simp only [f_X9_lack, if_neg d1, ↓hbind gR_0_0, ↓hbind (bk_i0 bk1), e0, one_shl hB.n, if_pos d2, f_X9_lack_J22, f_X9_lack_J23, ↓hvc (fun _ => vc_0), ↓hbind e, ↓thr_ok, ↓thr_er]
theorem x_hall (h : RS μ B H) (hl : (shI ++ Ξ).length + 1 < 1000000) : Ask Ξ μ B H (f_L_hall 0 2 (mX Ξ μ)) (-2000000098) :=
  x_a (F := f_X9_hall 0 2) h hl rfl fun A h' hC hA _ _ e => by
    have d1 : ¬ ((2 : Int32) = 0) := by decide
    have d2 : ¬ ((2 : Int32) = 1) := by decide
    simp only [f_X9_hall, f_X9_hall_J15, if_neg d1, if_neg d2, ↓hvc (fun _ => vc_0), ↓hbind e, ↓thr_ok, ↓thr_er]
theorem x_cheap (h : RS μ B H) (hl : (shI ++ Ξ).length + 1 < 1000000) : Ask Ξ μ B H (f_L_cheap 0 2 (mX Ξ μ)) (-2000000098) :=
  x_a (F := f_X9_cheap 0 2) h hl rfl fun A h' hC hA _ _ e => by
    have d1 : ¬ ((2 : Int32) = 0) := by decide
    have d2 : ¬ ((2 : Int32) = 1) := by decide
    simp only [f_X9_cheap, f_X9_cheap_J15, if_neg d1, if_neg d2, ↓hvc (fun _ => vc_0), ↓hbind e, ↓thr_ok, ↓thr_er]
theorem x_more (h : RS μ B H) (hl : (shI ++ Ξ).length + 1 < 1000000) : Ask Ξ μ B H (f_L_more 0 2 (mX Ξ μ)) (-2000000098) :=
  x_a (F := f_X9_more 0 2) h hl rfl fun A h' hC hA _ _ e => by
    have d1 : ¬ ((2 : Int32) = 0) := by decide
    have d2 : ¬ ((2 : Int32) = 1) := by decide
    simp only [f_X9_more, f_X9_more_J15, if_neg d1, if_neg d2, ↓hvc (fun _ => vc_0), ↓hbind e, ↓thr_ok, ↓thr_er]
theorem x_fewest (h : RS μ B H) (hl : (shI ++ Ξ).length + 1 < 1000000) : Ask Ξ μ B H (f_L_fewest 0 2 (mX Ξ μ)) (-2000000098) :=
  x_a (F := f_X9_fewest 0 2) h hl rfl fun A h' hC hA _ _ e => by
    have d1 : ¬ ((2 : Int32) = 0) := by decide
    have d2 : ¬ ((2 : Int32) = 1) := by decide
    simp only [f_X9_fewest, f_X9_fewest_J15, if_neg d1, if_neg d2, ↓hvc (fun _ => vc_0), ↓hbind e, ↓thr_ok, ↓thr_er]
theorem x_add (h : RS μ B H) (hl : (shI ++ Ξ).length + 1 < 1000000) (n1 : 0 < bn B) (m1 : 0 < bm B) : Ask Ξ μ B H (f_L_add 0 0 0 100 (mX Ξ μ)) (-2000000098) :=
  x_a (F := f_X9_add 0 0 0 100) h hl rfl fun A h' hC hA eB _ e => by
    subst eB
    have hB := hA.1
    have c : KN (aB A) 0 0 := knw hB n1
    have d : KN (aB A) 1 0 := knt hB m1
    have d1 : ¬ ((100 : Int32) < 0) := by decide
    have d2 : ((100 : Int32) > 99) := by decide
    simp only [f_X9_add, ↓hbind gR_0_0, ↓hvc (fun _ => bk_v bk1), ↓hvc (fun _ => vc_0), ↓hbind (c_kb bk1 hC.1 hB _ _), pb_1 c, pb_1 d, Bool.and_self, show bI true = 1 from rfl, ↓hbind c_dp1, ↓thr_ok, if_neg d1, if_pos d2, f_X9_add_J29, f_X9_add_J28, ↓hbind e, ↓thr_er]
theorem x_is (h : RS μ B H) (hl : (shI ++ Ξ).length + 1 < 1000000) (n1 : 0 < bn B) : Ask Ξ μ B H (f_L_is 0 0 0 2 (mX Ξ μ)) (-2000000098) :=
  x_a (F := f_X9_is 0 0 0 2) h hl rfl fun A h' hC hA eB _ e => by
    subst eB
    have hB := hA.1
    have c : KN (aB A) 0 0 := knw hB n1
    have d1 : ¬ ((2 : Int32) = 0) := by decide
    have d2 : ¬ ((2 : Int32) = 1) := by decide
    simp only [f_X9_is, f_X9_is_J28, ↓hbind gR_0_0, ↓hvc (fun _ => bk_v bk1), ↓hvc (fun _ => vc_0), ↓hbind (c_kn bk1 hC.1 hB _ _), pb_1 c, show bI true = 1 from rfl, ↓hbind c_dp1, ↓thr_ok, if_neg d1, if_neg d2, ↓hbind e, ↓thr_er]
theorem x_keep (h : RS μ B H) (hl : (shI ++ Ξ).length + 1 < 1000000) : Ask Ξ μ B H (f_L_keep 0 2 (mX Ξ μ)) (-2000000098) :=
  x_a (F := f_X9_keep 0 2) h hl rfl fun A h' hC hA _ _ e => by
    have d1 : ¬ ((2 : Int32) = 0) := by decide
    have d2 : ¬ ((2 : Int32) = 1) := by decide
    simp only [f_X9_keep, f_X9_keep_J15, f_X9_keep_J10, if_neg d1, if_neg d2, ↓hvc (fun _ => vc_0), ↓hbind e, ↓thr_er]
theorem x_settle0 (h : RS μ B H) (hl : (shI ++ Ξ).length + 1 < 1000000) : Ask Ξ μ B H (f_L_settle 0 0 (mX Ξ μ)) (-2000000098) :=
  x_a (F := f_X9_settle 0 0) h hl rfl fun A h' hC hA _ _ e => by
    have d1 : ((0 : Int32) < 1) := by decide
    simp only [f_X9_settle, f_X9_settle_J65, f_X9_settle_J17, f_X9_settle_J16, if_pos d1, ↓hvc (fun _ => vc_0), ↓hbind e, ↓thr_er]
theorem x_settle13 (h : RS μ B H) (hl : (shI ++ Ξ).length + 1 < 1000000) : Ask Ξ μ B H (f_L_settle 0 13 (mX Ξ μ)) (-2000000098) :=
  x_a (F := f_X9_settle 0 13) h hl rfl fun A h' hC hA _ _ e => by
    have d1 : ¬ ((13 : Int32) < 1) := by decide
    have d2 : ((13 : Int32) > 12) := by decide
    simp only [f_X9_settle, f_X9_settle_J65, f_X9_settle_J17, f_X9_settle_J16, if_neg d1, if_pos d2, ↓hvc (fun _ => vc_0), ↓hbind e, ↓thr_er]
theorem x_chosen (h : RS μ B H) (hl : (shI ++ Ξ).length + 1 < 1000000) : Ask Ξ μ B H (f_L_chosen 0 2 (mX Ξ μ)) (-2000000098) :=
  x_a (F := f_X9_chosen 0 2) h hl rfl fun A h' hC hA _ _ e => by
    have d1 : ¬ ((2 : Int32) = 0) := by decide
    have d2 : ¬ ((2 : Int32) = 1) := by decide
    simp only [f_X9_chosen, f_X9_chosen_J15, if_neg d1, if_neg d2, ↓hvc (fun _ => vc_0), ↓hbind e, ↓thr_er]
theorem x_weight (h : RS μ B H) (hl : (shI ++ Ξ).length + 1 < 1000000) (n1 : 0 < bn B) : Ask Ξ μ B H (f_L_weight 0 0 100 (mX Ξ μ)) (-2000000098) :=
  x_a (F := f_X9_weight 0 0 100) h hl rfl fun A h' hC hA eB _ e => by
    subst eB
    have hB := hA.1
    have c : KN (aB A) 0 0 := knw hB n1
    have d1 : ¬ ((100 : Int32) < 0) := by decide
    have d2 : ((100 : Int32) > 99) := by decide
    simp only [f_X9_weight, ↓hbind gR_0_0, ↓hvc (fun _ => bk_v bk1), ↓hvc (fun _ => vc_0), ↓hbind (c_kn bk1 hC.1 hB _ _), pb_1 c, show bI true = 1 from rfl, ↓hbind c_dp1, ↓thr_ok, if_neg d1, if_pos d2, f_X9_weight_J29, f_X9_weight_J28, ↓hbind e, ↓thr_er]
theorem x_weightp (h : RS μ B H) (hl : (shI ++ Ξ).length + 1 < 1000000) : Ask Ξ μ B H (f_L_weight 0 (Int32.ofNat (bn B)) 0 (mX Ξ μ)) (-2000000096) :=
  x_p (F := f_X9_weight 0 (Int32.ofNat (bn B)) 0) h hl rfl fun A h' hC hA eB e => by
    subst eB
    have hB := hA.1
    have hn := hB.n
    have c : ¬ KN (aB A) 0 (Int32.ofNat (bn (aB A))) := knw_n hB (Nat.le_refl _) (by omega)
    simp only [f_X9_weight, ↓hbind gR_0_0, ↓hvc (fun _ => bk_v bk1), ↓hvc (fun _ => vc_0), ↓hbind (c_kn bk1 hC.1 hB _ _), pb_f c, show bI false = 0 from rfl, ↓hbind e, ↓thr_ok, ↓thr_er]
theorem x_round (h : RS μ B H) (hl : (shI ++ Ξ).length + 1 < 1000000) (n1 : 0 < bn B) : Ask Ξ μ B H (f_L_round 0 0 (Int32.ofNat (bm B)) (mX Ξ μ)) (-2000000096) :=
  x_p (F := f_X9_round 0 0 (Int32.ofNat (bm B))) h hl rfl fun A h' hC hA eB e => by
    subst eB
    have hB := hA.1
    have hm := hB.m
    have c : KN (aB A) 0 0 := knw hB n1
    have d : ¬ KN (aB A) 1 (Int32.ofNat (bm (aB A))) := knt_n hB (Nat.le_refl _) (by omega)
    simp only [f_X9_round, ↓hbind gR_0_0, ↓hvc (fun _ => bk_v bk1), ↓hbind (c_kb bk1 hC.1 hB _ _), pb_1 c, pb_f d, Bool.and_false, show bI false = 0 from rfl, ↓hvc (fun _ => vc_0), ↓hbind e, ↓thr_ok, ↓thr_er]
end H6
