/-! THE LAW'S BEGINNING -/
section H9
def mu00 : MM := (fun _ _ => 0, fun _ _ => 0)
def mu9 : MM := st (st (st (M9_9 mu00) 0 9 0) 0 10 0) 0 11 0
theorem Z00 (n : Nat) : Z mu00 n := fun _ _ _ => ⟨rfl, rfl⟩
theorem mu9_Z : Z mu9 168 := (((M9_9_Z (Z00 1)).st (by omega)).st (by omega)).st (by omega)
set_option maxRecDepth 1000000 in
set_option maxHeartbeats 4000000 in
theorem shI_eq : (9, f9 9) :: R9_9 = shI := by rfl
theorem pr_Fr {μ : MM} {p : Nat} : Fr (fun q _ => q = p + 1 ∨ q = p + 2) μ (prM μ p) := fun q i h => ⟨by
  unfold prM
  rw [rwn_ne (fun z => h (Or.inr z)), rwn_ne (fun z => h (Or.inl z))], rfl⟩
theorem hs_Fr {μ : MM} {n : Nat} : ∀ k : Nat, Fr (fun q _ => n ≤ q ∧ q < n + 2 + 8 * k) μ (hsM μ n k)
  | 0 => ((Fr.refl (fun q _ => n ≤ q ∧ q < n + 2 + 8 * 0) μ).st (by omega)).st (by omega)
  | k + 1 => by
    have a := hs_Fr (μ := μ) (n := n) k
    have b := pr_Fr (μ := hsM μ n k) (p := n + 2 + 8 * k + 5)
    have c := (bg_BC (μ := prM (hsM μ n k) (n + 2 + 8 * k + 5)) (b := n + 2 + 8 * k) (N := 1) (M := 1)).2
    exact ((a.mono fun q i z => by omega).trans (b.mono fun q i z => by omega)).trans (c.mono fun q i z => by unfold FB at z; omega)
theorem hs_1 {μ : MM} {n : Nat} : ∀ k : Nat, (hsM μ n k).1 n 1 = 0 ∧ (hsM μ n k).1 n 2 = 0
  | 0 => ⟨by show (st (st μ n 1 0) n 2 0).1 n 1 = 0; rw [st_ne (Or.inr (by omega)), st_same], by show (st (st μ n 1 0) n 2 0).1 n 2 = 0; rw [st_same]⟩
  | k + 1 => by
    have a := hs_1 (μ := μ) (n := n) k
    have b := pr_Fr (μ := hsM μ n k) (p := n + 2 + 8 * k + 5)
    have c := (bg_BC (μ := prM (hsM μ n k) (n + 2 + 8 * k + 5)) (b := n + 2 + 8 * k) (N := 1) (M := 1)).2
    have e : ∀ i, (hsM μ n (k + 1)).1 n i = (hsM μ n k).1 n i := fun i => ((c n i (by unfold FB; omega)).1).trans ((b n i (by omega)).1)
    exact ⟨(e 1).trans a.1, (e 2).trans a.2⟩
/-- the ints behind the class's constructor -/
theorem m9_facts : BC mu9 1 (nB 1 1) ∧ mu9.1 17 1 = 0 ∧ mu9.1 17 2 = 0 ∧ mu9.1 139 1 = 0 ∧ mu9.1 139 2 = -1 ∧ mu9.1 0 9 = 0 ∧ mu9.1 0 10 = 0 ∧ mu9.1 0 11 = 0 := by
  obtain ⟨b1, -⟩ := bg_BC (μ := prM (M9_0 mu00) (1 + 5)) (b := 1) (N := 1) (M := 1)
  have b1 : BC (M9_1 mu00) 1 (nB 1 1) := b1
  have f2 : Fr (fun q _ => 9 ≤ q ∧ q < 17) (M9_1 mu00) (M9_2 mu00) := (pr_Fr.mono fun q i z => by omega).trans ((bg_BC (μ := prM (M9_1 mu00) (9 + 5)) (b := 9) (N := 1) (M := 1)).2.mono fun q i z => by unfold FB at z; omega)
  have f3 : Fr (fun q _ => 17 ≤ q ∧ q < 139) (M9_2 mu00) (M9_3 mu00) := (hs_Fr (n := 17) 15).mono fun q i z => by omega
  have h3 := hs_1 (μ := M9_2 mu00) (n := 17) 15
  have h3 : (M9_3 mu00).1 17 1 = 0 ∧ (M9_3 mu00).1 17 2 = 0 := h3
  obtain ⟨ν, hν⟩ : ∃ x, x = M9_3 mu00 := ⟨_, rfl⟩
  have f4 : Fr (fun q _ => 139 ≤ q) ν (M9_4 mu00) := by
    show Fr _ ν (x6M (M9_3 mu00) 139)
    rw [← hν]
    unfold x6M
    exact (((((((Fr.refl (fun q _ => 139 ≤ q) ν).st (by omega)).st (by omega)).st (by omega)).st (by omega)).st (by omega)).st (by omega)).st (by omega)
  have v1 : (M9_4 mu00).1 139 1 = 0 := by
    show (x6M (M9_3 mu00) 139).1 139 1 = 0
    rw [← hν]
    unfold x6M
    rw [st_ne (Or.inr (by omega)), st_ne (Or.inr (by omega)), st_ne (Or.inr (by omega)), st_ne (Or.inr (by omega)), st_ne (Or.inr (by omega)), st_ne (Or.inr (by omega)), st_same]
  have v2 : (M9_4 mu00).1 139 2 = -1 := by
    show (x6M (M9_3 mu00) 139).1 139 2 = -1
    rw [← hν]
    unfold x6M
    rw [st_ne (Or.inr (by omega)), st_ne (Or.inr (by omega)), st_ne (Or.inr (by omega)), st_ne (Or.inr (by omega)), st_ne (Or.inr (by omega)), st_same]
  obtain ⟨ζ, hζ⟩ : ∃ x, x = M9_4 mu00 := ⟨_, rfl⟩
  rw [← hν] at f3 h3
  rw [← hζ] at f4 v1 v2
  have f5 : Fr (fun q _ => 141 ≤ q) ζ (M9_9 mu00) := by
    show Fr _ ζ (x1M (x8M (x4M (x5M (x7M (M9_4 mu00) 141) 149) 151) 156) 162)
    rw [← hζ]
    unfold x1M x8M x4M x5M x7M
    exact (((((((((((((((((((pr_Fr (μ := ζ) (p := 141 + 1)).mono (P := fun q _ => q = 141 + 1 + 1 ∨ q = 141 + 1 + 2) (P' := fun q _ => 141 ≤ q) fun q i z => by omega).st (by omega)).st (by omega)).st (by omega)).st (by omega)).st (by omega)).st (by omega)).st (by omega)).st (by omega)).st (by omega)).st (by omega)).st (by omega)).st (by omega)).st (by omega)).st (by omega)).sj (by omega)).sj (by omega)).st (by omega)).st (by omega)
  obtain ⟨η, hη⟩ : ∃ x, x = M9_9 mu00 := ⟨_, rfl⟩
  rw [← hη] at f5
  have f6 : Fr (fun q _ => q = 0) η mu9 := by
    show Fr _ η (st (st (st (M9_9 mu00) 0 9 0) 0 10 0) 0 11 0)
    rw [← hη]
    exact (((Fr.refl (fun q _ => q = 0) η).st rfl).st rfl).st rfl
  have w : mu9 = st (st (st η 0 9 0) 0 10 0) 0 11 0 := by rw [hη]; rfl
  refine ⟨?_, ?_, ?_, ?_, ?_, ?_, ?_, ?_⟩
  · have a := b1.fr f2 fun q i a b z => by omega
    have a := a.fr f3 fun q i a b z => by omega
    have a := a.fr f4 fun q i a b z => by omega
    have a := a.fr f5 fun q i a b z => by omega
    exact a.fr f6 fun q i a b z => by omega
  · rw [(f6 _ _ (by omega)).1, (f5 _ _ (by omega)).1, (f4 _ _ (by omega)).1]; exact h3.1
  · rw [(f6 _ _ (by omega)).1, (f5 _ _ (by omega)).1, (f4 _ _ (by omega)).1]; exact h3.2
  · rw [(f6 _ _ (by omega)).1, (f5 _ _ (by omega)).1]; exact v1
  · rw [(f6 _ _ (by omega)).1, (f5 _ _ (by omega)).1]; exact v2
  · rw [w, st_ne (Or.inr (by omega)), st_ne (Or.inr (by omega)), st_same]
  · rw [w, st_ne (Or.inr (by omega)), st_same]
  · rw [w, st_same]
theorem RS_mu9 : RS mu9 B00 [] := by
  obtain ⟨h1, h2, h3, h4, h5, h6, h7, h8⟩ := m9_facts
  have hB : BOK (nB 1 1) := nB_ok (by omega) (by omega) (by omega) (by omega)
  exact ⟨mkA (nB 1 1) [] 0 (fun _ => 0) (-1) 0 0, ⟨h1, ⟨0, by omega, h2, h3, Nat.zero_le _, fun j B hj => (by cases hj)⟩, ⟨h4, fun k hk => absurd hk (Nat.not_lt_zero _)⟩, h5, h7, h8, Or.inl h6⟩, ⟨hB, fun C hC => (by cases hC), Nat.zero_le _, fun k => by show 0 < 256; omega⟩, rfl, rfl, rfl⟩
theorem nwB_s {sh : xH} {μ : MM} {n : Int32} {k : Nat} (h : Z μ sh.length) (hk : n = Int32.ofNat k) (hk2 : k < 100000) (hl : sh.length + 1 < 1000000) : nwB (mS sh μ) n = some (sh.length, mS (sh ++ [(103, List.replicate k .null)]) μ) := by
  subst hk
  obtain ⟨⟨a1, -⟩, a2⟩ := ain_nat (k := k) (n := k + 1) (by omega) (by omega)
  unfold nwB
  rw [a2, if_pos ⟨a1, by omega⟩]
  exact nwC_s h (List.all_eq_true.mpr fun v hv => by rw [(List.mem_replicate.mp hv).2]; rfl) hl
theorem e9_len : ((9, f9 9) :: R9_9 : xH).length = 168 := by rw [List.length_cons, R9_9_len]
theorem bq1 : nwC [] (9, dv_X9) = some (0, mS [(9, dv_X9)] mu00) := nwC_s (sh := []) (μ := mu00) (Z00 0) rfl (by decide)
theorem bq2 : f_X9_init 0 (mS [(9, dv_X9)] mu00) = some (mS shI mu9) := by
  rw [← shI_eq]
  exact c_X9_init (Z00 1)
/-- cells at the loop's entry -/
def Xi0 : xH := ([(100, dI 8)] ++ lbC 169) ++ [(103, List.replicate 40 .null)]
theorem chain6 {β : Type} {A : Option (Nat × xH)} {f g : Nat → xH → Option xH} {B C D : xH → Option (Nat × xH)} {K : Nat → Nat → Nat → Nat → xH → Option β} {H1 H2 H3 H5 H6 : xH} {a b c d : Nat} (q1 : A = some (a, H1)) (q2 : ic H1 a (f a H1) = some H2) (q3 : B H2 = some (b, H3)) (q4 : ∀ K' : Nat → xH → Option β, ((C H3).bind fun r4 => (ic r4.2 r4.1 (g r4.1 r4.2)).bind fun h5 => K' r4.1 h5) = K' c H5) (q5 : D H5 = some (d, H6)) :
    (A.bind fun r1 => (ic r1.2 r1.1 (f r1.1 r1.2)).bind fun h2 => (B h2).bind fun r3 => (C r3.2).bind fun r4 => (ic r4.2 r4.1 (g r4.1 r4.2)).bind fun h5 => (D h5).bind fun r6 => K r1.1 r3.1 r4.1 r6.1 r6.2) = K a b c d H6 := by
  rw [q1, Option.bind_some]
  show ((ic H1 a (f a H1)).bind _) = _
  rw [q2, Option.bind_some, q3, Option.bind_some]
  exact (q4 fun p h5 => (D h5).bind fun r6 => K a b p r6.1 r6.2).trans (by rw [q5]; rfl)
theorem law_run (S : List Int32) {H1 H2 H3 H5 H6 : xH} {a b c d : Nat} (q1 : nwC [] (9, dv_X9) = some (a, H1)) (q2 : ic H1 a (f_X9_init a H1) = some H2) (q3 : nwI H2 8 = some (b, H3)) (q4 : ∀ {β : Type} (K' : Nat → xH → Option β), ((nwC H3 (10, dv_X10)).bind fun r4 => (ic r4.2 r4.1 (f_X10_init r4.1 r4.2)).bind fun h5 => K' r4.1 h5) = K' c H5) (q5 : nwB H5 40 = some (d, H6)) :
    f_L_law S [] = f_L_law_L37 S (f_L_law_J1110 S) 5000 a b c d 0 1 0 H6 := by
  unfold f_L_law
  generalize 5000 = F
  exact chain6 (f := f_X9_init) (g := f_X10_init) (B := fun h => nwI h 8) (C := fun h => nwC h (10, dv_X10)) (D := fun h => nwB h 40) (K := fun x1 x2 x3 x4 h => f_L_law_L37 S (f_L_law_J1110 S) F x1 x2 x3 x4 0 1 0 h) q1 q2 q3 q4 q5
theorem law_start : ∃ ν, (∀ S, f_L_law S [] = f_L_law_L37 S (f_L_law_J1110 S) 5000 0 168 (lab (lbA 169)) 185 (Int32.ofNat ([] : List Bk).length) 1 (Int32.ofNat 0) (mX Xi0 ν)) ∧ LI 0 Xi0 ν (lbA 169) B00 [] fun _ => lbA 169 := by
  have z0 : Z mu9 (shI ++ ([] : xH)).length := by rw [List.append_nil, shI_len]; exact mu9_Z
  have n1 := nwI_s (sh := shI ++ ([] : xH)) (μ := mu9) (n := 8) (k := 8) z0 rfl (by decide) (by rw [List.append_nil, shI_len]; decide)
  have l1 : (shI ++ [(100, dI 8)]).length = 169 := by rw [List.length_append, shI_len]; rfl
  rw [List.append_nil, shI_len] at n1
  have z1 : Z mu9 (shI ++ [(100, dI 8)]).length := by rw [l1]; exact mu9_Z.mono (by omega)
  obtain ⟨ν, e2, f2, z2, s2, v2⟩ := l_new' (sh := shI ++ [(100, dI 8)]) z1 (by omega) (by omega)
  rw [l1] at e2 f2 z2 s2 v2
  have l2 : ((shI ++ [(100, dI 8)]) ++ lbC 169).length = 185 := by rw [List.length_append, l1, lbC_len]
  have n3 := nwB_s (sh := (shI ++ [(100, dI 8)]) ++ lbC 169) (μ := ν) (n := 40) (k := 40) z2 rfl (by decide) (by omega)
  rw [l2] at n3
  have eX : ((shI ++ [(100, dI 8)]) ++ lbC 169) ++ [(103, List.replicate 40 .null)] = shI ++ Xi0 := by simp only [Xi0, List.append_assoc]
  rw [eX] at n3
  have l3 : (shI ++ Xi0).length = 186 := by rw [← eX, List.length_append, l2]; rfl
  have hv : ∀ i, ν.1 168 i = 0 := fun i => by
    rw [(f2 168 i (by unfold UP; omega)).1]
    exact (mu9_Z 168 (Nat.le_refl _) i).1
  refine ⟨ν, fun S => ?_, ⟨?_, hv 0, fun k _ => by rw [hv]; exact fby_0 _ (by omega)⟩, ?_, ⟨?_, v2, Nat.le_refl _⟩, ⟨by decide, by decide⟩, ⟨List.replicate 40 .null, ?_, List.length_replicate, fun j D e => by cases e⟩, Nat.le_refl _, ?_, ?_, ?_⟩
  · exact (law_run S bq1 (by rw [ic_s (by decide)]; exact bq2) n1 e2 n3).trans (by rw [show lab (lbA 169) = 169 from rfl, show Int32.ofNat ([] : List Bk).length = 0 from rfl, show Int32.ofNat 0 = 0 from rfl])
  · rw [← eX, List.append_assoc, List.getElem?_append_left (by omega), List.getElem?_append_right (by rw [shI_len]; decide), shI_len]
    rfl
  · exact RS_mu9.up (Ξ := [(100, dI 8)]) (by rw [l1]; exact f2)
  · rw [← eX]; exact s2.app _
  · rw [← eX, List.getElem?_append_right (by omega), l2]
    rfl
  · rw [l3]; exact z2.mono (by omega)
  · intro c hc
    have : ∀ c ∈ Xi0, c.2.length ≤ 40 := by decide +kernel
    exact this c hc
  · rw [l3]; decide
theorem szs_memF {μ : MM} : ∀ (h : xH) (o : Nat), szs (memF μ o h) = szs h
  | [], _ => rfl
  | c :: t, o => by
    show (memV μ o 0 c.2).length + szs (memF μ (o + 1) t) = c.2.length + szs t
    rw [memV_len, szs_memF t (o + 1)]
theorem szs_cz : ∀ {Ξ : xH}, Cz Ξ → szs Ξ ≤ 40 * Ξ.length
  | [], _ => Nat.le_refl _
  | c :: t, h => by
    have a := h c List.mem_cons_self
    have b := szs_cz (Ξ := t) fun d hd => h d (List.mem_cons_of_mem _ hd)
    show c.2.length + szs t ≤ 40 * (t.length + 1)
    omega
theorem shI_szs : szs shI ≤ 100000 := by decide +kernel
theorem goal : Goal := by
  intro S hS
  obtain ⟨ν, e, li⟩ := law_start
  obtain ⟨Ξ', ν', q, c, l⟩ := law_loop hS 12 0 rfl li
  have q := q 4987
  rw [show 12 + 1 + 4987 = 5000 from rfl] at q
  have l' : (mX Ξ' ν').length = (shI ++ Ξ').length := mS_len _ _
  have z : szs (mX Ξ' ν') = szs (shI ++ Ξ') := szs_memF _ 0
  have s1 := szs_cz c
  have s2 := shI_szs
  rw [xl] at l
  refine ⟨mX Ξ' ν', (e S).trans q, by rw [l', xl]; omega, ?_⟩
  rw [z, szs_app]
  omega
end H9
theorem i_vc : Claimed_1_1 ∧ Claimed_1_2 := i_vc_of goal
