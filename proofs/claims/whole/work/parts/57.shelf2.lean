/-! PURE: keeping, rows, copies -/
theorem x_become1 {M : Mem} {a b : Nat} {post : Mem → Prop} (hab : a ≠ b) (k : ∀ M1, (∀ i, i ≠ a → M1 i = M i) → (∀ j, j < 9 → M1 a j = M b j) → post M1) : q_X1_become M a b post := by
  intro M1 e1 M2 e2 M3 e3 M4 e4 M5 e5 M6 e6 M7 e7 M8 e8 M9 e9
  have hb : b ≠ a := fun h => hab h.symm
  have g1 : M1 b = M b := by rw [e1, mup_ne _ _ _ hb]
  have g2 : M2 b = M b := by rw [e2, mup_ne _ _ _ hb, g1]
  have g3 : M3 b = M b := by rw [e3, mup_ne _ _ _ hb, g2]
  have g4 : M4 b = M b := by rw [e4, mup_ne _ _ _ hb, g3]
  have g5 : M5 b = M b := by rw [e5, mup_ne _ _ _ hb, g4]
  have g6 : M6 b = M b := by rw [e6, mup_ne _ _ _ hb, g5]
  have g7 : M7 b = M b := by rw [e7, mup_ne _ _ _ hb, g6]
  have g8 : M8 b = M b := by rw [e8, mup_ne _ _ _ hb, g7]
  rw [g1] at e2
  rw [g2] at e3
  rw [g3] at e4
  rw [g4] at e5
  rw [g5] at e6
  rw [g6] at e7
  rw [g7] at e8
  rw [g8] at e9
  clear g1 g2 g3 g4 g5 g6 g7 g8
  subst e1 e2 e3 e4 e5 e6 e7 e8 e9
  refine k _ (fun i hi => ?_) (fun j hj => ?_)
  · rw [mup_ne _ _ _ hi, mup_ne _ _ _ hi, mup_ne _ _ _ hi, mup_ne _ _ _ hi, mup_ne _ _ _ hi, mup_ne _ _ _ hi, mup_ne _ _ _ hi, mup_ne _ _ _ hi, mup_ne _ _ _ hi]
  · rcases (show j = 0 ∨ j = 1 ∨ j = 2 ∨ j = 3 ∨ j = 4 ∨ j = 5 ∨ j = 6 ∨ j = 7 ∨ j = 8 by omega) with rfl | rfl | rfl | rfl | rfl | rfl | rfl | rfl | rfl <;> simp [mup_eq]
theorem m_priceOf (p : Nat) {M : Mem} {x : Int32} {post : Int32 → Mem → Prop} (hx : x = nI p) (hp : p ≤ 6) (h : post (coB (M 58 (12 + 6 * p + 0)) (M 58 (12 + 6 * p + 1)) (M 58 (12 + 6 * p + 2))) M) : q_X6_priceOf M x post := by
  refine m_get p 2 hx rfl hp (by omega) (m_get p 1 hx rfl hp (by omega) (m_get p 0 hx rfl hp (by omega) ?_))
  unfold coB at h
  grind
theorem e_keep : lh_32 Rel := by
  intro M x y z hR
  refine x_shelf (fun hno => b0 ?_) (fun d hd e => b1 (x_in 0 1 rfl rfl (by omega) (by omega) (fun hno => b0 ?_) (fun n h1 h2 ey => b1 ?_)))
  · exact m_shelf_no hno (b0 ⟨rfl, hR⟩)
  · exact m_shelf_yes hd e (b1 (m_no 0 1 rfl rfl (by omega) (by omega) hno (b0 ⟨rfl, hR⟩)))
  · subst e ey
    rcases (show n = 0 ∨ n = 1 by omega) with rfl | rfl
    · refine bp rfl ⟨vin_d hd, fun M1 e1 => ?_⟩
      rw [cl (by omega)] at e1
      refine m_shelf_yes hd rfl (b1 (m_yes 0 1 0 rfl rfl rfl (by omega) (by omega) (b1 (bn (by decide) ⟨vin_d hd, fun M2 e2 => ?_⟩))))
      rw [cl (by omega)] at e2
      refine bp rfl ⟨rfl, ?_⟩
      subst e2 e1
      refine hR.shelf (fun j hj => by rw [mup_ne _ _ _ (by omega), mup_ne _ _ _ (by omega)]) (fun d2 hd2 => ?_)
      obtain ⟨g1, g2, g3, g4, g5, g6⟩ := hR.2.2 d2 hd2
      by_cases ed : d2 = d
      · subst ed
        unfold SH
        simp only [mup_eq]
        simp only [show ¬ (14 + d2 = 62) by omega, show ¬ (63 = 62) by omega, show ¬ (64 = 62) by omega, show ¬ (65 = 62) by omega, show ¬ (66 = 62) by omega, show ¬ (67 = 62) by omega, show ¬ (22 + d2 = 62) by omega, show ¬ (30 + d2 = 62) by omega, show ¬ (62 = 14 + d2) by omega, show ¬ (63 = 14 + d2) by omega, show ¬ (64 = 14 + d2) by omega, show ¬ (65 = 14 + d2) by omega, show ¬ (66 = 14 + d2) by omega, show ¬ (67 = 14 + d2) by omega, show ¬ (22 + d2 = 14 + d2) by omega, show ¬ (30 + d2 = 14 + d2) by omega, show ¬ (2 = 0) by omega, show ¬ (3 = 0) by omega, false_and, and_false, if_false, and_self, if_true]
        exact ⟨rfl, Or.inl rfl, g3, g4, g5, fun w => absurd w (by decide)⟩
      · refine (hR.2.2 d2 hd2).other ?_ (fun i _ => ?_) ?_ ?_ ?_ ?_ (fun i _ => ?_) ?_ ?_
        · rw [mup_ne _ _ _ (by omega), mup_ne _ _ _ (by omega)]
        · rw [mup_ne _ _ _ (by omega), mup_ne _ _ _ (by omega)]
        · rw [mup_ne _ _ _ (by omega), mup_ne _ _ _ (by omega)]
        · rw [mup_eq, if_neg (by omega), mup_ne _ _ _ (by omega)]
        · rw [mup_ne _ _ _ (by omega), mup_ne _ _ _ (by omega)]
        · rw [mup_ne _ _ _ (by omega), mup_ne _ _ _ (by omega)]
        · rw [mup_ne _ _ _ (by omega), mup_ne _ _ _ (by omega)]
        · rw [mup_ne _ _ _ (by omega), mup_ne _ _ _ (by omega)]
        · rw [mup_ne _ _ _ (by omega), mup_ne _ _ _ (by omega)]
    · obtain ⟨c, hS, hT⟩ := hR.of
      have hc := hS.1
      refine bn (by decide) (x_has hT.1.1 hS.1 (fun hno => b0 ?_) (fun p hp e => b1 ?_))
      · exact m_shelf_yes hd rfl (b1 (m_yes 0 1 1 rfl rfl rfl (by omega) (by omega) (b1 (bp rfl (m_pc_no hS.2.1 hS.1 hno (b0 ⟨rfl, hR⟩))))))
      · subst e
        have hP := hT.2.2.1 p hp
        rw [show 32 + 6 * 1 + p = 38 + p by omega] at hP
        obtain ⟨p0, p1, p2, p3, p4, p5, p6, p7, p8⟩ := hP
        refine ⟨vin_d hd, nI_in (by omega) (by omega), ?_⟩
        rw [cl (by omega), cl (by omega)]
        intro M1 e1
        refine x_become1 (by omega) (fun M2 f2 g2 => ?_)
        rw [show 16 + (14 + d) = 30 + d by omega] at f2 g2
        have q1 : ∀ i, i ≠ 14 + d → M1 i = M i := fun i hi => by rw [e1, mup_ne _ _ _ hi]
        have q2 : ∀ i, i ≠ 14 + d → i ≠ 30 + d → M2 i = M i := fun i h1 h2 => (f2 i h2).trans (q1 i h1)
        have q58 : M2 58 = M 58 := q2 58 (by omega) (by omega)
        have qs : M2 (14 + d) 0 = 1 ∧ M2 (14 + d) 2 = M (14 + d) 2 ∧ M2 (14 + d) 3 = M (14 + d) 3 := by
          rw [f2 _ (by omega), e1]
          exact ⟨by rw [mup_eq, if_pos ⟨rfl, rfl⟩], by rw [mup_eq, if_neg (by omega)], by rw [mup_eq, if_neg (by omega)]⟩
        have qp : M2 (30 + d) 0 = M 58 (12 + 6 * p + 0) ∧ M2 (30 + d) 1 = M 58 (12 + 6 * p + 1) ∧ M2 (30 + d) 2 = M 58 (12 + 6 * p + 2) ∧ M2 (30 + d) 3 = nI p ∧ M2 (30 + d) 8 = wrB (M 58 (12 + 6 * p + 0)) (M 58 (12 + 6 * p + 1)) := by
          have q38 := q1 (38 + p) (by omega)
          refine ⟨?_, ?_, ?_, ?_, ?_⟩
          · rw [g2 0 (by omega), q38, p0]
          · rw [g2 1 (by omega), q38, p1]
          · rw [g2 2 (by omega), q38, p2]
          · rw [g2 3 (by omega), q38, p3]
          · rw [g2 8 (by omega), q38, p8]
        refine m_shelf_yes hd rfl (b1 (m_yes 0 1 1 rfl rfl rfl (by omega) (by omega) (b1 (bp rfl (m_pc_yes (by rw [q58]; exact hS.2.1) hS.1 hp rfl (b1 ⟨vin_d hd, fun M4 e4 => ?_⟩))))))
        rw [cl (by omega)] at e4
        have q4 : M4 58 = M 58 := by rw [e4, mup_ne _ _ _ (by omega), q58]
        refine bn (by decide) (m_get p 0 rfl rfl (by omega) (by omega) (m_priceOf p rfl (by omega) (fun M5 e5 => ?_)))
        rw [cl (by omega), q4] at e5
        rw [q4]
        have q5 : M5 58 = M 58 := by rw [e5, mup_ne _ _ _ (by omega), q4]
        have fin : ∀ u, u = toB (M 58 (12 + 6 * p + 0)) (M 58 (12 + 6 * p + 1)) (nI p) (wrB (M 58 (12 + 6 * p + 0)) (M 58 (12 + 6 * p + 1))) → vp_in (nI d) 8 ∧ ∀ M6, M6 = mup M5 67 (nI d).toNatClampNeg u → ((0 : Int32) = 0 ∧ Rel M6) := fun u eu => by
          refine ⟨vin_d hd, fun M6 e6 => ⟨rfl, ?_⟩⟩
          rw [cl (by omega)] at e6
          have all : ∀ i, i ≠ 14 + d → i ≠ 30 + d → i ≠ 62 → i ≠ 66 → i ≠ 67 → M6 i = M i := fun i a b c1 c2 c3 => by
            rw [e6, mup_ne _ _ _ c3, e5, mup_ne _ _ _ c2, e4, mup_ne _ _ _ c1, q2 i a b]
          have a14 : M6 (14 + d) = M2 (14 + d) := by rw [e6, mup_ne _ _ _ (by omega), e5, mup_ne _ _ _ (by omega), e4, mup_ne _ _ _ (by omega)]
          have a30 : M6 (30 + d) = M2 (30 + d) := by rw [e6, mup_ne _ _ _ (by omega), e5, mup_ne _ _ _ (by omega), e4, mup_ne _ _ _ (by omega)]
          have a62 : ∀ j, M6 62 j = if j = d then 1 else M 62 j := fun j => by
            rw [e6, mup_ne _ _ _ (by omega), e5, mup_ne _ _ _ (by omega), e4, mup_eq, q2 62 (by omega) (by omega)]
            by_cases w : j = d
            · rw [if_pos ⟨rfl, w⟩, if_pos w]; rfl
            · rw [if_neg (fun q => w q.2), if_neg w]
          have a66 : ∀ j, M6 66 j = if j = d then coB (M 58 (12 + 6 * p + 0)) (M 58 (12 + 6 * p + 1)) (M 58 (12 + 6 * p + 2)) else M 66 j := fun j => by
            rw [e6, mup_ne _ _ _ (by omega), e5, mup_eq, e4, mup_ne _ _ _ (by omega), q2 66 (by omega) (by omega)]
            by_cases w : j = d
            · rw [if_pos ⟨rfl, w⟩, if_pos w]
            · rw [if_neg (fun q => w q.2), if_neg w]
          have a67 : ∀ j, M6 67 j = if j = d then u else M 67 j := fun j => by
            rw [e6, mup_eq, e5, mup_ne _ _ _ (by omega), e4, mup_ne _ _ _ (by omega), q2 67 (by omega) (by omega)]
            by_cases w : j = d
            · rw [if_pos ⟨rfl, w⟩, if_pos w]
            · rw [if_neg (fun q => w q.2), if_neg w]
          refine hR.shelf (fun j hj => all j (by omega) (by omega) (by omega) (by omega) (by omega)) (fun d2 hd2 => ?_)
          obtain ⟨g1, g2, g3, g4, g5, g6⟩ := hR.2.2 d2 hd2
          by_cases ed : d2 = d
          · subst ed
            unfold SH
            rw [a14, a30, a62, a66, a67, if_pos rfl, if_pos rfl, if_pos rfl, all 63 (by omega) (by omega) (by omega) (by omega) (by omega), all 64 (by omega) (by omega) (by omega) (by omega) (by omega), all 65 (by omega) (by omega) (by omega) (by omega) (by omega), all (22 + d2) (by omega) (by omega) (by omega) (by omega) (by omega), qs.1, qs.2.1, qs.2.2, qp.1, qp.2.1, qp.2.2.1, qp.2.2.2.1, qp.2.2.2.2]
            exact ⟨rfl, Or.inr (Or.inl rfl), g3, g4, g5, fun _ => ⟨rfl, eu⟩⟩
          · refine (hR.2.2 d2 hd2).other (all _ (by omega) (by omega) (by omega) (by omega) (by omega)) (fun i _ => by rw [all (22 + d2) (by omega) (by omega) (by omega) (by omega) (by omega)]) (all _ (by omega) (by omega) (by omega) (by omega) (by omega)) (by rw [a62, if_neg ed]) (by rw [all 63 (by omega) (by omega) (by omega) (by omega) (by omega)]) (by rw [all 64 (by omega) (by omega) (by omega) (by omega) (by omega)]) (fun i _ => by rw [all 65 (by omega) (by omega) (by omega) (by omega) (by omega)]) (by rw [a66, if_neg ed]) (by rw [a67, if_neg ed])
        unfold toB at fin
        refine ⟨fun w => fin _ (by rw [if_pos (Or.inl w)]), fun w => m_get p 1 rfl rfl (by omega) (by omega) ?_⟩
        rw [q5]
        refine ⟨fun w2 => fin _ (by rw [if_pos (Or.inr w2)]), fun w2 => ⟨fun w3 => fin _ (by rw [if_neg (fun q => q.elim w w2), if_pos w3]), fun w3 => ⟨fun w4 => m_get p 1 rfl rfl (by omega) (by omega) (m_wearBy (fin _ ?_)), fun w4 => fin _ (by rw [if_neg (fun q => q.elim w w2), if_neg w3, if_neg w4])⟩⟩⟩
        rw [q5, if_neg (fun q => q.elim w w2), if_neg w3, if_pos w4]
theorem x_fill {M : Mem} {a : Nat} {post : Mem → Prop} (k : ∀ M1, (∀ i, i ≠ a → M1 i = M i) → (∀ j, j < 100 → M1 a j = 0) → post M1) : q_J7_fill_53178 M a 0 post := by
  refine pk_loop (fun n i (s : Mem) => lp_J7_fill_53178_5 post n s a 0 (nI i) 100) (fun i s => (∀ j, j ≠ a → s j = M j) ∧ ∀ j, j < i → s a j = 0) 100 0 M (by omega) ⟨fun _ _ => rfl, fun j hj => by omega⟩ (fun n s hs => ?_) (fun n i s hi hs kk => ?_)
  · exact bp (show (100 : Int32) ≤ nI 100 by decide) (k s hs.1 hs.2)
  · refine bn (show ¬ (100 : Int32) ≤ nI i from nI_ge (b := 100) hi (by omega)) ⟨nI_in (by omega) (by omega), fun M3 e3 => ?_⟩
    rw [cl (by omega)] at e3
    rw [nI_1]
    refine kk M3 ⟨fun j hj => by rw [e3, mup_ne _ _ _ hj, hs.1 j hj], fun j hj => ?_⟩
    rw [e3, mup_eq]
    by_cases w : j = i
    · rw [if_pos ⟨rfl, w⟩]
    · rw [if_neg (fun q => w q.2)]; exact hs.2 j (by omega)
theorem e_row : lh_33 Rel := by
  intro M x y z hR
  refine x_shelf (fun hno => b0 ?_) (fun d hd e => b1 (x_in 0 2 rfl rfl (by omega) (by omega) (fun hno => b0 ?_) (fun n h1 h2 ey => b1 ⟨fun w => ⟨fun w2 => ?_, fun w2 => ?_⟩, fun w => ?_⟩)))
  · exact m_shelf_no hno (b0 ⟨rfl, hR⟩)
  · exact m_shelf_yes hd e (b1 (m_no 0 2 rfl rfl (by omega) (by omega) hno (b0 ⟨rfl, hR⟩)))
  · obtain ⟨m, hm, ez⟩ := nI_of2 (M := 100) (n := 100) rfl (nlt_le.mpr w2) w
    subst e ey ez
    refine ⟨vin_d hd, ?_⟩
    rw [cl (by omega)]
    intro M1 e1 M2 e2 M3 e3
    refine x_fill (fun M4 f4 g4 => ?_)
    rw [show 8 + (14 + d) = 22 + d by omega] at f4 g4
    have q3 : ∀ i, i ≠ 14 + d → M3 i = M i := fun i hi => by rw [e3, mup_ne _ _ _ hi, e2, mup_ne _ _ _ hi, e1, mup_ne _ _ _ hi]
    have q4 : ∀ i, i ≠ 14 + d → i ≠ 22 + d → M4 i = M i := fun i a b => (f4 i b).trans (q3 i a)
    have qs : M4 (14 + d) 0 = 2 ∧ M4 (14 + d) 2 = nI n ∧ M4 (14 + d) 3 = nI m := by
      rw [f4 _ (by omega)]
      subst e3 e2 e1
      simp [mup_eq]
    refine m_shelf_yes hd rfl (b1 (m_yes 0 2 n rfl rfl rfl (by omega) (by omega) (b1 (bp w (bp w2 ⟨vin_d hd, fun M5 e5 M6 e6 M7 e7 => ?_⟩)))))
    rw [cl (by omega)] at e5 e6 e7
    have q7 : ∀ i, i ≠ 14 + d → i ≠ 22 + d → i ≠ 62 → i ≠ 63 → i ≠ 64 → M7 i = M i := fun i a b c1 c2 c3 => by
      rw [e7, mup_ne _ _ _ c3, e6, mup_ne _ _ _ c2, e5, mup_ne _ _ _ c1, q4 i a b]
    have a14 : M7 (14 + d) = M4 (14 + d) := by rw [e7, mup_ne _ _ _ (by omega), e6, mup_ne _ _ _ (by omega), e5, mup_ne _ _ _ (by omega)]
    have a22 : M7 (22 + d) = M4 (22 + d) := by rw [e7, mup_ne _ _ _ (by omega), e6, mup_ne _ _ _ (by omega), e5, mup_ne _ _ _ (by omega)]
    have a62 : ∀ j, M7 62 j = if j = d then 2 else M 62 j := fun j => by
      rw [e7, mup_ne _ _ _ (by omega), e6, mup_ne _ _ _ (by omega), e5, mup_eq, q4 62 (by omega) (by omega)]
      by_cases w : j = d
      · rw [if_pos ⟨rfl, w⟩, if_pos w]
      · rw [if_neg (fun q => w q.2), if_neg w]
    have a63 : ∀ j, M7 63 j = if j = d then nI n else M 63 j := fun j => by
      rw [e7, mup_ne _ _ _ (by omega), e6, mup_eq, e5, mup_ne _ _ _ (by omega), q4 63 (by omega) (by omega)]
      by_cases w : j = d
      · rw [if_pos ⟨rfl, w⟩, if_pos w]
      · rw [if_neg (fun q => w q.2), if_neg w]
    have a64 : ∀ j, M7 64 j = if j = d then nI m else M 64 j := fun j => by
      rw [e7, mup_eq, e6, mup_ne _ _ _ (by omega), e5, mup_ne _ _ _ (by omega), q4 64 (by omega) (by omega)]
      by_cases w : j = d
      · rw [if_pos ⟨rfl, w⟩, if_pos w]
      · rw [if_neg (fun q => w q.2), if_neg w]
    clear e5 e6 e7 e1 e2 e3
    refine pk_loop (fun k i (s : Mem) => lp_X6_row_58 (fun r2 M2 => (0 : Int32) = r2 ∧ Rel M2) k s (nI d) (nI i)) (fun i s => (∀ j, j ≠ 65 → s j = M7 j) ∧ (∀ j, j < i → s 65 (100 * d + j) = 0) ∧ ∀ q, (q < 100 * d ∨ 100 * d + 100 ≤ q) → s 65 q = M7 65 q) 100 0 M7 (by omega) ⟨fun _ _ => rfl, fun j hj => by omega, fun _ _ => rfl⟩ (fun k s hs => ?_) (fun k i s hi hs kk => ?_)
    · refine bp (show (100 : Int32) ≤ nI 100 by decide) ⟨rfl, ?_⟩
      obtain ⟨s1, s2, s3⟩ := hs
      refine hR.shelf (fun j hj => by rw [s1 j (by omega), q7 j (by omega) (by omega) (by omega) (by omega) (by omega)]) (fun d2 hd2 => ?_)
      obtain ⟨g1, g2, g3, g5, g6, g7⟩ := hR.2.2 d2 hd2
      by_cases ed : d2 = d
      · subst ed
        unfold SH
        rw [s1 (14 + d2) (by omega), s1 62 (by omega), s1 63 (by omega), s1 64 (by omega), s1 (22 + d2) (by omega), a14, a22, a62, a63, a64, if_pos rfl, if_pos rfl, if_pos rfl, qs.1, qs.2.1, qs.2.2]
        exact ⟨rfl, Or.inr (Or.inr rfl), rfl, ⟨m, hm, rfl, rfl⟩, fun i hi => by rw [g4 i hi, s2 i hi], fun w => absurd w (by decide)⟩
      · refine (hR.2.2 d2 hd2).other (by rw [s1 _ (by omega), q7 _ (by omega) (by omega) (by omega) (by omega) (by omega)]) (fun i _ => by rw [s1 _ (by omega), q7 _ (by omega) (by omega) (by omega) (by omega) (by omega)]) (by rw [s1 _ (by omega), q7 _ (by omega) (by omega) (by omega) (by omega) (by omega)]) (by rw [s1 62 (by omega), a62, if_neg ed]) (by rw [s1 63 (by omega), a63, if_neg ed]) (by rw [s1 64 (by omega), a64, if_neg ed]) (fun i hi => by rw [s3 _ (by omega), q7 65 (by omega) (by omega) (by omega) (by omega) (by omega)]) (by rw [s1 66 (by omega), q7 66 (by omega) (by omega) (by omega) (by omega) (by omega)]) (by rw [s1 67 (by omega), q7 67 (by omega) (by omega) (by omega) (by omega) (by omega)])
    · refine bn (show ¬ (100 : Int32) ≤ nI i from nI_ge (b := 100) hi (by omega)) ?_
      rw [ix_e]
      refine ⟨nI_in (by omega) (by omega), fun M8 e8 => ?_⟩
      rw [cl (by omega)] at e8
      rw [nI_1]
      obtain ⟨s1, s2, s3⟩ := hs
      refine kk M8 ⟨fun j hj => by rw [e8, mup_ne _ _ _ hj, s1 j hj], fun j hj => ?_, fun q hq => by rw [e8, mup_eq, if_neg (by omega), s3 q hq]⟩
      rw [e8, mup_eq]
      by_cases w : j = i
      · rw [if_pos ⟨rfl, by rw [w]⟩]
      · rw [if_neg (by omega)]; exact s2 j (by omega)
  · exact m_shelf_yes hd e (b1 (m_yes 0 2 n ey rfl rfl (by omega) (by omega) (b1 (bp w (bn w2 ⟨rfl, hR⟩)))))
  · exact m_shelf_yes hd e (b1 (m_yes 0 2 n ey rfl rfl (by omega) (by omega) (b1 (bn w ⟨rfl, hR⟩))))
