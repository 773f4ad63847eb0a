/-! PURE: the calls that ask the line once -/
theorem pos_of {S : Nat → Int32} {c L Y w : Nat} {b : Nat → Bool} (h : ∀ p, p < c → PB S 198 p) (hc : c ≤ 6) (h4 : 4 ≤ L) (hL : L ≤ 40) (hY : Y ≤ 60) (hw : w ≤ 9) : ∀ t, t ≤ 10000 → ∃ N, N ≤ 200000 ∧ plF (sF S b c) (sH S b c) (gvR (sG S b c)) (nI Y) (nI L) (nI w) (nI t) = nI N := by
  obtain ⟨F, hF, eF⟩ := sF_nat (b := b) h
  obtain ⟨H, hH, eH⟩ := sH_nat (b := b) h
  obtain ⟨G, hG, eG⟩ := sG_nat (b := b) h
  have f1 : c * 198 ≤ 6 * 198 := Nat.mul_le_mul_right _ hc
  have f2 : c * (198 * 15) ≤ 6 * (198 * 15) := Nat.mul_le_mul_right _ hc
  have f3 : c * (198 * 49) ≤ 6 * (198 * 49) := Nat.mul_le_mul_right _ hc
  obtain ⟨N, h1, h2, e⟩ := gvR_nat (G := G) (by omega)
  intro t ht
  rw [eF, eH, eG, e]
  exact plF_nat (by omega) (by omega) h1 (by omega) hY h4 hL hw (by omega)
theorem PB.mono {S : Nat → Int32} {F F2 p : Nat} (h : PB S F p) (hF : F ≤ F2) : PB S F2 p := by
  obtain ⟨kd, fg, fa, h1, h2, h3, e⟩ := h
  exact ⟨kd, fg, fa, h1, h2, by omega, e⟩
theorem SI.pos {S : Nat → Int32} {c L : Nat} (h : SI S c) (b : Nat → Bool) (eL : S 6 = nI L) (h4 : 4 ≤ L) (hL : L ≤ 40) : ∀ t, t < L → 0 ≤ PL (sF S b c) (sH S b c) (gvR (sG S b c)) (S 5) (nI L) (S 7) t := by
  obtain ⟨Y, a1, a2, a3⟩ := h.2.2.1 0 (by omega)
  obtain ⟨w, b1, b2, b3⟩ := h.2.2.1 2 (by omega)
  have a2 : Y ≤ 60 := a2
  have b2 : w ≤ 9 := b2
  have a3 : S 5 = nI Y := a3
  have b3 : S 7 = nI w := b3
  intro t ht
  obtain ⟨N, hN, e⟩ := pos_of (b := b) (fun p hp => (h.pb p hp).mono (by omega)) h.1 h4 hL a2 b2 t (by omega)
  show (0 : Int32) ≤ plF _ _ _ _ _ _ _
  rw [a3, b3, e]
  exact nI_pos' (by omega)
theorem SI.len {S : Nat → Int32} {c : Nat} (h : SI S c) : ∃ L, 4 ≤ L ∧ L ≤ 40 ∧ S 6 = nI L := h.mo.1
theorem e_apart : lh_4 Rel := by
  intro M x hR
  obtain ⟨c, hS, hT⟩ := hR.of
  have hI := Rel.mi hS hT
  refine x_in 0 9999 rfl rfl (by omega) (by omega) (fun hno => b0 ?_) (fun n h1 h2 e => b1 (x_lnq hT hS.1 (fun hn => ?_) (fun hn M1 f1 n1 => ?_)))
  · exact m_no 0 9999 rfl rfl (by omega) (by omega) hno (b0 ⟨rfl, hR⟩)
  · exact m_yes 0 9999 n e rfl rfl ⟨h1, h2⟩ (by omega) (b1 (m_lnq hI (fun _ => ⟨rfl, hR⟩) (fun z => absurd z hn)))
  · have f := FrC.of4 f1
    refine l_apart n1 (hS.lo al) ?_
    refine m_yes 0 9999 n e rfl rfl ⟨h1, h2⟩ (by omega) (b1 (m_lnq (hI.frC f) (fun z => absurd (by rw [f.e58]; exact hn) z) (fun _ M2 k2 n2 => ?_)))
    have e2 : M2 58 = M 58 := (k2.1 58 (by omega)).trans f.e58
    rw [f.e58] at n2
    refine m_apart n2 (by rw [e2]; exact hS.mo) ⟨by rw [e2], (hR.frC f).frM k2.frM⟩
theorem e_pull : lh_5 Rel := by
  intro M x hR
  obtain ⟨c, hS, hT⟩ := hR.of
  have hI := Rel.mi hS hT
  refine x_in 0 9999 rfl rfl (by omega) (by omega) (fun hno => b0 ?_) (fun n h1 h2 e => b1 (x_lnq hT hS.1 (fun hn => ?_) (fun hn M1 f1 n1 => ?_)))
  · exact m_no 0 9999 rfl rfl (by omega) (by omega) hno (b0 ⟨rfl, hR⟩)
  · exact m_yes 0 9999 n e rfl rfl ⟨h1, h2⟩ (by omega) (b1 (m_lnq hI (fun _ => ⟨rfl, hR⟩) (fun z => absurd z hn)))
  · have f := FrC.of4 f1
    refine l_pull n1 (hS.lo al) ?_
    refine m_yes 0 9999 n e rfl rfl ⟨h1, h2⟩ (by omega) (b1 (m_lnq (hI.frC f) (fun z => absurd (by rw [f.e58]; exact hn) z) (fun _ M2 k2 n2 => ?_)))
    have e2 : M2 58 = M 58 := (k2.1 58 (by omega)).trans f.e58
    rw [f.e58] at n2
    refine m_pullK n2 (by rw [e2]; exact hS.mo) (hS.gn al) (fun M3 k3 _ _ _ => ⟨by rw [e2], (hR.frC f).frM (k2.tr k3).frM⟩)
theorem e_renders : lh_23 Rel := by
  intro M x hR
  obtain ⟨c, hS, hT⟩ := hR.of
  have hI := Rel.mi hS hT
  obtain ⟨L, h4, hL, eL⟩ := hS.len
  refine x_in 0 9999 rfl rfl (by omega) (by omega) (fun hno => b0 ?_) (fun n h1 h2 e => b1 (x_lnq hT hS.1 (fun hn => ?_) (fun hn M1 f1 n1 => ?_)))
  · exact m_no 0 9999 rfl rfl (by omega) (by omega) hno (b0 ⟨rfl, hR⟩)
  · exact m_yes 0 9999 n e rfl rfl ⟨h1, h2⟩ (by omega) (b1 (m_lnq hI (fun _ => ⟨rfl, hR⟩) (fun z => absurd z hn)))
  · have f := FrC.of4 f1
    have ho := hS.lo al
    rw [eL] at n1 ho
    refine l_above n1 ho hL ?_
    refine m_yes 0 9999 n e rfl rfl ⟨h1, h2⟩ (by omega) (b1 (m_lnq (hI.frC f) (fun z => absurd (by rw [f.e58]; exact hn) z) (fun _ M2 k2 n2 => ?_)))
    have e2 : M2 58 = M 58 := (k2.1 58 (by omega)).trans f.e58
    rw [f.e58] at n2
    refine m_above n2 (by rw [e2]; exact hS.mo) (hS.gn al) (by rw [e2]; exact eL) hL (fun M3 k3 _ => ⟨by rw [e2], (hR.frC f).frM (k2.tr k3).frM⟩)
theorem e_greatest : lh_7 Rel := by
  intro M x hR
  obtain ⟨c, hS, hT⟩ := hR.of
  have hI := Rel.mi hS hT
  obtain ⟨L, h4, hL, eL⟩ := hS.len
  refine x_in 0 1 rfl rfl (by omega) (by omega) (fun hno => b0 ?_) (fun n h1 h2 e => b1 (x_lnq hT hS.1 (fun hn => ?_) (fun hn M1 f1 n1 => ?_)))
  · exact m_no 0 1 rfl rfl (by omega) (by omega) hno (b0 ⟨rfl, hR⟩)
  · exact m_yes 0 1 n e rfl rfl ⟨h1, h2⟩ (by omega) (b1 (m_lnq hI (fun _ => ⟨rfl, hR⟩) (fun z => absurd z hn)))
  · have f := FrC.of4 f1
    have ho := hS.lo al
    have hpos := hS.pos al eL h4 hL
    rw [eL] at n1 ho
    have key : ∀ r, (x = 0 → r = mxP (PL (sF (M 58) al c) (sH (M 58) al c) (gvR (sG (M 58) al c)) (M 58 5) (nI L) (M 58 7)) L) → (¬ x = 0 → r = nI (amP (PL (sF (M 58) al c) (sH (M 58) al c) (gvR (sG (M 58) al c)) (M 58 5) (nI L) (M 58 7)) L)) → q_X6_greatest M1 x (fun r2 M2 => r = r2 ∧ Rel M2) := fun r g1 g2 => by
      refine m_yes 0 1 n e rfl rfl ⟨h1, h2⟩ (by omega) (b1 (m_lnq (hI.frC f) (fun z => absurd (by rw [f.e58]; exact hn) z) (fun _ M2 k2 n2 => ?_)))
      have e2 : M2 58 = M 58 := (k2.1 58 (by omega)).trans f.e58
      rw [f.e58] at n2
      refine m_great n2 (by rw [e2]; exact hS.mo) (hS.gn al) (by rw [e2]; exact eL) hL (by rw [e2]; exact hpos) (by omega) (fun M3 k3 _ a3 _ => ?_)
      rw [e2] at a3
      rw [e2]
      have hR3 := (hR.frC f).frM (k2.tr k3).frM
      exact ⟨fun z => ⟨g1 z, hR3⟩, fun z => ⟨by rw [a3]; exact g2 z, hR3⟩⟩
    refine ⟨fun z => l_great n1 ho hL (key _ (fun _ => rfl) (fun w => absurd z w)), fun z => l_when n1 ho (by omega) hL hpos (key _ (fun w => absurd w z) (fun _ => rfl))⟩
theorem e_fouls : lh_13 Rel := by
  intro M hR
  obtain ⟨c, hS, hT⟩ := hR.of
  have hI := Rel.mi hS hT
  refine x_lnq hT hS.1 (fun hn => ?_) (fun hn M1 f1 n1 => ?_)
  · exact m_isLine hI.1.2.1 hI.1.1 hI.2 (fun _ => b0 ⟨rfl, hR⟩) (fun z => absurd z hn)
  · have f := FrC.of4 f1
    have e11 : M1 11 3 = M 58 8 := by rw [f1 11 (by omega)]; exact hT.2.1 3 (by omega)
    have key : ∀ r, (hgF (sH (M 58) al c) (M 58 7) ≤ M 58 8 → r = 0) → (¬ hgF (sH (M 58) al c) (M 58 7) ≤ M 58 8 → r = 1) → q_X6_fouls M1 (fun r2 M2 => r = r2 ∧ Rel M2) := fun r g1 g2 => by
      have hI1 := hI.frC f
      refine m_isLine hI1.1.2.1 hI1.1.1 hI1.2 (fun z => absurd (by rw [f.e58]; exact hn) z) (fun _ => b1 (m_sumsAll hI1.1.2.1 hI1.1.1 (fun M2 k2 n2 => ?_)))
      have e2 : M2 58 = M 58 := (k2.1 58 (by omega)).trans f.e58
      rw [f.e58] at n2
      refine m_hang n2 (by rw [e2]; exact hS.mo) ?_
      rw [e2]
      have hR3 := (hR.frC f).frM k2.frM
      exact ⟨fun z => ⟨Or.inl rfl, b0 ⟨g1 z, hR3⟩⟩, fun z => ⟨Or.inr rfl, b1 ⟨g2 z, hR3⟩⟩⟩
    refine l_hang n1 (hS.lo al).2.2 ?_
    rw [e11]
    exact ⟨fun z => key _ (fun _ => rfl) (fun w => absurd z w), fun z => key _ (fun w => absurd w z) (fun _ => rfl)⟩
theorem e_line : lh_3 Rel := by
  intro M x hR
  obtain ⟨c, hS, hT⟩ := hR.of
  have hI := Rel.mi hS hT
  have hno : (∀ n, 0 ≤ n → n ≤ 5 → x ≠ nI n) → q_X6_line M x (fun r2 M2 => (-1 : Int32) = r2 ∧ Rel M2) := fun hno => m_no 0 5 rfl rfl (by omega) (by omega) hno (b0 ⟨rfl, hR⟩)
  refine ⟨fun z => hno (fun n _ h2 e => ?_), fun z => ⟨fun z2 => ?_, fun z2 => hno (fun n _ h2 e => ?_)⟩⟩
  · rw [e] at z; exact absurd z (nI_pos (by omega))
  · obtain ⟨n, hn, e⟩ := nI_of2 (M := 5) (n := 5) rfl z z2
    refine x_lnq hT hS.1 (fun hn => ?_) (fun hl M1 f1 n1 => ?_)
    · exact m_yes 0 5 n e rfl rfl (by omega) (by omega) (b1 (m_lnq hI (fun _ => ⟨rfl, hR⟩) (fun z => absurd z hn)))
    · have f := FrC.of4 f1
      have key : ∀ r, (∀ M2, Kq M1 M2 → M2 58 = M 58 → LM M2 (sF (M 58) al c) (sH (M 58) al c) (gvR (sG (M 58) al c)) → (x = 0 → r = sF (M 58) al c) ∧ (x = 1 → r = sH (M 58) al c) ∧ (x = 2 → r = gvR (sG (M 58) al c)) ∧ (x = 3 → r = hgF (sH (M 58) al c) (M 58 7)) ∧ (x = 4 → r = hgF (sH (M 58) al c) (M 58 7) / 4) ∧ (¬ x = 0 → ¬ x = 1 → ¬ x = 2 → ¬ x = 3 → ¬ x = 4 → r = bsF (sH (M 58) al c) (M 58 7))) → q_X6_line M1 x (fun r2 M2 => r = r2 ∧ Rel M2) := fun r g => by
        refine m_yes 0 5 n e rfl rfl (by omega) (by omega) (b1 (m_lnq (hI.frC f) (fun z => absurd (by rw [f.e58]; exact hl) z) (fun _ M2 k2 n2 => ?_)))
        have e2 : M2 58 = M 58 := (k2.1 58 (by omega)).trans f.e58
        rw [f.e58] at n2
        obtain ⟨g0, g1, g2, g3, g4, g5⟩ := g M2 k2 e2 n2
        have hR3 := (hR.frC f).frM k2.frM
        have mo : MO (M2 58) := by rw [e2]; exact hS.mo
        refine ⟨fun z => ⟨by rw [n2.1]; exact g0 z, hR3⟩, fun z0 => ⟨fun z => ⟨by rw [n2.2.1]; exact g1 z, hR3⟩, fun z1 => ⟨fun z => ⟨by rw [n2.2.2]; exact g2 z, hR3⟩, fun z2 => ⟨fun z => m_hang n2 mo ⟨by rw [e2]; exact g3 z, hR3⟩, fun z3 => ⟨fun z => m_hang n2 mo ⟨by rw [e2]; exact g4 z, hR3⟩, fun z4 => m_base n2 ⟨by rw [e2]; exact g5 z0 z1 z2 z3 z4, hR3⟩⟩⟩⟩⟩⟩
      have ho := hS.lo al
      refine ⟨fun z => key _ (fun _ _ _ _ => ?_), fun z0 => ⟨fun z => key _ (fun _ _ _ _ => ?_), fun z1 => ⟨fun z => l_give n1 ho (key _ (fun _ _ _ _ => ?_)), fun z2 => ⟨fun z => l_hang n1 ho.2.2 (key _ (fun _ _ _ _ => ?_)), fun z3 => ⟨fun z => l_slack n1 ho (key _ (fun _ _ _ _ => ?_)), fun z4 => l_base n1 (key _ (fun _ _ _ _ => ?_))⟩⟩⟩⟩⟩
      · subst z; rw [n1.1]; exact ⟨fun _ => rfl, fun w => absurd w (by decide), fun w => absurd w (by decide), fun w => absurd w (by decide), fun w => absurd w (by decide), fun w => absurd rfl w⟩
      · subst z; rw [n1.2.1]; exact ⟨fun w => absurd w (by decide), fun _ => rfl, fun w => absurd w (by decide), fun w => absurd w (by decide), fun w => absurd w (by decide), fun _ w => absurd rfl w⟩
      · subst z; exact ⟨fun w => absurd w (by decide), fun w => absurd w (by decide), fun _ => rfl, fun w => absurd w (by decide), fun w => absurd w (by decide), fun _ _ w => absurd rfl w⟩
      · subst z; exact ⟨fun w => absurd w (by decide), fun w => absurd w (by decide), fun w => absurd w (by decide), fun _ => rfl, fun w => absurd w (by decide), fun _ _ _ w => absurd rfl w⟩
      · subst z; exact ⟨fun w => absurd w (by decide), fun w => absurd w (by decide), fun w => absurd w (by decide), fun w => absurd w (by decide), fun _ => rfl, fun _ _ _ _ w => absurd rfl w⟩
      · exact ⟨fun w => absurd w z0, fun w => absurd w z1, fun w => absurd w z2, fun w => absurd w z3, fun w => absurd w z4, fun _ _ _ _ _ => rfl⟩
  · rw [e] at z2; exact absurd (show nI n ≤ (5 : Int32) from nI_le (b := 5) h2 (by omega)) z2
theorem e_yaw : lh_17 Rel := by
  intro M x hR
  obtain ⟨c, hS, hT⟩ := hR.of
  refine x_in 0 1 rfl rfl (by omega) (by omega) (fun hno => b0 ?_) (fun n h1 h2 e => b1 ?_)
  · exact m_no 0 1 rfl rfl (by omega) (by omega) hno (b0 ⟨rfl, hR⟩)
  · subst e
    rcases (show n = 0 ∨ n = 1 by omega) with rfl | rfl
    · refine bp rfl (m_yes 0 1 0 rfl rfl rfl (by omega) (by omega) (b1 ⟨vl (by decide), ?_⟩))
      exact ⟨hT.1.2.1, hR⟩
    · refine bn (by decide) (m_yes 0 1 1 rfl rfl rfl (by omega) (by omega) (b1 ⟨vl (by decide), ?_⟩))
      exact ⟨hT.1.2.2.1, hR⟩
theorem m_strengthOf (p : Nat) {M : Mem} {x : Int32} {post : Int32 → Mem → Prop} (hx : x = nI p) (hp : p ≤ 6) (h : post (stB (M 58 (12 + 6 * p + 0)) (M 58 (12 + 6 * p + 1))) M) : q_X6_strengthOf M x post :=
  m_get p 0 hx rfl hp (by omega) (m_get p 1 hx rfl hp (by omega) (m_strengthBy h))
theorem e_whip : lh_22 Rel := by
  intro M x hR
  obtain ⟨c, hS, hT⟩ := hR.of
  have hc := hS.1
  refine x_has hT.1.1 hS.1 (fun hno => b0 ?_) (fun p hp e => b1 ?_)
  · exact m_pc_no hS.2.1 hS.1 hno (b0 ⟨rfl, hR⟩)
  · subst e
    refine ⟨nI_in (by omega) (by omega), ?_⟩
    rw [nI_clamp (by omega)]
    have hP := hT.2.2.1 p hp
    rw [show 32 + 6 * 1 + p = 38 + p by omega] at hP
    refine m_pc_yes hS.2.1 hS.1 hp rfl (b1 (m_strengthOf p rfl (by omega) (m_get p 0 rfl rfl (by omega) (by omega) (m_get p 1 rfl rfl (by omega) (by omega) (m_giveBy (m_get p 2 rfl rfl (by omega) (by omega) ⟨?_, hR⟩))))))
    rw [hP.2.2.2.2.2.2.2.1, hP.2.2.2.2.2.2.1, hP.2.2.1]
theorem e_why : lh_26 Rel := by
  intro M x hR
  obtain ⟨c, hS, hT⟩ := hR.of
  have hc := hS.1
  refine x_has hT.1.1 hS.1 (fun hno => b0 ?_) (fun p hp e => b1 ?_)
  · exact m_pc_no hS.2.1 hS.1 hno (b0 ⟨rfl, hR⟩)
  · subst e
    have hP := hT.2.2.1 p hp
    rw [show 32 + 6 * 1 + p = 38 + p by omega] at hP
    rcases hT.2.2.2 with ⟨a, b⟩ | ⟨q, a1, a2, a3, a4, a5⟩
    · rw [a]
      refine bn (fun z => ?_) (m_pc_yes hS.2.1 hS.1 hp rfl (b1 (m_get p 4 rfl rfl (by omega) (by omega) ?_)))
      · have n4 : ∀ q, q < 6 → (-4 : Int32) ≠ nI q := by decide
        exact n4 p (by omega) z
      · rw [b p hp]; exact b0 ⟨rfl, hR⟩
    · rw [a2]
      by_cases e : p = q
      · subst e
        refine bp rfl ⟨nI_in (by omega) (by omega), ?_⟩
        rw [nI_clamp (by omega), hP.2.2.2.2.1, hP.2.2.2.2.2.2.2.1]
        have key : ∀ r, r = whF (M 58 (12 + 6 * p + 3)) (stB (M 58 (12 + 6 * p + 0)) (M 58 (12 + 6 * p + 1))) (M 1 8) → q_X6_why M (nI p) (fun r2 M2 => r = r2 ∧ Rel M2) := fun r er => by
          refine m_pc_yes hS.2.1 hS.1 hp rfl (b1 (m_get p 4 rfl rfl (by omega) (by omega) ?_))
          rw [a3]
          exact bn (by decide) (m_get p 5 rfl rfl (by omega) (by omega) ⟨by rw [a5]; exact er, hR⟩)
        unfold whF at key
        refine ⟨fun z => key _ (by rw [if_pos z]), fun z => ⟨fun z2 => key _ (by rw [if_neg z, if_neg (nle_lt.mpr z2)]), fun z2 => key _ (by rw [if_neg z, if_pos (nlt_le.mp z2)])⟩⟩
      · refine bn (fun z => e ((nI_eq (by omega) (by omega)).mp z).symm) (m_pc_yes hS.2.1 hS.1 hp rfl (b1 (m_get p 4 rfl rfl (by omega) (by omega) ?_)))
        rw [a4 p hp e]; exact b0 ⟨rfl, hR⟩
theorem e_piece : lh_1 Rel := by
  intro M x y hR
  obtain ⟨c, hS, hT⟩ := hR.of
  have hc := hS.1
  refine x_has hT.1.1 hS.1 (fun hno => b0 ?_) (fun p hp e => b1 ?_)
  · exact m_pc_no hS.2.1 hS.1 hno (b0 ⟨rfl, hR⟩)
  · subst e
    have hP := hT.2.2.1 p hp
    rw [show 32 + 6 * 1 + p = 38 + p by omega] at hP
    obtain ⟨p0, p1, p2, p3, p4, p5, p6, p7, p8⟩ := hP
    refine ⟨nI_in (by omega) (by omega), ?_⟩
    rw [nI_clamp (by omega), p0, p1, p2, p4, p5, p6, p7, p8]
    have st : ∀ r, (∀ (Q : Prop), (((y = 0 → r = M 58 (12 + 6 * p + 0)) ∧ (y = 1 → r = M 58 (12 + 6 * p + 2)) ∧ (y = 2 → r = M 58 (12 + 6 * p + 1)) ∧ (y = 3 → r = hfB (M 58 (12 + 6 * p + 0)) (M 58 (12 + 6 * p + 1))) ∧ (y = 4 → r = gvB (M 58 (12 + 6 * p + 0)) (M 58 (12 + 6 * p + 1))) ∧ (y = 5 → r = stB (M 58 (12 + 6 * p + 0)) (M 58 (12 + 6 * p + 1))) ∧ (y = 6 → r = wrB (M 58 (12 + 6 * p + 0)) (M 58 (12 + 6 * p + 1))) ∧ (y = 7 → r = M 58 (12 + 6 * p + 3)) ∧ (y = 8 → r = M 58 (12 + 6 * p + 4)) ∧ (¬ y = 0 → ¬ y = 1 → ¬ y = 2 → ¬ y = 3 → ¬ y = 4 → ¬ y = 5 → ¬ y = 6 → ¬ y = 7 → ¬ y = 8 → r = -1)) → Q) → Q) → q_X6_piece M (nI p) y (fun r2 M2 => r = r2 ∧ Rel M2) := fun r g => by
      obtain ⟨g0, g1, g2, g3, g4, g5, g6, g7, g8, g9⟩ := g _ id
      refine m_pc_yes hS.2.1 hS.1 hp rfl (b1 (m_get p 0 rfl rfl (by omega) (by omega) (m_get p 1 rfl rfl (by omega) (by omega) ?_)))
      refine ⟨fun z => ⟨g0 z, hR⟩, fun z0 => ⟨fun z => m_get p 2 rfl rfl (by omega) (by omega) ⟨g1 z, hR⟩, fun z1 => ⟨fun z => ⟨g2 z, hR⟩, fun z2 => ⟨fun z => m_heftBy ⟨g3 z, hR⟩, fun z3 => ⟨fun z => m_giveBy ⟨g4 z, hR⟩, fun z4 => ⟨fun z => m_strengthBy ⟨g5 z, hR⟩, fun z5 => ⟨fun z => m_wearBy ⟨g6 z, hR⟩, fun z6 => ⟨fun z => m_get p 3 rfl rfl (by omega) (by omega) ⟨g7 z, hR⟩, fun z7 => ⟨fun z => m_get p 4 rfl rfl (by omega) (by omega) ⟨g8 z, hR⟩, fun z8 => ⟨g9 z0 z1 z2 z3 z4 z5 z6 z7 z8, hR⟩⟩⟩⟩⟩⟩⟩⟩⟩⟩
    have h8 : (M 1 7 = nI p → (1 : Int32) = M 58 (12 + 6 * p + 4)) ∧ (¬ M 1 7 = nI p → (0 : Int32) = M 58 (12 + 6 * p + 4)) := by
      rcases hT.2.2.2 with ⟨a, b⟩ | ⟨q, a1, a2, a3, a4, a5⟩
      · have n4 : ∀ q, q < 6 → (-4 : Int32) ≠ nI q := by decide
        rw [a]
        exact ⟨fun z => absurd z (n4 p (by omega)), fun _ => (b p hp).symm⟩
      · rw [a2, nI_eq (by omega) (by omega)]
        exact ⟨fun z => by subst z; exact a3.symm, fun z => (a4 p hp (fun w => z w.symm)).symm⟩
    refine ⟨fun z => st _ (fun Q k => k ?_), fun z0 => ⟨fun z => st _ (fun Q k => k ?_), fun z1 => ⟨fun z => st _ (fun Q k => k ?_), fun z2 => ⟨fun z => st _ (fun Q k => k ?_), fun z3 => ⟨fun z => st _ (fun Q k => k ?_), fun z4 => ⟨fun z => st _ (fun Q k => k ?_), fun z5 => ⟨fun z => st _ (fun Q k => k ?_), fun z6 => ⟨fun z => st _ (fun Q k => k ?_), fun z7 => ⟨fun z => ⟨fun w => st _ (fun Q k => k ?_), fun w => st _ (fun Q k => k ?_)⟩, fun z8 => st _ (fun Q k => k ?_)⟩⟩⟩⟩⟩⟩⟩⟩⟩
    all_goals grind
