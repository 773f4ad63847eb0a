/-! PURE: takeIn, winch -/
/-- the first of 1 .. n that does; -4 where none does -/
def fs1 (P : Nat → Bool) : Nat → Nat → Int32
  | 0, _ => -4
  | k + 1, t => if P t then nI t else fs1 P k (t + 1)
theorem fs1_s (P : Nat → Bool) {n i : Nat} (h : i ≤ n) : fs1 P (n + 1 - i) i = if P i then nI i else fs1 P (n + 1 - (i + 1)) (i + 1) := by
  rw [show n + 1 - i = (n + 1 - (i + 1)) + 1 by omega]
  rfl
theorem fs1_z (P : Nat → Bool) {n : Nat} : fs1 P (n + 1 - (n + 1)) (n + 1) = -4 := by
  rw [Nat.sub_self]
  rfl
theorem fs1_r (P : Nat → Bool) : ∀ k t, fs1 P k t = -4 ∨ ∃ j, t ≤ j ∧ j < t + k ∧ fs1 P k t = nI j
  | 0, _ => Or.inl rfl
  | k + 1, t => by
    unfold fs1
    by_cases w : P t
    · rw [if_pos w]; exact Or.inr ⟨t, by omega, by omega, rfl⟩
    · rw [if_neg w]
      rcases fs1_r P k (t + 1) with h | ⟨j, h1, h2, h3⟩
      · exact Or.inl h
      · exact Or.inr ⟨j, by omega, by omega, h3⟩
/-- the best of the pieces: how much, of which -/
def tkF (D : Nat → Int32) : Nat → Int32 × Int32
  | 0 => (-4, 100)
  | p + 1 => if D p = -4 then tkF D p else if (tkF D p).2 ≤ D p then tkF D p else (100 * nI p + D p, D p)
theorem tk_s (D : Nat → Int32) (p : Nat) : tkF D (p + 1) = if D p = -4 then tkF D p else if (tkF D p).2 ≤ D p then tkF D p else (100 * nI p + D p, D p) := rfl
theorem e_takeIn : lh_14 Rel := by
  intro M hR
  obtain ⟨c, hS, hT⟩ := hR.of
  have hI := Rel.mi hS hT
  have hc := hS.1
  have n4 : ∀ q, q < 2000 → ¬ nI q = (-4 : Int32) := fun q hq e => by
    have h0 := nI_pos' (n := q) (by omega)
    rw [e] at h0
    exact absurd h0 (by decide)
  refine x_lnq hT hS.1 (fun hn => ?_) (fun hn M1 f1 n1 => ?_)
  · exact m_isLine hI.1.2.1 hI.1.1 hI.2 (fun _ => b0 ⟨rfl, hR⟩) (fun z => absurd z hn)
  · have f := FrC.of4 f1
    have e11 : M1 11 3 = M 58 8 := by rw [f1 11 (by omega)]; exact hT.2.1 3 (by omega)
    have ho := hS.lo al
    -- how much of piece p
    generalize hD : (fun p => fs1 (fun t => decide (hgF (sH (M 58) al c - nI t * hfB (M 58 (12 + 6 * p + 0)) (M 58 (12 + 6 * p + 1))) (M 58 7) ≤ M 58 8)) ((M 58 (12 + 6 * p + 2)).toNatClampNeg + 1 - 1) 1) = D
    have hDp : ∀ p fa, M 58 (12 + 6 * p + 2) = nI fa → fa ≤ 99 → D p = fs1 (fun t => decide (hgF (sH (M 58) al c - nI t * hfB (M 58 (12 + 6 * p + 0)) (M 58 (12 + 6 * p + 1))) (M 58 7) ≤ M 58 8)) (fa + 1 - 1) 1 := fun p fa e h => by
      rw [← hD]
      show fs1 _ ((M 58 (12 + 6 * p + 2)).toNatClampNeg + 1 - 1) 1 = _
      rw [e, cl (by omega)]
    have hDr : ∀ p, p < c → D p = -4 ∨ ∃ j, 1 ≤ j ∧ j ≤ 99 ∧ D p = nI j := fun p hp => by
      obtain ⟨kd, fg, fa, hu, b1, b2, b3, b4, b5, e1, e2, e3, e4⟩ := hS.2.2.2 p hp
      rw [hDp p fa e3 b4]
      rcases fs1_r _ (fa + 1 - 1) 1 with h | ⟨j, h1, h2, h3⟩
      · exact Or.inl h
      · exact Or.inr ⟨j, h1, by omega, h3⟩
    have tkI : ∀ p, p ≤ c → ((tkF D p).1 = -4 ∧ (tkF D p).2 = 100) ∨ (0 ≤ (tkF D p).1 ∧ ¬ (tkF D p).1 = -4) := by
      intro p
      induction p with
      | zero => intro _; exact Or.inl ⟨rfl, rfl⟩
      | succ p ih =>
        intro hp
        rw [tk_s]
        by_cases w : D p = -4
        · rw [if_pos w]; exact ih (by omega)
        · rw [if_neg w]
          by_cases w2 : (tkF D p).2 ≤ D p
          · rw [if_pos w2]; exact ih (by omega)
          · rw [if_neg w2]
            rcases hDr p (by omega) with h | ⟨j, h1, h2, h3⟩
            · exact absurd h w
            · rw [h3]
              dsimp only
              rw [ix_e]
              exact Or.inr ⟨nI_pos' (by omega), n4 _ (by omega)⟩
    have foul : ∀ (s : Mem) (c0 : s 58 0 = nI c) (mo : MO (s 58)) (post : Int32 → Mem → Prop), (∀ M3, Kq s M3 → (hgF (sH (s 58) al c) (s 58 7) ≤ s 58 8 → post 0 M3) ∧ (¬ hgF (sH (s 58) al c) (s 58 7) ≤ s 58 8 → post 1 M3)) → q_X6_isFoul s post := fun s c0 mo post hk => by
      refine m_sumsAll c0 hc (fun M3 k3 n3 => ?_)
      have e3 : M3 58 = s 58 := k3.1 58 (by omega)
      refine m_hang n3 (by rw [e3]; exact mo) ?_
      rw [e3]
      obtain ⟨h0, h1⟩ := hk M3 k3
      exact ⟨fun z => ⟨Or.inl rfl, h0 z⟩, fun z => ⟨Or.inr rfl, h1 z⟩⟩
    have mm : ∀ M2, FrC M M2 → ¬ hgF (sH (M 58) al c) (M 58 7) ≤ M 58 8 → q_X6_takeIn M2 (fun r2 M3 => (tkF D c).1 = r2 ∧ Rel M3) := fun M2 F hfl => by
      have hI2 := hI.frC F
      have e2 := F.e58
      refine m_isLine hI2.1.2.1 hI2.1.1 hI2.2 (fun z => absurd (by rw [e2]; exact hn) z) (fun _ => b1 (foul M2 (by rw [e2]; exact hS.2.1) (by rw [e2]; exact hS.mo) _ (fun M3 k3 => ?_)))
      rw [e2]
      refine ⟨fun z => absurd z hfl, fun _ => b1 ?_⟩
      have e3 : M3 58 = M 58 := (k3.1 58 (by omega)).trans e2
      refine lo3 (fun m i (s : Mem) (a b : Int32) => lp_X6_takeIn_26 (fun r2 M3 => (tkF D c).1 = r2 ∧ Rel M3) m s a b (nI i)) (fun i s a b => Kq M2 s ∧ a = (tkF D i).1 ∧ (0 ≤ a → b = (tkF D i).2)) c 0 M3 (-4) 0 (by omega) ⟨k3, rfl, fun z => absurd z (by decide)⟩ (fun m s a b hs => ?_) (fun m i s a b hi hs kk => ?_)
      · obtain ⟨s1, rfl, s3⟩ := hs
        unfold lp_X6_takeIn_26 b_X6_takeIn_26
        rw [s1.1 58 (by omega), e2, hS.2.1]
        exact bp (Int32.le_refl _) ⟨rfl, (hR.frC F).frM s1.frM⟩
      · obtain ⟨s1, ea, s3⟩ := hs
        have es : s 58 = M 58 := (s1.1 58 (by omega)).trans e2
        obtain ⟨kd, fg, fa, hu, b1', b2', b3', b4', b5', q1, q2, q3, q4⟩ := hS.2.2.2 i hi
        unfold lp_X6_takeIn_26 b_X6_takeIn_26
        rw [es, hS.2.1]
        refine bn (nI_ge hi (by omega)) (m_get i 2 rfl rfl (by omega) (by omega) ?_)
        rw [es, q3]
        have hDi := hDp i fa q3 b4'
        -- behind the inner loop
        have exit : ∀ (t : Mem) (u : Int32), (∀ j, j ≠ 57 → j ≠ 58 → t j = s j) → (∀ j, j < 18 → t 57 j = s 57 j) → (∀ k, k ≠ 12 + 6 * i + 2 → t 58 k = M 58 k) → (D i = -4 → u = 0) → (¬ D i = -4 → u = D i) → j_X6_takeIn_90 (lp_X6_takeIn_26 (fun r2 M3 => (tkF D c).1 = r2 ∧ Rel M3) m) (fun r2 M3 => (tkF D c).1 = r2 ∧ Rel M3) t a b (nI i) (nI fa) u := fun t u t1 t2 t3 hu0 hu1 => by
          refine m_puts i 2 rfl rfl (by omega) (by omega) ?_
          generalize hM4 : mup t 58 (12 + 6 * i + 2) (nI fa) = M4
          have k4 : Kq M2 M4 := ⟨fun j hj => by
              by_cases wj : j = 58
              · subst wj
                rw [e2]
                funext k
                rw [← hM4, mup_eq]
                by_cases wk : k = 12 + 6 * i + 2
                · rw [if_pos ⟨rfl, wk⟩, wk, q3]
                · rw [if_neg (fun q => wk q.2), t3 k wk]
              · rw [← hM4, mup_ne _ _ _ wj, t1 j hj wj, s1.1 j hj], fun j hj => by rw [← hM4, mup_ne _ _ _ (by omega), t2 j hj, s1.2 j hj]⟩
          unfold j_X6_takeIn_127 j_X6_takeIn_116 j_X6_takeIn_127
          rw [nI_1]
          rcases hDr i hi with hd | ⟨j, hj1, hj2, hj⟩
          · rw [hu0 hd]
            exact b0 (kk M4 _ _ ⟨k4, by rw [tk_s, if_pos hd]; exact ea, fun z => by rw [tk_s, if_pos hd]; exact s3 z⟩)
          · have hne : ¬ D i = -4 := by rw [hj]; exact n4 _ (by omega)
            rw [hu1 hne]
            have hz : ¬ D i = 0 := by rw [hj]; exact nI_ne0 hj1 (by omega)
            refine bn hz ?_
            rcases tkI i (by omega) with ⟨g1, g2⟩ | ⟨g1, g2⟩
            · have hlt : ¬ (tkF D i).2 ≤ D i := by rw [g2, hj]; exact nI_ge (a := j) (b := 100) (by omega) (by omega)
              refine bp (by rw [ea, g1]; decide) (kk M4 _ _ ⟨k4, by rw [tk_s, if_neg hne, if_neg hlt], fun _ => by rw [tk_s, if_neg hne, if_neg hlt]⟩)
            · have ga : 0 ≤ a := by rw [ea]; exact g1
              have eb := s3 ga
              refine bn (nlt_le.mpr ga) ⟨fun z => kk M4 _ _ ?_, fun z => kk M4 _ _ ?_⟩
              · rw [eb] at z
                have hlt := nle_lt.mpr z
                exact ⟨k4, by rw [tk_s, if_neg hne, if_neg hlt], fun _ => by rw [tk_s, if_neg hne, if_neg hlt]⟩
              · rw [eb] at z
                have hlt := nlt_le.mp z
                exact ⟨k4, by rw [tk_s, if_neg hne, if_pos hlt]; exact ea, fun z => by rw [tk_s, if_neg hne, if_pos hlt]; exact s3 z⟩
        refine lo2 (fun m2 j (t : Mem) (u : Int32) => lp_X6_takeIn_50 (lp_X6_takeIn_26 (fun r2 M3 => (tkF D c).1 = r2 ∧ Rel M3) m) (fun r2 M3 => (tkF D c).1 = r2 ∧ Rel M3) m2 t a b (nI i) (nI fa) u (nI j)) (fun j t u => 1 ≤ j ∧ ((∀ q, q ≠ 57 → q ≠ 58 → t q = s q) ∧ (∀ q, q < 18 → t 57 q = s 57 q) ∧ (∀ k, k ≠ 12 + 6 * i + 2 → t 58 k = M 58 k)) ∧ ((u = 0 ∧ D i = fs1 (fun t => decide (hgF (sH (M 58) al c - nI t * hfB (M 58 (12 + 6 * i + 0)) (M 58 (12 + 6 * i + 1))) (M 58 7) ≤ M 58 8)) (fa + 1 - j) j) ∨ (¬ u = 0 ∧ ¬ D i = -4 ∧ D i = u))) (fa + 1) 1 s 0 (by omega) ⟨by omega, ⟨fun _ _ _ => rfl, fun _ _ => rfl, fun k _ => by rw [es]⟩, Or.inl ⟨rfl, hDi⟩⟩ (fun m2 t u ht => ?_) (fun m2 j t u hj ht kk2 => ?_)
        · obtain ⟨-, ⟨t1, t2, t3⟩, t5⟩ := ht
          refine bp (nI_lt (by omega) (by omega)) (exit t u t1 t2 t3 (fun z => ?_) (fun z => ?_))
          · rcases t5 with ⟨h, _⟩ | ⟨_, h, _⟩
            · exact h
            · exact absurd z h
          · rcases t5 with ⟨_, h⟩ | ⟨_, _, h⟩
            · rw [fs1_z] at h; exact absurd h z
            · exact h.symm
        · obtain ⟨hj1, ⟨t1, t2, t3⟩, t5⟩ := ht
          refine bn (nI_nlt (by omega) (by omega)) ?_
          rcases t5 with ⟨rfl, ev⟩ | ⟨h1, h2, h3⟩
          · refine bp rfl (m_puts i 2 rfl rfl (by omega) (by omega) ?_)
            generalize hM4 : mup t 58 (12 + 6 * i + 2) (nI fa - nI j) = M4
            have x4 : ∀ k, k ≠ 12 + 6 * i + 2 → M4 58 k = M 58 k := fun k hk => by rw [← hM4, mup_eq, if_neg (fun q => hk q.2), t3 k hk]
            have y4 : M4 58 (12 + 6 * i + 2) = M 58 (12 + 6 * i + 2) + (-(nI j)) := by rw [← hM4, mup_eq, if_pos ⟨rfl, rfl⟩, q3]; grind
            obtain ⟨-, sh, -⟩ := sum_more (S := M 58) (S1 := M4 58) hi x4 y4
            have esh : sH (M4 58) al c = sH (M 58) al c - nI j * hfB (M 58 (12 + 6 * i + 0)) (M 58 (12 + 6 * i + 1)) := by rw [sh]; grind
            refine foul M4 (by rw [x4 0 (by omega)]; exact hS.2.1) (by unfold MO; rw [x4 6 (by omega), x4 7 (by omega)]; exact hS.mo) _ (fun M5 k5 => ?_)
            rw [esh, x4 7 (by omega), x4 8 (by omega)]
            rw [fs1_s _ (by omega)] at ev
            have base : (∀ q, q ≠ 57 → q ≠ 58 → M5 q = s q) ∧ (∀ q, q < 18 → M5 57 q = s 57 q) ∧ (∀ k, k ≠ 12 + 6 * i + 2 → M5 58 k = M 58 k) := ⟨fun q h1 h2 => by rw [k5.1 q h1, ← hM4, mup_ne _ _ _ h2, t1 q h1 h2], fun q hq => by rw [k5.2 q hq, ← hM4, mup_ne _ _ _ (by omega), t2 q hq], fun k hk => by rw [k5.1 58 (by omega), x4 k hk]⟩
            unfold j_X6_takeIn_84
            rw [nI_1]
            refine ⟨fun z => b0 (kk2 M5 _ ⟨by omega, base, ?_⟩), fun z => b1 (kk2 M5 _ ⟨by omega, base, ?_⟩)⟩
            · rw [if_pos (decide_eq_true z)] at ev
              exact Or.inr ⟨nI_ne0 (by omega) (by omega), by rw [ev]; exact n4 _ (by omega), ev⟩
            · rw [if_neg (by rw [decide_eq_false z]; decide)] at ev
              exact Or.inl ⟨rfl, ev⟩
          · exact bn h1 (exit t u t1 t2 t3 (fun z => absurd z h2) (fun _ => h3.symm))
    refine l_hang n1 ho.2.2 ?_
    rw [e11]
    refine ⟨fun z => ?_, fun z => ?_⟩
    · have hfl := nle_lt.mpr z
      refine lo3 (fun m i (s : Mem) (a b : Int32) => lp_X5_takeIn_42 (fun r M1 => q_X6_takeIn M1 (fun r2 M2 => r = r2 ∧ Rel M2)) m s (M 58 8) a b (nI i)) (fun i s a b => (∀ j, j ≠ 4 → s j = M j) ∧ LN s (sF (M 58) al c) (sH (M 58) al c) (sG (M 58) al c) (M 58 5) (M 58 6) (M 58 7) ∧ a = (tkF D i).1 ∧ b = (tkF D i).2) c 0 M1 (-4) 100 (by omega) ⟨f1, n1, rfl, rfl⟩ (fun m s a b hs => ?_) (fun m i s a b hi hs kk => ?_)
      · obtain ⟨s1, s2, rfl, rfl⟩ := hs
        unfold lp_X5_takeIn_42 b_X5_takeIn_42
        rw [s1 1 (by omega), hT.1.1]
        exact bp (Int32.le_refl _) (mm s (FrC.of4 s1) hfl)
      · obtain ⟨s1, s2, rfl, rfl⟩ := hs
        obtain ⟨kd, fg, fa, hu, b1', b2', b3', b4', b5', q1, q2, q3, q4⟩ := hS.2.2.2 i hi
        have hP := hT.2.2.1 i hi
        rw [show 32 + 6 * 1 + i = 38 + i by omega] at hP
        have hDi := hDp i fa q3 b4'
        unfold lp_X5_takeIn_42 b_X5_takeIn_42
        rw [s1 1 (by omega), hT.1.1]
        refine bn (nI_ge hi (by omega)) ⟨nI_in (by omega) (by omega), ?_⟩
        rw [cl (by omega)]
        unfold q_X5_fewestTakenIn
        rw [s2.2.1]
        have exit : ∀ (t : Mem) (u : Int32), (∀ j, j ≠ 4 → t j = M j) → (∃ h0, LN t (sF (M 58) al c) h0 (sG (M 58) al c) (M 58 5) (M 58 6) (M 58 7)) → D i = u → j_X5_fewestTakenIn_68 (fun r3 M4 => (r3 = -4 → j_X5_takeIn_96 (lp_X5_takeIn_42 (fun r M1 => q_X6_takeIn M1 (fun r2 M2 => r = r2 ∧ Rel M2)) m) (fun r M1 => q_X6_takeIn M1 (fun r2 M2 => r = r2 ∧ Rel M2)) M4 (M 58 8) (tkF D i).1 (tkF D i).2 (nI i)) ∧ (¬ r3 = -4 → ((tkF D i).2 ≤ r3 → j_X5_takeIn_96 (lp_X5_takeIn_42 (fun r M1 => q_X6_takeIn M1 (fun r2 M2 => r = r2 ∧ Rel M2)) m) (fun r M1 => q_X6_takeIn M1 (fun r2 M2 => r = r2 ∧ Rel M2)) M4 (M 58 8) (tkF D i).1 (tkF D i).2 (nI i)) ∧ (¬ (tkF D i).2 ≤ r3 → j_X5_takeIn_96 (lp_X5_takeIn_42 (fun r M1 => q_X6_takeIn M1 (fun r2 M2 => r = r2 ∧ Rel M2)) m) (fun r M1 => q_X6_takeIn M1 (fun r2 M2 => r = r2 ∧ Rel M2)) M4 (M 58 8) (100 * nI i + r3) r3 (nI i)))) t (sH (M 58) al c) u := fun t u t1 ⟨h0, t2⟩ eu => by
          intro M5 e5
          subst eu
          have f5 : ∀ j, j ≠ 4 → M5 j = M j := fun j hj => by rw [e5, mup_ne _ _ _ hj, t1 j hj]
          have n5 : LN M5 (sF (M 58) al c) (sH (M 58) al c) (sG (M 58) al c) (M 58 5) (M 58 6) (M 58 7) := by
            subst e5
            obtain ⟨a0, a1, a2, a3, a4, a5⟩ := t2
            simp [LN, mup_eq, a0, a2, a3, a4, a5]
          unfold j_X5_takeIn_96
          rw [nI_1]
          refine ⟨fun w => kk M5 _ _ ⟨f5, n5, ?_, ?_⟩, fun w => ⟨fun w2 => kk M5 _ _ ⟨f5, n5, ?_, ?_⟩, fun w2 => kk M5 _ _ ⟨f5, n5, ?_, ?_⟩⟩⟩
          · rw [tk_s, if_pos w]
          · rw [tk_s, if_pos w]
          · rw [tk_s, if_neg w, if_pos w2]
          · rw [tk_s, if_neg w, if_pos w2]
          · rw [tk_s, if_neg w, if_neg w2]
          · rw [tk_s, if_neg w, if_neg w2]
        refine lo2 (fun m2 j (t : Mem) (u : Int32) => lp_X5_fewestTakenIn_15 _ m2 t (38 + i) (M 58 8) (sH (M 58) al c) u (nI j)) (fun j t u => 1 ≤ j ∧ (∀ q, q ≠ 4 → t q = M q) ∧ (∃ h0, LN t (sF (M 58) al c) h0 (sG (M 58) al c) (M 58 5) (M 58 6) (M 58 7)) ∧ ((u = -4 ∧ D i = fs1 (fun t => decide (hgF (sH (M 58) al c - nI t * hfB (M 58 (12 + 6 * i + 0)) (M 58 (12 + 6 * i + 1))) (M 58 7) ≤ M 58 8)) (fa + 1 - j) j) ∨ (¬ u = -4 ∧ D i = u))) (fa + 1) 1 s (-4) (by omega) ⟨by omega, s1, ⟨_, s2⟩, Or.inl ⟨rfl, hDi⟩⟩ (fun m2 t u ht => ?_) (fun m2 j t u hj ht kk2 => ?_)
        · obtain ⟨-, t1, t2, t5⟩ := ht
          unfold lp_X5_fewestTakenIn_15 b_X5_fewestTakenIn_15
          rw [t1 (38 + i) (by omega), hP.2.2.1, q3]
          refine bp (nI_lt (by omega) (by omega)) (exit t u t1 t2 ?_)
          rcases t5 with ⟨rfl, h⟩ | ⟨_, h⟩
          · rw [h, fs1_z]
          · exact h
        · obtain ⟨hj1, t1, ⟨h0, t2⟩, t5⟩ := ht
          unfold lp_X5_fewestTakenIn_15 b_X5_fewestTakenIn_15
          rw [t1 (38 + i) (by omega), hP.2.2.1, q3]
          refine bn (nI_nlt (by omega) (by omega)) ?_
          rcases t5 with ⟨rfl, ev⟩ | ⟨h1, h2⟩
          · refine bp rfl (fun M4 e4 => ?_)
            rw [hP.2.2.2.2.2.1] at e4
            have n5 : LN M4 (sF (M 58) al c) (sH (M 58) al c - nI j * hfB (M 58 (12 + 6 * i + 0)) (M 58 (12 + 6 * i + 1))) (sG (M 58) al c) (M 58 5) (M 58 6) (M 58 7) := by
              subst e4
              obtain ⟨a0, a1, a2, a3, a4, a5⟩ := t2
              simp [LN, mup_eq, a0, a2, a3, a4, a5]
            have f4 : ∀ q, q ≠ 4 → M4 q = M q := fun q hq => by rw [e4, mup_ne _ _ _ hq, t1 q hq]
            refine l_hang n5 ho.2.2 ?_
            rw [fs1_s _ (by omega)] at ev
            unfold j_X5_fewestTakenIn_62
            rw [nI_1]
            refine ⟨fun w => kk2 M4 _ ⟨by omega, f4, ⟨_, n5⟩, ?_⟩, fun w => kk2 M4 _ ⟨by omega, f4, ⟨_, n5⟩, ?_⟩⟩
            · rw [if_neg (by rw [decide_eq_false (nle_lt.mpr w)]; decide)] at ev
              exact Or.inl ⟨rfl, ev⟩
            · rw [if_pos (decide_eq_true (nlt_le.mp w))] at ev
              exact Or.inr ⟨n4 _ (by omega), ev⟩
          · exact bn h1 (exit t u t1 ⟨h0, t2⟩ h2)
    · have hle := nlt_le.mp z
      have hI1 := hI.frC f
      refine m_isLine hI1.1.2.1 hI1.1.1 hI1.2 (fun q => absurd (by rw [f.e58]; exact hn) q) (fun _ => b1 (foul M1 hI1.1.2.1 hI1.1.mo _ (fun M3 k3 => ?_)))
      rw [f.e58]
      exact ⟨fun _ => b0 ⟨rfl, (hR.frC f).frM k3.frM⟩, fun q => absurd hle q⟩
