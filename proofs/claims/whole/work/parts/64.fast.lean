/-! PURE: fastest, odds -/
theorem TW.frC {M M1 : Mem} {S : Nat → Int32} {c : Nat} (h : TW M 1 S c) (hc : c ≤ 6) (f : FrC M M1) : TW M1 1 S c := h.mem (f _ (by omega) (by omega) (by omega) (by omega) (by omega) (by omega)) (f _ (by omega) (by omega) (by omega) (by omega) (by omega) (by omega)) (fun p hp => f _ (by omega) (by omega) (by omega) (by omega) (by omega) (by omega))
def bs (P : Nat → Bool) : Nat → Int32
  | 0 => -4
  | n + 1 => if P n then nI n else bs P n
theorem bs_s (P : Nat → Bool) (n : Nat) : bs P (n + 1) = if P n then nI n else bs P n := rfl
theorem sB_far {S S1 : Nat → Int32} {b : Nat → Bool} {c : Nat} (e : ∀ k, 12 ≤ k → S1 k = S k) : sF S1 b c = sF S b c ∧ sH S1 b c = sH S b c ∧ sG S1 b c = sG S b c := by
  refine ⟨sB_cong (fun p _ => ⟨rfl, e _ (by omega)⟩), sB_cong (fun p _ => ⟨rfl, ?_⟩), sB_cong (fun p _ => ⟨rfl, ?_⟩)⟩
  · show S1 _ * hfB (S1 _) (S1 _) = _
    rw [e _ (by omega), e _ (by omega), e _ (by omega)]
  · show S1 _ * gvB (S1 _) (S1 _) = _
    rw [e _ (by omega), e _ (by omega), e _ (by omega)]
theorem e_fastest : lh_9 Rel := by
  intro M x hR
  obtain ⟨c, hS, hT⟩ := hR.of
  have hI := Rel.mi hS hT
  have hc := hS.1
  refine x_in 0 400 rfl rfl (by omega) (by omega) (fun hno => b0 ?_) (fun n h1 h2 e => b1 (x_lnq hT hS.1 (fun hn => ?_) (fun hn M1 f1 n1 => ?_)))
  · exact m_no 0 400 rfl rfl (by omega) (by omega) hno (b0 ⟨rfl, hR⟩)
  · exact m_yes 0 400 n e rfl rfl ⟨h1, h2⟩ (by omega) (b1 (m_isLine hI.1.2.1 hI.1.1 hI.2 (fun _ => b0 ⟨rfl, hR⟩) (fun z => absurd z hn)))
  · have f := FrC.of4 f1
    generalize hP : (fun k => decide ((pw c (sF (M 58) al c) (sH (M 58) al c) (gvR (sG (M 58) al c)) (M 58 5) (M 58 6) (nI k) (n - 0) 0 (M 58)).1 = -4)) = P
    have hPk : ∀ k, P k = decide ((pw c (sF (M 58) al c) (sH (M 58) al c) (gvR (sG (M 58) al c)) (M 58 5) (M 58 6) (nI k) (n - 0) 0 (M 58)).1 = -4) := fun k => by rw [← hP]
    have mm : ∀ M2, FrC M M2 → q_X6_fastest M2 x (fun r2 M3 => bs P 10 = r2 ∧ Rel M3) := fun M2 F => by
      have hI2 := hI.frC F
      have e2 := F.e58
      refine m_yes 0 400 n e rfl rfl ⟨h1, h2⟩ (by omega) (b1 (m_isLine hI2.1.2.1 hI2.1.1 hI2.2 (fun z => absurd (by rw [e2]; exact hn) z) (fun _ => b1 ?_)))
      rw [e2]
      refine lo2 (fun m i (s : Mem) (a : Int32) => lp_X6_fastest_38 (fun r2 M3 => bs P 10 = r2 ∧ Rel M3) m s x (M 58 7) a (nI i)) (fun i s a => (∀ j, j ≠ 57 → j ≠ 58 → j ≠ 61 → s j = M2 j) ∧ s 57 10 = M2 57 10 ∧ (∀ k, k ≠ 7 → s 58 k = M 58 k) ∧ a = bs P i) 10 0 M2 (-4) (by omega) ⟨fun _ _ _ _ => rfl, rfl, fun k _ => by rw [e2], rfl⟩ (fun m s a hs => ?_) (fun m i s a hi hs kk => ?_)
      · obtain ⟨s1, s2, s3, rfl⟩ := hs
        refine bp (show (10 : Int32) ≤ nI 10 by decide) (fun M3 e3 => ⟨rfl, (hR.frC F).frM ⟨fun i a b _ d _ => by rw [e3, mup_ne _ _ _ b, s1 i a b d], by rw [e3, mup_ne _ _ _ (by omega), s2], fun k hk => ?_⟩⟩)
        rw [e3, mup_eq, e2]
        by_cases w : k = 7
        · rw [if_pos ⟨rfl, w⟩, w]
        · rw [if_neg (fun q => w q.2), s3 k w]
      · obtain ⟨s1, s2, s3, rfl⟩ := hs
        refine bn (show ¬ (10 : Int32) ≤ nI i from nI_ge (b := 10) hi (by omega)) (fun M3 e3 => ?_)
        have t7 : M3 58 7 = nI i := by rw [e3, mup_eq, if_pos ⟨rfl, rfl⟩]
        have to : ∀ k, k ≠ 7 → M3 58 k = M 58 k := fun k hk => by rw [e3, mup_eq, if_neg (fun q => hk q.2), s3 k hk]
        obtain ⟨q1, q2, q3⟩ := sB_far (b := al) (c := c) (fun k hk => to k (by omega))
        have hmo : MO (M3 58) := by unfold MO; rw [to 6 (by omega), t7]; exact ⟨hS.mo.1, i, by omega, rfl⟩
        refine m_parts e h2 (by rw [to 0 (by omega)]; exact hS.2.1) hS.1 hmo (by rw [q3]; exact hS.gn al) (fun M4 f4 _ => ?_)
        rw [q1, q2, q3, to 5 (by omega), to 6 (by omega), t7, pw_cong (S := M 58) (fun k hk => to k (by omega))]
        have i4 : ∀ j, j ≠ 57 → j ≠ 58 → j ≠ 61 → M4 j = M2 j := fun j a b d => by rw [f4.1 j a d, e3, mup_ne _ _ _ b, s1 j a b d]
        have j4 : M4 57 10 = M2 57 10 := by rw [f4.2 10 (by omega), e3, mup_ne _ _ _ (by omega), s2]
        have k4 : ∀ k, k ≠ 7 → M4 58 k = M 58 k := fun k hk => by rw [f4.1 58 (by omega) (by omega), to k hk]
        unfold j_X6_fastest_65
        rw [nI_1]
        rcases pw_neg (c := c) (f := sF (M 58) al c) (h := sH (M 58) al c) (g := gvR (sG (M 58) al c)) (y := M 58 5) (l := M 58 6) (v := nI i) hc (k := n - 0) (i := 0) (S := M 58) (by omega) with a | ⟨a, b⟩
        · rw [a]
          exact bn (by decide) (kk M4 _ ⟨i4, j4, k4, by rw [bs_s, if_pos (by rw [hPk, a]; rfl)]⟩)
        · exact bp a (kk M4 _ ⟨i4, j4, k4, by rw [bs_s, if_neg (by rw [hPk, decide_eq_false b]; decide)]⟩)
    have down : ∀ k, k ≤ 10 → ∀ s, FrC M s → (∃ v0, LN s (sF (M 58) al c) (sH (M 58) al c) (sG (M 58) al c) (M 58 5) (M 58 6) v0) → bs P 10 = bs P k → lp_X5_fastest_29 (fun r M1 => q_X6_fastest M1 x (fun r2 M2 => r = r2 ∧ Rel M2)) (k + 1) s x (nI k - 1) := by
      intro k
      induction k with
      | zero =>
        intro _ s F _ ev
        have h := mm s F
        rw [ev] at h
        exact bp (show nI 0 - 1 < (0 : Int32) by decide) h
      | succ k ih =>
        intro hk s F ⟨v0, n0⟩ ev
        rw [nI_pred]
        refine bn (nI_pos (by omega)) (fun M2 e2 => ?_)
        have n2 : LN M2 (sF (M 58) al c) (sH (M 58) al c) (sG (M 58) al c) (M 58 5) (M 58 6) (nI k) := by
          subst e2
          obtain ⟨a0, a1, a2, a3, a4, a5⟩ := n0
          simp [LN, mup_eq, a0, a1, a2, a3, a4]
        have F2 : FrC M M2 := F.tr (fun i _ a _ _ _ _ => by rw [e2, mup_ne _ _ _ a])
        have ho := hS.lo al
        refine x_parts e h2 n2 ⟨ho.1, ho.2.1, k, by omega, rfl⟩ (hT.frC hc F2) hS.1 hn (fun M3 f3 g3 _ => ?_)
        rw [bs_s P k] at ev
        rcases pw_neg (c := c) (f := sF (M 58) al c) (h := sH (M 58) al c) (g := gvR (sG (M 58) al c)) (y := M 58 5) (l := M 58 6) (v := nI k) hc (k := n - 0) (i := 0) (S := M 58) (by omega) with a | ⟨a, b⟩
        · rw [if_pos (by rw [hPk, a]; rfl)] at ev
          have h := mm M3 (F2.tr f3)
          rw [ev] at h
          exact bp a h
        · rw [if_neg (by rw [hPk, decide_eq_false b]; decide)] at ev
          have em : nI k + -1 = nI k - 1 := by grind
          rw [em]
          exact bn b (ih (by omega) M3 (F2.tr f3) ⟨nI k, by unfold LN; rw [g3]; exact n2⟩ ev)
    exact ⟨11, down 10 (by omega) M1 f ⟨_, n1⟩ rfl⟩
def clF (x : Int32) : Int32 := if 0 ≤ x then (if x ≤ 60 then x else 60) else 0
theorem cl_eq (x : Int32) : (if (0 : Int32) < (if x < 60 then x else 60) then (if x < 60 then x else 60) else 0) = clF x := by
  unfold clF
  grind
def drF (z : Int32) : Int32 := (z &&& 2147483647) / 65536 - (z &&& 2147483647) / 65536 / 21 * 21
def sdF (z : Int32) : Int32 := z * 1103515245 + 12345
def od (c : Nat) (f h g y0 l v : Int32) : Nat → Int32 → (Nat → Int32) → Int32
  | 0, _, _ => 1
  | k + 1, z, S => if ptF S (plF f h g (clF ((y0 + drF (sdF z)) - 10)) l v (S 1)) c = -4 then od c f h g y0 l v k (sdF z) (tenS S c (plF f h g (clF ((y0 + drF (sdF z)) - 10)) l v (S 1)) (ovF f h (clF ((y0 + drF (sdF z)) - 10)) l v (S 1))) else 0
theorem od_s (c : Nat) (f h g y0 l v : Int32) {n i : Nat} (z : Int32) (S : Nat → Int32) (hi : i < n) : od c f h g y0 l v (n - i) z S = if ptF S (plF f h g (clF ((y0 + drF (sdF z)) - 10)) l v (S 1)) c = -4 then od c f h g y0 l v (n - (i + 1)) (sdF z) (tenS S c (plF f h g (clF ((y0 + drF (sdF z)) - 10)) l v (S 1)) (ovF f h (clF ((y0 + drF (sdF z)) - 10)) l v (S 1))) else 0 := by
  rw [show n - i = (n - (i + 1)) + 1 by omega]
  rfl
theorem od_z (c : Nat) (f h g y0 l v : Int32) {n : Nat} (z : Int32) (S : Nat → Int32) : od c f h g y0 l v (n - n) z S = 1 := by
  rw [Nat.sub_self]
  rfl
theorem x_draws {M : Mem} {S : Nat → Int32} {c : Nat} {f h g y l v z0 : Int32} {post : Int32 → Mem → Prop} (nl : LN M f h g y l v) (lo : LO g l v) (hT : TW M 1 S c) (hc : c ≤ 6) (hL : LnS S c) (k : ∀ M1, FrC M M1 → (∃ y1, LN M1 f h g y1 l v) → post (od c f h (gvR g) (S 5) l v (100 - 0) z0 S) M1) : q_X5_holdsByDraws M z0 post := by
  refine x_become (a := 3) (b := 1) (by omega) (by omega) (by omega) hT hc (fun M6 f6 t6 => ?_)
  have F6 := FrC.tow3 f6
  have e11 : ∀ s, FrC M s → s 11 0 = S 5 := fun s F => by rw [F 11 (by omega) (by omega) (by omega) (by omega) (by omega) (by omega)]; exact hT.2.1 0 (by omega)
  refine lo2 (fun m i (s : Mem) (a : Int32) => lp_X5_holdsByDraws_15 post m s a (nI i)) (fun i s a => FrC M s ∧ (∃ y1, LN s f h g y1 l v) ∧ ∃ Si, TP s 3 Si c ∧ LnS Si c ∧ od c f h (gvR g) (S 5) l v (100 - 0) z0 S = od c f h (gvR g) (S 5) l v (100 - i) a Si) 100 0 M6 z0 (by omega) ⟨F6, ⟨y, by unfold LN; rw [f6 4 (by omega) (by omega) (by omega)]; exact nl⟩, S, t6.tp, hL, rfl⟩ (fun m s a hs => ?_) (fun m i s a hi hs kk => ?_)
  · obtain ⟨s1, s2, Si, s3, s4, ev⟩ := hs
    rw [od_z] at ev
    rw [ev] at k
    exact bp (show (100 : Int32) ≤ nI 100 by decide) (k s s1 s2)
  · obtain ⟨s1, ⟨y1, s2⟩, Si, s3, s4, ev⟩ := hs
    refine bn (show ¬ (100 : Int32) ≤ nI i from nI_ge (b := 100) hi (by omega)) (fun v2 e2 v3 e3 => ?_)
    have e2 : v2 = sdF a := e2
    subst e2
    have e3 : v3 = drF (sdF a) := e3
    subst e3
    rw [e11 s s1, show leastT 0 = 0 by decide, show mostT 0 = 60 by decide]
    unfold q_X5_heldWithin
    rw [cl_eq]
    intro M7 e7
    have n7 : LN M7 f h g (clF ((S 5 + drF (sdF a)) - 10)) l v := by
      subst e7
      obtain ⟨a0, a1, a2, a3, a4, a5⟩ := s2
      simp [LN, mup_eq, a0, a1, a2, a4, a5]
    have T7 : TP M7 3 Si c := by
      obtain ⟨g1, g2, g3, g4, g5⟩ := s3
      have q3 : M7 3 = s 3 := by rw [e7, mup_ne _ _ _ (by omega)]
      refine ⟨by rw [q3]; exact g1, by rw [q3]; exact g2, by rw [q3]; exact g3, fun p hp => ?_, by rw [q3]; exact g5⟩
      unfold PCs
      rw [show M7 (32 + 6 * 3 + p) = s (32 + 6 * 3 + p) by rw [e7, mup_ne _ _ _ (by omega)]]
      exact g4 p hp
    refine x_tenth n7 lo T7 s4 hc (Or.inr rfl) (fun M1 q1 _ q3 q4 => ?_)
    rw [od_s _ _ _ _ _ _ _ _ _ hi] at ev
    have fr : FrC M M1 := s1.tr (fun i a b _ _ _ d => by rw [q1 i a (by omega), e7, mup_ne _ _ _ b])
    have nn : LN M1 f h g (clF ((S 5 + drF (sdF a)) - 10)) l v := by unfold LN; rw [q1 4 (by omega) (by omega)]; exact n7
    rw [q4]
    rcases ptF_c (S := Si) (v := plF f h (gvR g) (clF ((S 5 + drF (sdF a)) - 10)) l v (Si 1)) hc with ⟨a1, b1⟩ | ⟨a1, b1, d1, _⟩
    · rw [if_pos a1] at ev
      rw [a1, nI_1]
      exact bp rfl (kk M1 _ ⟨fr, ⟨_, nn⟩, _, q3, s4.ten b1, ev⟩)
    · rw [if_neg d1] at ev
      rw [ev] at k
      exact bn d1 (k M1 fr ⟨_, nn⟩)
def ocF (D : Nat → Int32) : Nat → Int32
  | 0 => 0
  | n + 1 => if D n = 0 then ocF D n else ocF D n + 1
theorem oc_s (D : Nat → Int32) (n : Nat) : ocF D (n + 1) = if D n = 0 then ocF D n else ocF D n + 1 := rfl
theorem e_odds : lh_16 Rel := by
  intro M x z hR
  obtain ⟨c, hS, hT⟩ := hR.of
  have hI := Rel.mi hS hT
  have hc := hS.1
  refine x_in 1 20 rfl rfl (by omega) (by omega) (fun hno => b0 ?_) (fun n h1 h2 e => b1 (x_lnq hT hS.1 (fun hn => ?_) (fun hn M1 f1 n1 => ?_)))
  · exact m_no 1 20 rfl rfl (by omega) (by omega) hno (b0 ⟨rfl, hR⟩)
  · exact m_yes 1 20 n e rfl rfl ⟨h1, h2⟩ (by omega) (b1 (m_isLine hI.1.2.1 hI.1.1 hI.2 (fun _ => b0 ⟨rfl, hR⟩) (fun z => absurd z hn)))
  · have f := FrC.of4 f1
    subst e
    generalize hf : sF (M 58) al c = F at *
    generalize hh : sH (M 58) al c = H at *
    have hgn := hS.gn al
    generalize hD : (fun i => od c F H (gvR (sG (M 58) al c)) (M 58 5) (M 58 6) (M 58 7) (100 - 0) (z + nI i) (M 58)) = D
    have hDk : ∀ i, D i = od c F H (gvR (sG (M 58) al c)) (M 58 5) (M 58 6) (M 58 7) (100 - 0) (z + nI i) (M 58) := fun i => by rw [← hD]
    have mm : ∀ M2, FrC M M2 → q_X6_odds M2 (nI n) z (fun r2 M3 => ocF D n = r2 ∧ Rel M3) := fun M2 Fr => by
      have hI2 := hI.frC Fr
      have e2 := Fr.e58
      refine m_yes 1 20 n rfl rfl rfl ⟨h1, h2⟩ (by omega) (b1 (m_isLine hI2.1.2.1 hI2.1.1 hI2.2 (fun z => absurd (by rw [e2]; exact hn) z) (fun _ => b1 ?_)))
      refine lo2 (fun m i (s : Mem) (a : Int32) => lp_X6_odds_29 (fun r2 M3 => ocF D n = r2 ∧ Rel M3) m s (nI n) z a (nI i)) (fun i s a => FrP M2 s ∧ a = ocF D i) n 0 M2 0 (by omega) ⟨FrP.rf, rfl⟩ (fun m s a hs => ?_) (fun m i s a hi hs kk => ?_)
      · obtain ⟨s1, rfl⟩ := hs
        exact bp (Int32.le_refl _) ⟨rfl, (hR.frC Fr).frM s1.frM⟩
      · obtain ⟨s1, rfl⟩ := hs
        have es : s 58 = M 58 := (s1.1 58 (by omega) (by omega)).trans e2
        refine bn (nI_ge hi (by omega)) (m_copies (by omega) (fun M9 f9 g9 _ => ?_))
        have e9 : M9 58 = M 58 := (f9 58 (by omega)).trans es
        refine m_sumsAll (by rw [e9]; exact hS.2.1) hS.1 (fun M3 k3 n3 => ?_)
        rw [e9, hf, hh] at n3
        have e3 : M3 58 = M 58 := (k3.1 58 (by omega)).trans e9
        have c61 : ∀ j, j < 54 → M3 61 j = M 58 j := fun j hj => by rw [k3.1 61 (by omega), g9 j hj, es]
        have exit : ∀ (t : Mem) (b : Int32), (∀ j, j ≠ 57 → j ≠ 58 → t j = M3 j) → (∀ j, j < 18 → t 57 j = M3 57 j) → (∀ j, 54 ≤ j → t 58 j = M 58 j) → (b = 0 → D i = 1) → (¬ b = 0 → D i = 0) → j_X6_odds_161 (lp_X6_odds_29 (fun r2 M3 => ocF D n = r2 ∧ Rel M3) m) (fun r2 M3 => ocF D n = r2 ∧ Rel M3) t (nI n) z (ocF D i) (nI i) b := fun t b t1 t2 t3 h0 h1 => by
          refine m_copies (by omega) (fun M4 f4 g4 h4 => ?_)
          have fp : FrP M2 M4 := s1.tr ⟨fun j a b => ?_, fun j hj => by rw [f4 57 (by omega), t2 j hj, k3.2 j hj, f9 57 (by omega)]⟩
          · unfold j_X6_odds_183
            rw [nI_1]
            refine ⟨fun w => kk M4 _ ⟨fp, by rw [oc_s, h0 w, if_neg (by decide)]⟩, fun w => kk M4 _ ⟨fp, by rw [oc_s, h1 w, if_pos rfl, Int32.add_zero]⟩⟩
          · by_cases w : j = 58
            · subst w
              funext q
              by_cases hq : q < 54
              · rw [g4 q hq, t1 61 (by omega) (by omega), c61 q hq, es]
              · rw [h4 q (by omega), t3 q (by omega), es]
            · rw [f4 j w, t1 j a w, k3.1 j a, f9 j b]
        refine lo3 (fun m2 j (t : Mem) (a b : Int32) => lp_X6_odds_66 (lp_X6_odds_29 (fun r2 M3 => ocF D n = r2 ∧ Rel M3) m) (fun r2 M3 => ocF D n = r2 ∧ Rel M3) m2 t (nI n) z (ocF D i) (nI i) a b (nI j)) (fun j t a b => ((∀ q, q ≠ 57 → q ≠ 58 → t q = M3 q) ∧ (∀ q, q < 18 → t 57 q = M3 57 q) ∧ (∀ q, q ≠ 1 → q ≠ 2 → (q < 12 ∨ 12 + 6 * c ≤ q) → t 58 q = M 58 q) ∧ LM t F H (gvR (sG (M 58) al c))) ∧ ((b = 0 ∧ D i = od c F H (gvR (sG (M 58) al c)) (M 58 5) (M 58 6) (M 58 7) (100 - j) a (t 58)) ∨ (b = 1 ∧ D i = 0))) 100 0 M3 (z + nI i) 0 (by omega) ⟨⟨fun _ _ _ => rfl, fun _ _ => rfl, fun q _ _ _ => by rw [e3], n3⟩, Or.inl ⟨rfl, by rw [e3, hDk]⟩⟩ (fun m2 t a b ht => ?_) (fun m2 j t a b hj ht kk2 => ?_)
        · obtain ⟨⟨t1, t2, t3, t4⟩, t5⟩ := ht
          refine bp (show (100 : Int32) ≤ nI 100 by decide) (exit t b t1 t2 (fun q hq => t3 q (by omega) (by omega) (by omega)) (fun w => ?_) (fun w => ?_))
          · rcases t5 with ⟨_, ev⟩ | ⟨eb, _⟩
            · rw [ev, od_z]
            · rw [eb] at w; exact absurd w (by decide)
          · rcases t5 with ⟨eb, _⟩ | ⟨_, ev⟩
            · exact absurd eb w
            · exact ev
        · obtain ⟨⟨t1, t2, t3, t4⟩, t5⟩ := ht
          refine bn (show ¬ (100 : Int32) ≤ nI j from nI_ge (b := 100) hj (by omega)) ?_
          rcases t5 with ⟨rfl, ev⟩ | ⟨rfl, ev⟩
          · refine bp rfl (fun v9 e9 v10 e10 => ?_)
            have e9 : v9 = sdF a := e9
            subst e9
            have q5 : t 58 5 = M 58 5 := t3 5 (by omega) (by omega) (by omega)
            have q6 : t 58 6 = M 58 6 := t3 6 (by omega) (by omega) (by omega)
            have q7 : t 58 7 = M 58 7 := t3 7 (by omega) (by omega) (by omega)
            have q0 : t 58 0 = M 58 0 := t3 0 (by omega) (by omega) (by omega)
            rw [q5] at e10
            have e10 : v10 = (M 58 5 + drF (sdF a)) - 10 := e10
            subst e10
            rw [od_s _ _ _ _ _ _ _ _ _ hj] at ev
            have go : ∀ y, y = clF ((M 58 5 + drF (sdF a)) - 10) → j_X6_odds_136 (lp_X6_odds_29 (fun r2 M3 => ocF D n = r2 ∧ Rel M3) m) (lp_X6_odds_66 (lp_X6_odds_29 (fun r2 M3 => ocF D n = r2 ∧ Rel M3) m) (fun r2 M3 => ocF D n = r2 ∧ Rel M3) m2) (fun r2 M3 => ocF D n = r2 ∧ Rel M3) t y (nI n) z (ocF D i) (nI i) (sdF a) (nI j) := fun y ey => by
              refine m_tenth t4 (by unfold MO; rw [q6, q7]; exact hS.mo) hgn (by rw [q0]; exact hS.2.1) hS.1 (fun M6 f6 g6 h6 p6 => ?_)
              rw [q6, q7] at h6 p6
              rw [← ey] at ev
              have base : (∀ j, j ≠ 57 → j ≠ 58 → M6 j = M3 j) ∧ (∀ j, j < 18 → M6 57 j = M3 57 j) ∧ (∀ j, j ≠ 1 → j ≠ 2 → (j < 12 ∨ 12 + 6 * c ≤ j) → M6 58 j = M 58 j) ∧ LM M6 F H (gvR (sG (M 58) al c)) := ⟨fun j a b => (f6 j a b).trans (t1 j a b), fun j hj => by rw [g6 j (by omega) (by omega), t2 j hj], fun j a b d => by rw [h6, tenS_lo a b d, t3 j a b d], by rw [LM, g6 18 (by omega) (by omega), g6 19 (by omega) (by omega), g6 20 (by omega) (by omega)]; exact t4⟩
              unfold j_X6_odds_153
              rw [nI_1, p6]
              rcases ptF_c (S := t 58) (v := plF F H (gvR (sG (M 58) al c)) y (M 58 6) (M 58 7) (t 58 1)) hc with ⟨a1, b1⟩ | ⟨a1, b1, d1, d2, d3⟩
              · rw [if_pos a1] at ev
                rw [a1]
                exact bp (by decide) (kk2 M6 _ _ ⟨base, Or.inl ⟨rfl, by rw [ev, h6]⟩⟩)
              · rw [if_neg d1] at ev
                exact bn d3 (kk2 M6 _ _ ⟨base, Or.inr ⟨rfl, ev⟩⟩)
            unfold clF at go
            exact ⟨fun w => ⟨fun w2 => go _ (by rw [if_pos w, if_pos w2]), fun w2 => go _ (by rw [if_pos w, if_neg w2])⟩, fun w => go _ (by rw [if_neg w])⟩
          · exact bn (by decide) (exit t 1 t1 t2 (fun q hq => t3 q (by omega) (by omega) (by omega)) (fun w => absurd w (by decide)) (fun _ => ev))
    refine lo2 (fun m i (s : Mem) (a : Int32) => lp_X5_odds_27 (fun r M1 => q_X6_odds M1 (nI n) z (fun r2 M2 => r = r2 ∧ Rel M2)) m s (nI n) z a (nI i)) (fun i s a => FrC M s ∧ (∃ y1, LN s F H (sG (M 58) al c) y1 (M 58 6) (M 58 7)) ∧ a = ocF D i) n 0 M1 0 (by omega) ⟨f, ⟨_, n1⟩, rfl⟩ (fun m s a hs => ?_) (fun m i s a hi hs kk => ?_)
    · obtain ⟨s1, s2, rfl⟩ := hs
      exact bp (Int32.le_refl _) (mm s s1)
    · obtain ⟨s1, ⟨y1, s2⟩, rfl⟩ := hs
      refine bn (nI_ge hi (by omega)) (x_draws s2 (hS.lo al) (hT.frC hc s1) hS.1 hn (fun M3 f3 g3 => ?_))
      rw [← hDk i]
      unfold j_X5_odds_47
      rw [nI_1]
      exact ⟨fun w => kk M3 _ ⟨s1.tr f3, g3, by rw [oc_s, if_pos w]⟩, fun w => kk M3 _ ⟨s1.tr f3, g3, by rw [oc_s, if_neg w]⟩⟩
