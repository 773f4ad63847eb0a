/-! PURE: longer, bridge, takeIn -/
theorem sB_add {g g2 : Nat → Int32} {d : Int32} {p : Nat} : ∀ {n : Nat}, (∀ q, q < n → q ≠ p → g2 q = g q) → g2 p = g p + d → sB al g2 n = if p < n then sB al g n + d else sB al g n
  | 0, _, _ => by rw [if_neg (by omega)]; rfl
  | n + 1, h, e => by
    rw [sB_s, if_pos rfl, sB_s, if_pos rfl, sB_add (n := n) (fun q hq => h q (by omega)) e]
    by_cases w : n = p
    · subst w
      rw [if_neg (by omega), if_pos (by omega), e]
      grind
    · rw [h n (by omega) w]
      by_cases w2 : p < n
      · rw [if_pos w2, if_pos (by omega)]
        grind
      · rw [if_neg w2, if_neg (by omega)]
/-- sums, where one piece has d fathoms more -/
theorem sum_more {S S1 : Nat → Int32} {c p : Nat} {d : Int32} (hp : p < c) (e : ∀ k, k ≠ 12 + 6 * p + 2 → S1 k = S k) (e2 : S1 (12 + 6 * p + 2) = S (12 + 6 * p + 2) + d) : sF S1 al c = sF S al c + d ∧ sH S1 al c = sH S al c + d * hfB (S (12 + 6 * p + 0)) (S (12 + 6 * p + 1)) ∧ sG S1 al c = sG S al c + d * gvB (S (12 + 6 * p + 0)) (S (12 + 6 * p + 1)) := by
  unfold sF sH sG
  refine ⟨?_, ?_, ?_⟩
  · rw [sB_add (g := fun p => S (12 + 6 * p + 2)) (d := d) (p := p) (fun q hq hne => e _ (by omega)) e2, if_pos hp]
  · rw [sB_add (g := fun p => S (12 + 6 * p + 2) * hfB (S (12 + 6 * p + 0)) (S (12 + 6 * p + 1))) (d := d * hfB (S (12 + 6 * p + 0)) (S (12 + 6 * p + 1))) (p := p) (fun q hq hne => ?_) ?_, if_pos hp]
    · show S1 _ * hfB (S1 _) (S1 _) = _
      rw [e2, e _ (by omega), e _ (by omega)]
      grind
    · show S1 _ * hfB (S1 _) (S1 _) = _
      rw [e _ (by omega), e _ (by omega), e _ (by omega)]
  · rw [sB_add (g := fun p => S (12 + 6 * p + 2) * gvB (S (12 + 6 * p + 0)) (S (12 + 6 * p + 1))) (d := d * gvB (S (12 + 6 * p + 0)) (S (12 + 6 * p + 1))) (p := p) (fun q hq hne => ?_) ?_, if_pos hp]
    · show S1 _ * gvB (S1 _) (S1 _) = _
      rw [e2, e _ (by omega), e _ (by omega)]
      grind
    · show S1 _ * gvB (S1 _) (S1 _) = _
      rw [e _ (by omega), e _ (by omega), e _ (by omega)]
theorem LO.of {S : Nat → Int32} {c : Nat} {b : Nat → Bool} {l v : Int32} (h : ∀ p, p < c → PB S 198 p) (hc : c ≤ 6) (hl : ∃ L : Nat, 4 ≤ L ∧ L ≤ 40 ∧ l = nI L) (hv : ∃ w : Nat, w ≤ 9 ∧ v = nI w) : LO (sG S b c) l v := by
  obtain ⟨N, h1, e⟩ := sG_nat (b := b) h
  have h2 : c * (198 * 49) ≤ 6 * (198 * 49) := Nat.mul_le_mul_right _ hc
  exact ⟨⟨N, by omega, e⟩, hl, hv⟩
theorem e_longer : lh_10 Rel := by
  intro M x z hR
  obtain ⟨c, hS, hT⟩ := hR.of
  have hI := Rel.mi hS hT
  have hc := hS.1
  obtain ⟨L, h4, hL, eL⟩ := hS.len
  obtain ⟨Y, _, hY, eY⟩ := hS.2.2.1 0 (by omega)
  have hY : Y ≤ 60 := hY
  have eY : M 58 5 = nI Y := eY
  obtain ⟨w, hw, ew⟩ := hS.mo.2
  refine x_has hT.1.1 hS.1 (fun hno => b0 ?_) (fun p hp e => b1 (x_in 0 9999 rfl rfl (by omega) (by omega) (fun hno => b0 ?_) (fun pu hu1 hu2 eu => b1 (x_lnq hT hS.1 (fun hn => ?_) (fun hn M1 f1 n1 => ?_)))))
  · exact m_pc_no hS.2.1 hS.1 hno (b0 ⟨rfl, hR⟩)
  · exact m_pc_yes hS.2.1 hS.1 hp e (b1 (m_no 0 9999 rfl rfl (by omega) (by omega) hno (b0 ⟨rfl, hR⟩)))
  · exact m_pc_yes hS.2.1 hS.1 hp e (b1 (m_yes 0 9999 pu eu rfl rfl (by omega) (by omega) (b1 (m_isLine hI.1.2.1 hI.1.1 hI.2 (fun _ => b0 ⟨rfl, hR⟩) (fun z => absurd z hn)))))
  · have f := FrC.of4 f1
    subst e
    generalize hS' : (fun (m : Nat) => upd (M 58) (12 + 6 * p + 2) (M 58 (12 + 6 * p + 2) + nI m)) = T
    have hTk : ∀ m k, k ≠ 12 + 6 * p + 2 → T m k = M 58 k := fun m k hk => by rw [← hS']; exact if_neg hk
    have hTi : ∀ m, T m (12 + 6 * p + 2) = M 58 (12 + 6 * p + 2) + nI m := fun m => by rw [← hS']; exact if_pos rfl
    have hPB : ∀ m, m ≤ 99 → ∀ q, q < c → PB (T m) 198 q := fun m hm q hq => by
      obtain ⟨kd, fg, fa, hu, b1, b2, b3, b4, b5, e1, e2, e3, e4⟩ := hS.2.2.2 q hq
      by_cases wq : q = p
      · subst wq
        exact ⟨kd, fg, fa + m, b1, b2, by omega, by rw [hTk _ _ (by omega)]; exact e1, by rw [hTk _ _ (by omega)]; exact e2, by rw [hTi, e3, nI_add]⟩
      · exact ⟨kd, fg, fa, b1, b2, by omega, by rw [hTk _ _ (by omega)]; exact e1, by rw [hTk _ _ (by omega)]; exact e2, by rw [hTk _ _ (by omega)]; exact e3⟩
    have sums := fun m => sum_more (S := M 58) (S1 := T m) (d := nI m) hp (hTk m) (hTi m)
    generalize hV : (fun m => mxP (PL (sF (T m) al c) (sH (T m) al c) (gvR (sG (T m) al c)) (M 58 5) (nI L) (M 58 7)) L) = V
    have hVm : ∀ m, V m = mxP (PL (sF (T m) al c) (sH (T m) al c) (gvR (sG (T m) al c)) (M 58 5) (nI L) (M 58 7)) L := fun m => by rw [← hV]
    have hpos : ∀ m, m ≤ 99 → ∀ t, t < L → 0 ≤ PL (sF (T m) al c) (sH (T m) al c) (gvR (sG (T m) al c)) (M 58 5) (nI L) (M 58 7) t := fun m hm t ht => by
      obtain ⟨N, hN, e⟩ := pos_of (b := al) (hPB m hm) hc h4 hL hY hw t (by omega)
      show (0 : Int32) ≤ plF _ _ _ _ _ _ _
      rw [eY, ew, e]
      exact nI_pos' (by omega)
    have mm : ∀ M2, FrC M M2 → q_X6_longer M2 (nI p) z (fun r2 M3 => sr (fun m => !decide (z < V m)) (100 - 0) 0 = r2 ∧ Rel M3) := fun M2 F => by
      have hI2 := hI.frC F
      have e2 := F.e58
      refine m_pc_yes hI2.1.2.1 hI2.1.1 hp rfl (b1 (m_yes 0 9999 pu eu rfl rfl (by omega) (by omega) (b1 (m_isLine hI2.1.2.1 hI2.1.1 hI2.2 (fun z => absurd (by rw [e2]; exact hn) z) (fun _ => b1 (m_get p 2 rfl rfl (by omega) (by omega) ?_))))))
      rw [e2]
      have exit : ∀ (s : Mem) (a : Int32), (∀ j, j ≠ 57 → j ≠ 58 → s j = M2 j) → (∀ j, j < 18 → s 57 j = M2 57 j) → (∀ k, k ≠ 12 + 6 * p + 2 → s 58 k = M 58 k) → sr (fun m => !decide (z < V m)) (100 - 0) 0 = a → j_X6_longer_94 (fun r2 M3 => sr (fun m => !decide (z < V m)) (100 - 0) 0 = r2 ∧ Rel M3) s (nI p) (M 58 (12 + 6 * p + 2)) a := fun s a s1 s2 s3 ev => by
        refine m_puts p 2 rfl rfl (by omega) (by omega) ⟨ev, (hR.frC F).frM ⟨fun i a b _ _ _ => by rw [mup_ne _ _ _ b, s1 i a b], by rw [mup_ne _ _ _ (by omega), s2 10 (by omega)], fun k hk => ?_⟩⟩
        rw [mup_eq, e2]
        by_cases wk : k = 12 + 6 * p + 2
        · rw [if_pos ⟨rfl, wk⟩, wk]
        · rw [if_neg (fun q => wk q.2), s3 k wk]
      refine lo2 (fun m i (s : Mem) (a : Int32) => lp_X6_longer_46 (fun r2 M3 => sr (fun m => !decide (z < V m)) (100 - 0) 0 = r2 ∧ Rel M3) m s (nI p) z (M 58 (12 + 6 * p + 2)) a (nI i)) (fun i s a => ((∀ j, j ≠ 57 → j ≠ 58 → s j = M2 j) ∧ (∀ j, j < 18 → s 57 j = M2 57 j) ∧ (∀ k, k ≠ 12 + 6 * p + 2 → s 58 k = M 58 k)) ∧ ((a = -4 ∧ sr (fun m => !decide (z < V m)) (100 - 0) 0 = sr (fun m => !decide (z < V m)) (100 - i) i) ∨ (0 ≤ a ∧ sr (fun m => !decide (z < V m)) (100 - 0) 0 = a))) 100 0 M2 (-4) (by omega) ⟨⟨fun _ _ _ => rfl, fun _ _ => rfl, fun k _ => by rw [e2]⟩, Or.inl ⟨rfl, rfl⟩⟩ (fun m s a hs => ?_) (fun m i s a hi hs kk => ?_)
      · obtain ⟨⟨s1, s2, s3⟩, s5⟩ := hs
        refine bp (show (100 : Int32) ≤ nI 100 by decide) (exit s a s1 s2 s3 ?_)
        rcases s5 with ⟨ea, ev⟩ | ⟨_, ev⟩
        · rw [ev, sr_z, ea]
        · exact ev
      · obtain ⟨⟨s1, s2, s3⟩, s5⟩ := hs
        refine bn (show ¬ (100 : Int32) ≤ nI i from nI_ge (b := 100) hi (by omega)) ?_
        rcases s5 with ⟨ea, ev⟩ | ⟨ha, ev⟩
        · subst ea
          refine bn (by decide) (m_puts p 2 rfl rfl (by omega) (by omega) ?_)
          generalize hM6 : mup s 58 (12 + 6 * p + 2) (M 58 (12 + 6 * p + 2) + nI i) = M6
          have e6 : M6 58 = T i := by
            funext k
            rw [← hM6, mup_eq]
            by_cases wk : k = 12 + 6 * p + 2
            · rw [if_pos ⟨rfl, wk⟩, wk, hTi]
            · rw [if_neg (fun q => wk q.2), s3 k wk, hTk i k wk]
          have o6 : ∀ j, j ≠ 58 → M6 j = s j := fun j hj => by rw [← hM6, mup_ne _ _ _ hj]
          refine m_sumsAll (by rw [e6, hTk _ _ (by omega)]; exact hS.2.1) hS.1 (fun M7 k7 n7 => ?_)
          rw [e6] at n7
          have e7 : M7 58 = T i := (k7.1 58 (by omega)).trans e6
          have mo7 : MO (M7 58) := by unfold MO; rw [e7, hTk _ _ (by omega), hTk _ _ (by omega)]; exact hS.mo
          refine m_great n7 mo7 (gvR_ne (LO.of (l := M 58 6) (v := M 58 7) (hPB i (by omega)) hc hS.mo.1 hS.mo.2).1) (by rw [e7, hTk _ _ (by omega)]; exact eL) hL (by rw [e7, hTk _ _ (by omega), hTk _ _ (by omega)]; exact hpos i (by omega)) (by omega) (fun M8 k8 _ _ _ => ?_)
          rw [e7, hTk _ _ (by omega), hTk _ _ (by omega), ← hVm i]
          rw [sr_s _ hi] at ev
          have i8 : (∀ j, j ≠ 57 → j ≠ 58 → M8 j = M2 j) ∧ (∀ j, j < 18 → M8 57 j = M2 57 j) ∧ (∀ k, k ≠ 12 + 6 * p + 2 → M8 58 k = M 58 k) := ⟨fun j a b => by rw [k8.1 j a, k7.1 j a, o6 j b, s1 j a b], fun j hj => by rw [k8.2 j hj, k7.2 j hj, o6 57 (by omega), s2 j hj], fun k hk => by rw [k8.1 58 (by omega), e7, hTk i k hk]⟩
          unfold j_X6_longer_88
          rw [nI_1]
          refine ⟨fun wv => ?_, fun wv => ?_⟩
          · rw [if_neg (by rw [decide_eq_true wv]; decide)] at ev
            exact kk M8 _ ⟨i8, Or.inl ⟨rfl, ev⟩⟩
          · rw [if_pos (by rw [decide_eq_false wv]; rfl)] at ev
            exact kk M8 _ ⟨i8, Or.inr ⟨nI_pos' (by omega), ev⟩⟩
        · exact bp ha (exit s a s1 s2 s3 ev)
    have hP := hT.2.2.1 p hp
    rw [show 32 + 6 * 1 + p = 38 + p by omega] at hP
    refine pk_loop (fun m i (s : Mem) => lp_X5_longer_36 (fun r M1 => q_X6_longer M1 (nI p) z (fun r2 M2 => r = r2 ∧ Rel M2)) m s (nI p) z (nI i)) (fun i s => (∀ j, j ≠ 4 → s j = M j) ∧ LN s (sF (T i) al c) (sH (T i) al c) (sG (T i) al c) (M 58 5) (M 58 6) (M 58 7) ∧ sr (fun m => !decide (z < V m)) (100 - 0) 0 = sr (fun m => !decide (z < V m)) (100 - i) i) 100 0 M1 (by omega) ⟨f1, ?_, rfl⟩ (fun m s hs => ?_) (fun m i s hi hs kk => ?_)
    · obtain ⟨q1, q2, q3⟩ := sums 0
      have z1 : ∀ a b : Int32, a + nI 0 * b = a := fun a b => by rw [show nI 0 = (0 : Int32) from rfl]; grind
      have z2 : ∀ a : Int32, a + nI 0 = a := fun a => by rw [show nI 0 = (0 : Int32) from rfl]; grind
      rw [q1, q2, q3, z1, z1, z2]
      exact n1
    · obtain ⟨s1, s2, ev⟩ := hs
      have h := mm s (FrC.of4 s1)
      rw [ev, sr_z] at h
      exact bp (show (99 : Int32) < nI 100 by decide) h
    · obtain ⟨s1, s2, ev⟩ := hs
      have s2' := s2
      rw [eL] at s2'
      have lo := LO.of (b := al) (l := nI L) (v := M 58 7) (hPB i (by omega)) hc ⟨L, h4, hL, rfl⟩ hS.mo.2
      refine bn (show ¬ (99 : Int32) < nI i from nI_nlt (a := 99) (by omega) (by omega)) (l_great s2' lo hL ?_)
      rw [← hVm i]
      rw [sr_s _ hi] at ev
      refine ⟨fun wv => ⟨nI_in (by omega) (by omega), ?_⟩, fun wv => ?_⟩
      · rw [if_neg (by rw [decide_eq_true wv]; decide)] at ev
        rw [cl (by omega)]
        refine x_add s2 (by omega) (fun M7 f7 n7 => ?_)
        rw [nI_1]
        refine kk M7 ⟨fun j hj => (f7 j hj).trans (s1 j hj), ?_, ev⟩
        rw [s1 (38 + p) (by omega), hP.2.2.2.2.2.1, hP.2.2.2.2.2.2.1] at n7
        obtain ⟨q1, q2, q3⟩ := sums i
        obtain ⟨r1, r2, r3⟩ := sums (i + 1)
        have e1 : nI (i + 1) = nI i + 1 := (nI_1 i).symm
        have c1 : sF (T (i + 1)) al c = sF (T i) al c + 1 := by rw [q1, r1, e1]; grind
        have c2 : sH (T (i + 1)) al c = sH (T i) al c + 1 * hfB (M 58 (12 + 6 * p + 0)) (M 58 (12 + 6 * p + 1)) := by rw [q2, r2, e1]; grind
        have c3 : sG (T (i + 1)) al c = sG (T i) al c + 1 * gvB (M 58 (12 + 6 * p + 0)) (M 58 (12 + 6 * p + 1)) := by rw [q3, r3, e1]; grind
        rw [c1, c2, c3]
        exact n7
      · rw [if_pos (by rw [decide_eq_false wv]; rfl)] at ev
        have h := mm s (FrC.of4 s1)
        rw [ev] at h
        exact h
theorem x_begin1 {M : Mem} {a : Nat} {x1 x2 x3 x4 : Int32} {post : Mem → Prop} (k : ∀ M1, (∀ i, i ≠ a → M1 i = M i) → M1 a 0 = x1 → M1 a 1 = x2 → M1 a 2 = x3 → M1 a 3 = x4 → M1 a 4 = 0 → M1 a 5 = hfB x1 x2 → M1 a 6 = gvB x1 x2 → M1 a 7 = stB x1 x2 → M1 a 8 = wrB x1 x2 → post M1) : q_X1_begin M a x1 x2 x3 x4 post := by
  intro M1 e1 M2 e2 M3 e3 M4 e4 M5 e5
  have g5 : (∀ i, i ≠ a → M5 i = M i) ∧ M5 a 0 = x1 ∧ M5 a 1 = x2 ∧ M5 a 2 = x3 ∧ M5 a 3 = x4 ∧ M5 a 4 = 0 := by
    subst e5 e4 e3 e2 e1
    refine ⟨fun i hi => by rw [mup_ne _ _ _ hi, mup_ne _ _ _ hi, mup_ne _ _ _ hi, mup_ne _ _ _ hi, mup_ne _ _ _ hi], ?_⟩
    simp [mup_eq]
  clear e1 e2 e3 e4 e5
  obtain ⟨f5, a0, a1, a2, a3, a4⟩ := g5
  rw [a0, a1]
  refine x_heftOf (fun M8 e8 => ?_)
  have b0' : M8 a 0 = x1 := by rw [e8, mup_eq, if_neg (by omega)]; exact a0
  have b1' : M8 a 1 = x2 := by rw [e8, mup_eq, if_neg (by omega)]; exact a1
  rw [b0', b1']
  refine x_giveOf (fun M11 e11 => ?_)
  have c0 : M11 a 0 = x1 := by rw [e11, mup_eq, if_neg (by omega)]; exact b0'
  have c1 : M11 a 1 = x2 := by rw [e11, mup_eq, if_neg (by omega)]; exact b1'
  rw [c0, c1]
  refine x_strengthOf (fun M14 e14 => ?_)
  have d0 : M14 a 0 = x1 := by rw [e14, mup_eq, if_neg (by omega)]; exact c0
  have d1 : M14 a 1 = x2 := by rw [e14, mup_eq, if_neg (by omega)]; exact c1
  rw [d0, d1]
  refine x_wearOf (fun M17 e17 => ?_)
  have q : ∀ j, M17 a j = if j = 8 then wrB x1 x2 else if j = 7 then stB x1 x2 else if j = 6 then gvB x1 x2 else if j = 5 then hfB x1 x2 else M5 a j := fun j => by
    rw [e17, mup_eq, e14, mup_eq, e11, mup_eq, e8, mup_eq]
    simp only [true_and]
  refine k M17 (fun i hi => by rw [e17, mup_ne _ _ _ hi, e14, mup_ne _ _ _ hi, e11, mup_ne _ _ _ hi, e8, mup_ne _ _ _ hi, f5 i hi]) ?_ ?_ ?_ ?_ ?_ ?_ ?_ ?_ ?_
  all_goals rw [q]
  · exact a0
  · exact a1
  · exact a2
  · exact a3
  · exact a4
  all_goals rfl
theorem m_gave {M : Mem} {c : Nat} {x1 x2 x3 : Int32} {post : Int32 → Mem → Prop} (hc : M 58 0 = nI c) (hb : c ≤ 6) (k : ∀ (v : Int32), v = sG (M 58) al c → b_X6_bridge_56 (fun _ _ _ _ _ _ => False) post M x1 x2 x3 v (nI c)) : ∃ n, lp_X6_bridge_56 post n M x1 x2 x3 0 0 := by
  refine lo2 (fun m i (s : Mem) (a : Int32) => lp_X6_bridge_56 post m s x1 x2 x3 a (nI i)) (fun i s a => s = M ∧ a = sG (M 58) al i) c 0 M 0 (by omega) ⟨rfl, rfl⟩ (fun m s a hs => ?_) (fun m i s a hi hs kk => ?_)
  · obtain ⟨rfl, rfl⟩ := hs
    have h := k _ rfl
    unfold b_X6_bridge_56 at h
    unfold lp_X6_bridge_56 b_X6_bridge_56
    rw [hc] at h ⊢
    exact bp (Int32.le_refl _) (h.1 (Int32.le_refl _))
  · obtain ⟨rfl, rfl⟩ := hs
    unfold lp_X6_bridge_56 b_X6_bridge_56
    rw [hc]
    refine bn (nI_ge hi (by omega)) (m_get i 2 rfl rfl (by omega) (by omega) (m_get i 0 rfl rfl (by omega) (by omega) (m_get i 1 rfl rfl (by omega) (by omega) (m_giveBy ?_))))
    rw [nI_1]
    exact kk s _ ⟨rfl, by unfold sG; rw [sB_s, if_pos rfl]⟩
theorem e_bridge : lh_12 Rel := by
  intro M x z hR
  obtain ⟨c, hS, hT⟩ := hR.of
  have hI := Rel.mi hS hT
  have hc := hS.1
  obtain ⟨L, h4, hL, eL⟩ := hS.len
  obtain ⟨Y, _, hY, eY⟩ := hS.2.2.1 0 (by omega)
  have hY : Y ≤ 60 := hY
  have eY : M 58 5 = nI Y := eY
  obtain ⟨w, hw, ew⟩ := hS.mo.2
  refine x_in 0 7 rfl rfl (by omega) (by omega) (fun hno => b0 ?_) (fun kd hk1 hk2 e => b1 (x_in 1 99 rfl rfl (by omega) (by omega) (fun hno => b0 ?_) (fun n hn1 hn2 en => b1 (x_lnq hT hS.1 (fun hn => ?_) (fun hn M1 f1 n1 => ?_)))))
  · exact m_no 0 7 rfl rfl (by omega) (by omega) hno (b0 ⟨rfl, hR⟩)
  · exact m_yes 0 7 kd e rfl rfl (by omega) (by omega) (b1 (m_no 1 99 rfl rfl (by omega) (by omega) hno (b0 ⟨rfl, hR⟩)))
  · exact m_yes 0 7 kd e rfl rfl (by omega) (by omega) (b1 (m_yes 1 99 n en rfl rfl ⟨hn1, hn2⟩ (by omega) (b1 (m_isLine hI.1.2.1 hI.1.1 hI.2 (fun _ => b0 ⟨rfl, hR⟩) (fun z => absurd z hn)))))
  · have f := FrC.of4 f1
    subst e en
    have ho := hS.lo al
    have hpos := hS.pos al eL h4 hL
    have n1' := n1
    rw [eL] at n1' ho
    obtain ⟨F, hF, eF⟩ := sF_nat (b := al) hS.pb
    obtain ⟨H, hH, eH⟩ := sH_nat (b := al) hS.pb
    obtain ⟨G, hG, eG⟩ := sG_nat (b := al) hS.pb
    have f1' : c * 99 ≤ 6 * 99 := Nat.mul_le_mul_right _ hc
    have f2' : c * (99 * 15) ≤ 6 * (99 * 15) := Nat.mul_le_mul_right _ hc
    have f3' : c * (99 * 49) ≤ 6 * (99 * 49) := Nat.mul_le_mul_right _ hc
    obtain ⟨hf, hhf, ehf⟩ := hf_nat kd hk2 0 (by omega)
    obtain ⟨gv, hgv, egv⟩ := gv_nat kd hk2 0 (by omega)
    have ehf : hfB (nI kd) 0 = nI hf := ehf
    have egv : gvB (nI kd) 0 = nI gv := egv
    have m1 : n * hf ≤ 99 * 15 := Nat.mul_le_mul hn2 hhf
    have m2 : n * gv ≤ 99 * 49 := Nat.mul_le_mul hn2 hgv
    have eg2 : sG (M 58) al c + nI n * nI gv = nI (G + n * gv) := by rw [eG, pk_mul, nI_add]
    have eh2 : sH (M 58) al c + nI n * nI hf = nI (H + n * hf) := by rw [eH, pk_mul, nI_add]
    have ef2 : sF (M 58) al c + nI n = nI (F + n) := by rw [eF, nI_add]
    have lo2' : LO (nI (G + n * gv)) (nI L) (M 58 7) := ⟨⟨_, by omega, rfl⟩, ⟨L, h4, hL, rfl⟩, w, hw, ew⟩
    obtain ⟨N, hN1, hN2, eN⟩ := gvR_nat (G := G + n * gv) (by omega)
    have hpos2 : ∀ t, t < L → 0 ≤ PL (nI (F + n)) (nI (H + n * hf)) (gvR (nI (G + n * gv))) (M 58 5) (nI L) (M 58 7) t := fun t ht => by
      obtain ⟨N2, h2, e2⟩ := plF_nat (F := F + n) (H := H + n * hf) (G := N) (Y := Y) (L := L) (w := w) (T := t) (by omega) (by omega) hN1 (by omega) hY h4 hL hw (by omega)
      show (0 : Int32) ≤ plF _ _ _ _ _ _ _
      rw [eN, eY, ew, e2]
      exact nI_pos' (by omega)
    refine l_great n1' ho hL (x_begin1 (fun M2 f2 _ _ _ _ _ q5 q6 _ _ => ?_))
    have n2 : LN M2 (sF (M 58) al c) (sH (M 58) al c) (sG (M 58) al c) (M 58 5) (nI L) (M 58 7) := by unfold LN; rw [f2 4 (by omega)]; exact n1'
    refine x_add n2 (by omega) (fun M3 f3 n3 => ?_)
    rw [q5, q6, ehf, egv, eg2, eh2, ef2] at n3
    refine l_great n3 lo2' hL ?_
    have Fr : FrC M M3 := f.tr (fun i _ a _ _ _ b => by rw [f3 i a, f2 i (by omega)])
    have hI3 := hI.frC Fr
    have e3 := Fr.e58
    refine m_yes 0 7 kd rfl rfl rfl (by omega) (by omega) (b1 (m_yes 1 99 n rfl rfl rfl ⟨hn1, hn2⟩ (by omega) (b1 (m_lnq hI3 (fun z => absurd (by rw [e3]; exact hn) z) (fun _ M4 k4 n4 => ?_)))))
    rw [e3] at n4
    have e4 : M4 58 = M 58 := (k4.1 58 (by omega)).trans e3
    refine m_great n4 (by rw [e4]; exact hS.mo) (hS.gn al) (by rw [e4]; exact eL) hL (by rw [e4]; exact hpos) (by omega) (fun M5 k5 n5 _ _ => ?_)
    have e5 : M5 58 = M 58 := (k5.1 58 (by omega)).trans e4
    rw [e4]
    refine m_gave (by rw [e5]; exact hS.2.1) hS.1 (fun v ev => ?_)
    rw [e5] at ev
    subst ev
    unfold b_X6_bridge_56
    rw [e5, hS.2.1]
    refine bp (Int32.le_refl _) (fun M6 e6 => m_heftBy (fun M7 e7 => m_giveBy (fun M8 e8 => ?_)))
    have k6 : Kq M5 M6 := by subst e6; exact Kq.up (by omega)
    have k7 : Kq M6 M7 := by subst e7; exact Kq.up (by omega)
    have k8 : Kq M7 M8 := by subst e8; exact Kq.up (by omega)
    have n8 : LM M8 (nI (F + n)) (nI (H + n * hf)) (nI (G + n * gv)) := by
      rw [n5.1] at e6
      have q6 : M6 57 19 = sH (M 58) al c := by rw [e6, mup_eq, if_neg (by omega)]; exact n5.2.1
      rw [q6, ehf, eh2] at e7
      rw [egv, eg2] at e8
      rw [ef2] at e6
      subst e8 e7 e6
      simp [LM, mup_eq]
    refine m_rounds n8 (fun M9 k9 n9 => ?_)
    have kk9 := ((k6.tr k7).tr k8).tr k9
    have e9 : M9 58 = M 58 := (kk9.1 58 (by omega)).trans e5
    refine m_great n9 (by rw [e9]; exact hS.mo) (gvR_ne ⟨_, by omega, rfl⟩) (by rw [e9]; exact eL) hL (by rw [e9]; exact hpos2) (by omega) (fun M10 k10 _ _ _ => ⟨?_, (hR.frC Fr).frM ((k4.tr k5).tr (kk9.tr k10)).frM⟩)
    rw [e9]
