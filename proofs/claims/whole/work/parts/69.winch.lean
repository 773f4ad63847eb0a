/-! PURE: winch, stock -/
theorem sr_first (P : Nat → Bool) {N l : Nat} : ∀ k i, i + k = l → (∀ n, i ≤ n → n < l → P n = false) → l < N → P l = true → sr P (N - i) i = nI l
  | 0, i, h, _, hN, hl => by
    have : i = l := by omega
    subst this
    rw [sr_s P hN, if_pos hl]
  | k + 1, i, h, hno, hN, hl => by
    rw [sr_s P (by omega), if_neg (by rw [hno i (by omega) (by omega)]; decide)]
    exact sr_first P k (i + 1) (by omega) (fun n h1 h2 => hno n (by omega) h2) hN hl
theorem sr_none (P : Nat → Bool) {N : Nat} : ∀ k i, i + k = N → (∀ n, i ≤ n → n < N → P n = false) → sr P (N - i) i = -4
  | 0, i, h, _ => by
    have : i = N := by omega
    subst this
    exact sr_z P
  | k + 1, i, h, hno => by
    rw [sr_s P (by omega), if_neg (by rw [hno i (by omega) (by omega)]; decide)]
    exact sr_none P k (i + 1) (by omega) (fun n h1 h2 => hno n (by omega) h2)
theorem nA_nat {P : Nat → Int32} {q : Nat → Nat} {n : Nat} (hn : n ≤ 300000) : ∀ {L : Nat}, L ≤ 100 → (∀ t, t < L → P t = nI (q t) ∧ q t ≤ 200000) → nA P (nI n) L = nI (fb_ct (fun t => decide (n < q t)) L)
  | 0, _, _ => rfl
  | L + 1, hL, h => by
    rw [nA_s, nA_nat hn (L := L) (by omega) (fun t ht => h t (by omega)), fb_ct_succ, (h L (by omega)).1]
    have hq := (h L (by omega)).2
    by_cases w : q L ≤ n
    · rw [if_pos (nI_le w (by omega)), if_neg (by rw [decide_eq_false (by omega)]; decide)]
      rfl
    · rw [if_neg (nI_ge (by omega) (by omega)), if_pos (decide_eq_true (by omega)), nI_1]
theorem e_winch : lh_24 Rel := by
  intro M x hR
  obtain ⟨c, hS, hT⟩ := hR.of
  have hI := Rel.mi hS hT
  have hc := hS.1
  obtain ⟨L, h4, hL, eL⟩ := hS.len
  obtain ⟨Y, _, hY, eY⟩ := hS.2.2.1 0 (by omega)
  have hY : Y ≤ 60 := hY
  have eY : M 58 5 = nI Y := eY
  obtain ⟨w, hw, ew⟩ := hS.mo.2
  refine x_in 0 40 rfl (by decide) (by omega) (by omega) (fun hno => b0 ?_) (fun mm h1 h2 e => b1 (x_lnq hT hS.1 (fun hn => ?_) (fun hn M1 f1 n1 => ?_)))
  · exact m_no 0 40 rfl rfl (by omega) (by omega) hno (b0 ⟨rfl, hR⟩)
  · exact m_yes 0 40 mm e rfl rfl ⟨h1, h2⟩ (by omega) (b1 (m_lnq hI (fun _ => ⟨rfl, hR⟩) (fun z => absurd z hn)))
  · have f := FrC.of4 f1
    subst e
    have ho := hS.lo al
    have n1' := n1
    rw [eL] at n1' ho
    generalize hP : PL (sF (M 58) al c) (sH (M 58) al c) (gvR (sG (M 58) al c)) (M 58 5) (nI L) (M 58 7) = P
    have hex : ∀ t, t < L → ∃ N, N ≤ 200000 ∧ P t = nI N := fun t ht => by
      obtain ⟨N, hN, e⟩ := pos_of (b := al) (fun p hp => (hS.pb p hp).mono (by omega)) hc h4 hL hY hw t (by omega)
      refine ⟨N, hN, ?_⟩
      rw [← hP]
      show plF _ _ _ _ _ _ _ = _
      rw [eY, ew, e]
    have hch : ∀ t, ∃ N, t < L → N ≤ 200000 ∧ P t = nI N := fun t => by
      by_cases ht : t < L
      · obtain ⟨N, a, b⟩ := hex t ht; exact ⟨N, fun _ => ⟨a, b⟩⟩
      · exact ⟨0, fun q => absurd q ht⟩
    obtain ⟨q, hq⟩ := Classical.axiomOfChoice hch
    have hq2 : ∀ t, t < L → P t = nI (q t) ∧ q t ≤ 200000 := fun t ht => ⟨(hq t ht).2, (hq t ht).1⟩
    have hct : ∀ n, n ≤ 300000 → nA P (nI n) L = nI (fb_ct (fun t => decide (n < q t)) L) := fun n hn => nA_nat hn (by omega) hq2
    have hcl : ∀ n, fb_ct (fun t => decide (n < q t)) L ≤ L := fun n => fb_ct_le _ L
    have hQ : ∀ n, n ≤ 300000 → (nI mm < nA P (nI n) L ↔ mm < fb_ct (fun t => decide (n < q t)) L) := fun n hn => by
      rw [hct n hn]
      exact nI_ltI (by omega) (by have := hcl n; omega)
    obtain ⟨B, hB⟩ : ∃ B : Nat, B = 10000 := ⟨_, rfl⟩
    have M2m : ∀ M2, FrC M M2 → q_X6_winch M2 (nI mm) (fun r2 M3 => sr (fun n => !decide (nI mm < nA P (nI n) L)) (B - 0) 0 = r2 ∧ Rel M3) := fun M2 F => by
      have hI2 := hI.frC F
      have e2 := F.e58
      refine m_yes 0 40 mm rfl rfl rfl ⟨h1, h2⟩ (by omega) (b1 (m_lnq hI2 (fun z => absurd (by rw [e2]; exact hn) z) (fun _ M3 k3 n3 => ?_)))
      rw [e2] at n3
      refine pk_loop (fun m i (s : Mem) => lp_X6_winch_34 (fun r2 M3 => sr (fun n => !decide (nI mm < nA P (nI n) L)) (B - 0) 0 = r2 ∧ Rel M3) m s (nI mm) (nI i)) (fun i s => Kq M2 s ∧ LM s (sF (M 58) al c) (sH (M 58) al c) (gvR (sG (M 58) al c)) ∧ sr (fun n => !decide (nI mm < nA P (nI n) L)) (B - 0) 0 = sr (fun n => !decide (nI mm < nA P (nI n) L)) (B - i) i) B 0 M3 (by omega) ⟨k3, n3, rfl⟩ (fun m s hs => ?_) (fun m i s hi hs kk => ?_)
      · obtain ⟨s1, s2, ev⟩ := hs
        refine bp (show (9999 : Int32) < nI B by rw [hB]; decide) ⟨by rw [ev, sr_z], (hR.frC F).frM s1.frM⟩
      · obtain ⟨s1, s2, ev⟩ := hs
        have es : s 58 = M 58 := (s1.1 58 (by omega)).trans e2
        refine bn (show ¬ (9999 : Int32) < nI i from nI_nlt (a := 9999) (by omega) (by omega)) (m_above s2 (by rw [es]; exact hS.mo) (hS.gn al) (by rw [es]; exact eL) hL (fun M4 k4 n4 => ?_))
        rw [es, hP]
        rw [sr_s _ hi] at ev
        refine ⟨fun z => ?_, fun z => ?_⟩
        · rw [if_neg (by rw [decide_eq_true z]; decide)] at ev
          rw [nI_1]
          exact kk M4 ⟨s1.tr k4, n4, ev⟩
        · rw [if_pos (by rw [decide_eq_false z]; rfl)] at ev
          exact ⟨ev, (hR.frC F).frM (s1.tr k4).frM⟩
    refine l_above n1' ho hL ?_
    rw [hP]
    refine ⟨fun z => ?_, fun z => ?_⟩
    · have hz0 : mm < fb_ct (fun t => decide (0 < q t)) L := (hQ 0 (by omega)).mp z
      have hbelow : ∀ l, (∀ t, t < L → fb_ct (fun u => decide (q t < q u)) L ≤ mm → l ≤ q t) → ∀ n, n < l → n ≤ 200000 → mm < fb_ct (fun t => decide (n < q t)) L := by
        intro l hl n
        induction n with
        | zero => intro _ _; exact hz0
        | succ n ih =>
          intro h5 h6
          have hprev := ih (by omega) (by omega)
          apply Nat.not_le.mp
          intro hle
          have hsub : ¬ ∀ t, t < L → decide (n < q t) = true → decide (n + 1 < q t) = true := fun hall => by
            have := fb_ct_sub (p := fun t => decide (n < q t)) (q := fun t => decide (n + 1 < q t)) (n := L) hall
            omega
          apply hsub
          intro t ht hd
          have hd := of_decide_eq_true hd
          apply decide_eq_true
          apply Nat.lt_of_le_of_ne hd
          intro eq
          have := hl t ht (by rw [← eq]; exact hle)
          omega
      refine lo2 (fun m i (s : Mem) (a : Int32) => lp_X5_winch_45 (fun r M1 => q_X6_winch M1 (nI mm) (fun r2 M2 => r = r2 ∧ Rel M2)) m s (nI mm) a (nI i)) (fun i s a => s = M1 ∧ ∃ l, l ≤ 10000 ∧ a = nI l ∧ (l = 10000 ∨ fb_ct (fun t => decide (l < q t)) L ≤ mm) ∧ ∀ t, t < i → fb_ct (fun u => decide (q t < q u)) L ≤ mm → l ≤ q t) L 0 M1 10000 (by omega) ⟨rfl, 10000, by omega, rfl, Or.inl rfl, fun t ht => by omega⟩ (fun m s a hs => ?_) (fun m i s a hi hs kk => ?_)
      · obtain ⟨rfl, l, hl1, rfl, hl2, hl3⟩ := hs
        have hb := hbelow l hl3
        unfold lp_X5_winch_45 b_X5_winch_45
        rw [n1'.2.2.2.2.1]
        refine bp (Int32.le_refl _) ⟨fun z2 => ?_, fun z2 => ?_⟩
        · have hl9 : l ≤ 9999 := (nI_leI (b := 9999) (by omega) (by omega)).mp z2
          have hm := M2m s f
          have hA : ∀ n, 0 ≤ n → n < l → (!decide (nI mm < nA P (nI n) L)) = false := fun n _ h6 => by
            have := (hQ n (by omega)).mpr (hb n h6 (by omega))
            rw [decide_eq_true this]; rfl
          have hE : (!decide (nI mm < nA P (nI l) L)) = true := by
            rcases hl2 with h | h
            · omega
            · rw [decide_eq_false (fun v => by have := (hQ l (by omega)).mp v; omega)]; rfl
          rw [sr_first (l := l) (fun n => !decide (nI mm < nA P (nI n) L)) l 0 (by omega) hA (by omega) hE] at hm
          exact hm
        · have hl9 : l = 10000 := by
            by_cases v : l ≤ 9999
            · exact absurd (nI_le (b := 9999) v (by omega)) z2
            · omega
          have hm := M2m s f
          have hA : ∀ n, 0 ≤ n → n < B → (!decide (nI mm < nA P (nI n) L)) = false := fun n _ h6 => by
            have := (hQ n (by omega)).mpr (hb n (by omega) (by omega))
            rw [decide_eq_true this]; rfl
          rw [sr_none (fun n => !decide (nI mm < nA P (nI n) L)) B 0 (by omega) hA] at hm
          exact hm
      · obtain ⟨rfl, l, hl1, rfl, hl2, hl3⟩ := hs
        have hqi := hq2 i hi
        have hPi : plF (sF (M 58) al c) (sH (M 58) al c) (gvR (sG (M 58) al c)) (M 58 5) (nI L) (M 58 7) (nI i) = nI (q i) := by rw [← hqi.1, ← hP]
        unfold lp_X5_winch_45 b_X5_winch_45 j_X5_winch_88
        rw [n1'.2.2.2.2.1]
        refine bn (nI_ge hi (by omega)) (l_pull n1' ho ?_)
        rw [hPi, nI_1]
        refine ⟨fun z2 => kk s _ ⟨rfl, l, hl1, rfl, hl2, fun t ht hv => ?_⟩, fun z2 => l_above n1' ho hL ?_⟩
        · by_cases v : t = i
          · subst v; exact (nI_leI (by omega) (by omega)).mp z2
          · exact hl3 t (by omega) hv
        · rw [hP]
          have hlt : q i < l := by
            apply Nat.not_le.mp
            intro v
            exact z2 (nI_le v (by omega))
          refine ⟨fun z3 => kk s _ ⟨rfl, l, hl1, rfl, hl2, fun t ht hv => ?_⟩, fun z3 => kk s _ ⟨rfl, q i, by omega, rfl, Or.inr ?_, fun t ht hv => ?_⟩⟩
          · by_cases v : t = i
            · subst v
              have := (hQ (q t) (by omega)).mp z3
              omega
            · exact hl3 t (by omega) hv
          · apply Nat.not_lt.mp
            intro v
            exact z3 ((hQ (q i) (by omega)).mpr v)
          · by_cases v : t = i
            · subst v; exact Nat.le_refl _
            · have := hl3 t (by omega) hv
              omega
    · have hm := M2m M1 f
      rw [sr_first (l := 0) _ 0 0 rfl (fun n _ h6 => by omega) (by omega) (by rw [decide_eq_false (show ¬ nI mm < nA P (nI 0) L from z)]; rfl)] at hm
      exact hm
