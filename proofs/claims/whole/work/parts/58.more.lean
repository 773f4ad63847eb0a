/-! PURE: copy, count, caravan, judge, set, shallowest -/
theorem x_places {M : Mem} {a n : Nat} {x y : Int32} {post : Int32 → Mem → Prop} (hn : n ≤ 100) (hh : M a 0 = 2) (hs : M a 3 = nI n) (h0 : (∀ i k, i + k ≤ n → x = nI i → y ≠ nI k) → post 0 M) (h1 : ∀ i k, i + k ≤ n → x = nI i → y = nI k → post 1 M) : q_X3_hasPlaces M a x y post := by
  refine bp hh ?_
  rw [hs]
  refine x_in 0 n rfl rfl (by omega) (by omega) (fun hno => b0 ⟨Or.inl rfl, h0 (fun i k hik e => absurd e (hno i (by omega) (by omega)))⟩) (fun i _ hi e => b1 ?_)
  subst e
  rw [hs, nsub hi]
  refine x_in 0 (n - i) rfl rfl (by omega) (by omega) (fun hno => b0 ⟨Or.inl rfl, h0 (fun i2 k hik e => ?_)⟩) (fun k _ hk e => b1 ⟨Or.inr rfl, h1 i k (by omega) rfl e⟩)
  have : i = i2 := (nI_eq (by omega) (by omega)).mp e
  subst this
  exact hno k (by omega) (by omega)
theorem e_copy : lh_36 Rel := by
  intro M x1 x2 x3 x4 x5 hR
  refine x_shelf (fun hno => b0 ?_) (fun d hd e1 => b1 (x_shelf (fun hno => b0 ?_) (fun e hd2 e3 => b1 ?_)))
  · exact m_shelf_no hno (b0 ⟨rfl, hR⟩)
  · exact m_shelf_yes hd e1 (b1 (m_shelf_no hno (b0 ⟨rfl, hR⟩)))
  · subst e1 e3
    obtain ⟨d1, d2, d3, ⟨nd, hnd, ds1, ds2⟩, d5, d6⟩ := hR.2.2 d hd
    obtain ⟨c1, c2, c3, ⟨ne, hne, cs1, cs2⟩, c5, c6⟩ := hR.2.2 e hd2
    refine ⟨vin_d hd, vin_d hd2, ?_⟩
    rw [cl (by omega), cl (by omega), d1, c1, d3, c3]
    have pre : ∀ (r : Int32), ((M 62 d = 0 → r = -11) ∧ (¬ M 62 d = 0 → (M 62 e = 0 → r = -11) ∧ (¬ M 62 e = 0 → (¬ (M 62 d = 2 ∧ M 62 e = 2 ∧ M 63 d = M 63 e) → r = -12) ∧ (M 62 d = 2 ∧ M 62 e = 2 ∧ M 63 d = M 63 e → r = -13 ∧ ¬ ∃ i j k, i + k ≤ nd ∧ j + k ≤ ne ∧ x2 = nI i ∧ x4 = nI j ∧ x5 = nI k)))) → q_X6_copy M (nI d) x2 (nI e) x4 x5 (fun r2 M2 => r = r2 ∧ Rel M2) := fun r hr => by
      refine m_shelf_yes hd rfl (b1 (m_shelf_yes hd2 rfl (b1 ⟨vin_d hd, ?_⟩)))
      rw [cl (by omega), cl (by omega), ds1, cs1]
      refine ⟨fun z => ⟨hr.1 z, hR⟩, fun z => ⟨vin_d hd2, fun z2 => ⟨(hr.2 z).1 z2, hR⟩, fun z2 => ?_⟩⟩
      obtain ⟨p1, p2⟩ := (hr.2 z).2 z2
      refine ⟨fun w1 => ⟨fun w2 => ⟨fun w3 => ?_, fun w3 => ⟨p1 (fun q => w3 q.2.2), hR⟩⟩, fun w2 => ⟨p1 (fun q => w2 q.2.1), hR⟩⟩, fun w1 => ⟨p1 (fun q => w1 q.1), hR⟩⟩
      obtain ⟨er, hno⟩ := p2 ⟨w1, w2, w3⟩
      refine ⟨fun _ => ⟨er, hR⟩, fun u5 => ⟨fun _ => ⟨er, hR⟩, fun u2 => ⟨fun _ => ⟨er, hR⟩, fun u4 => ⟨fun _ => ⟨er, hR⟩, fun v1 => ⟨fun v2 => ?_, fun _ => ⟨er, hR⟩⟩⟩⟩⟩⟩
      exfalso
      obtain ⟨k, hk, rfl⟩ := nI_of u5
      obtain ⟨i, hi, rfl⟩ := nI_of u2
      obtain ⟨j, hj, rfl⟩ := nI_of u4
      have t1 : (nI nd - nI i).toInt = (nd : Int) - i := by
        rw [Int32.toInt_sub, nI_toInt (by omega), nI_toInt hi, Int.bmod_eq_of_le (by omega) (by omega)]
      have t2 : (nI ne - nI j).toInt = (ne : Int) - j := by
        rw [Int32.toInt_sub, nI_toInt (by omega), nI_toInt hj, Int.bmod_eq_of_le (by omega) (by omega)]
      rw [Int32.lt_iff_toInt_lt, t1, nI_toInt hk] at v1
      rw [Int32.le_iff_toInt_le, t2, nI_toInt hk] at v2
      exact hno ⟨i, j, k, by omega, by omega, rfl, rfl, rfl⟩
    refine ⟨fun z => pre _ ⟨fun _ => rfl, fun w => absurd z w⟩, fun z => ⟨fun z2 => pre _ ⟨fun w => absurd w z, fun _ => ⟨fun _ => rfl, fun w => absurd z2 w⟩⟩, fun z2 => ⟨fun w1 => ⟨fun w2 => ⟨fun w3 => ?_, fun w3 => ?_⟩, fun w2 => ?_⟩, fun w1 => ?_⟩⟩⟩
    · have nope : (¬ ∃ i j k, i + k ≤ nd ∧ j + k ≤ ne ∧ x2 = nI i ∧ x4 = nI j ∧ x5 = nI k) → q_X6_copy M (nI d) x2 (nI e) x4 x5 (fun r2 M2 => (-13 : Int32) = r2 ∧ Rel M2) := fun hno => pre _ ⟨fun w => absurd w z, fun _ => ⟨fun w => absurd w z2, fun _ => ⟨fun w => absurd ⟨w1, w2, w3⟩ w, fun _ => ⟨rfl, hno⟩⟩⟩⟩
      refine x_places hnd (d1.trans w1) ds2 (fun hno => b0 (nope (fun q => ?_))) (fun i k hik ei ek => b1 (x_places hne (c1.trans w2) cs2 (fun hno => b0 (nope (fun q => ?_))) (fun j k2 hjk ej ek2 => b1 ?_)))
      · obtain ⟨i, j, k, a1, a2, a3, a4, a5⟩ := q
        exact hno i k a1 a3 a5
      · obtain ⟨i, j, k, a1, a2, a3, a4, a5⟩ := q
        exact hno j k a2 a4 a5
      · have ekk : k2 = k := (nI_eq (by omega) (by omega)).mp (ek2.symm.trans ek)
        subst ekk
        clear ek2
        subst ei ej ek
        have gi : ¬ nI i < 0 := nI_pos (by omega)
        have gj : ¬ nI j < 0 := nI_pos (by omega)
        have gk : ¬ nI k2 < 0 := nI_pos (by omega)
        rw [cl (by omega), cl (by omega), cl (by omega)]
        refine ⟨⟨gi, gj, gk, by omega, by omega⟩, fun M1 e1 => ?_⟩
        rw [show 8 + (14 + d) = 22 + d by omega, show 8 + (14 + e) = 22 + e by omega] at e1
        have f1 : ∀ q, q ≠ 22 + e → M1 q = M q := fun q hq => by rw [e1, va_up_ne _ _ hq]
        have g1 : M1 (22 + e) = va_cpy (M (22 + d)) (M (22 + e)) i j k2 := by rw [e1, va_up_self]
        refine m_shelf_yes hd rfl (b1 (m_shelf_yes hd2 rfl (b1 ⟨vin_d hd, ?_⟩)))
        rw [cl (by omega), cl (by omega), f1 62 (by omega), f1 63 (by omega), f1 64 (by omega), ds1, cs1]
        refine bn z ⟨vin_d hd2, bn z2 (bp w1 (bp w2 (bp w3 (bn gk (bn gi (bn gj (bn ?_ (bp ?_ ?_))))))))⟩
        · rw [nsub (by omega)]; exact nI_nlt (by omega) (by omega)
        · rw [nsub (by omega)]; exact nI_le (by omega) (by omega)
        refine pk_loop (fun n m (s : Mem) => lp_X6_copy_122 (fun r2 M2 => nI k2 = r2 ∧ Rel M2) n s (nI d) (nI i) (nI e) (nI j) (nI k2) (nI m)) (fun m s => (∀ q, q ≠ 65 → s q = M1 q) ∧ (∀ k, k < k2 → (if i ≤ j then k2 - m ≤ k else k < m) → s 65 (100 * e + j + k) = M 65 (100 * d + i + k)) ∧ ∀ q, (∀ k, k < k2 → (if i ≤ j then k2 - m ≤ k else k < m) → q ≠ 100 * e + j + k) → s 65 q = M 65 q) k2 0 M1 (by omega) ⟨fun _ _ => rfl, fun k hk hq => ?_, fun q _ => by rw [f1 65 (by omega)]⟩ (fun n s hs => ?_) (fun n m s hm hs kk => ?_)
        · by_cases w : i ≤ j
          · rw [if_pos w] at hq; omega
          · rw [if_neg w] at hq; omega
        · obtain ⟨s1, s2, s3⟩ := hs
          refine bp (Int32.le_refl _) ⟨rfl, ?_⟩
          have s2 : ∀ k, k < k2 → s 65 (100 * e + j + k) = M 65 (100 * d + i + k) := fun k hk => s2 k hk (by by_cases w : i ≤ j <;> simp only [w, if_true, if_false] <;> omega)
          have s3 : ∀ q, (q < 100 * e + j ∨ 100 * e + j + k2 ≤ q) → s 65 q = M 65 q := fun q hq => s3 q (fun k hk _ => by omega)
          refine hR.shelf (fun q hq => by rw [s1 q (by omega), f1 q (by omega)]) (fun d9 hd9 => ?_)
          by_cases ed : d9 = e
          · subst ed
            unfold SH
            rw [s1 (14 + d9) (by omega), s1 62 (by omega), s1 63 (by omega), s1 64 (by omega), s1 66 (by omega), s1 67 (by omega), s1 (22 + d9) (by omega), s1 (30 + d9) (by omega), f1 (14 + d9) (by omega), f1 62 (by omega), f1 63 (by omega), f1 64 (by omega), f1 66 (by omega), f1 67 (by omega), f1 (30 + d9) (by omega), g1]
            refine ⟨c1, c2, c3, ⟨ne, hne, cs1, cs2⟩, fun q hq => ?_, c6⟩
            by_cases w : j ≤ q ∧ q < j + k2
            · rw [pk_cpy_in w.1 w.2]
              have := s2 (q - j) (by omega)
              rw [show 100 * d9 + j + (q - j) = 100 * d9 + q by omega] at this
              rw [this, d5 _ (by omega)]
              congr 1
              omega
            · rw [pk_cpy_out (by omega), s3 _ (by omega)]
              exact c5 q hq
          · refine (hR.2.2 d9 hd9).other (by rw [s1 _ (by omega), f1 _ (by omega)]) (fun q _ => by rw [s1 _ (by omega), f1 _ (by omega)]) (by rw [s1 _ (by omega), f1 _ (by omega)]) (by rw [s1 _ (by omega), f1 _ (by omega)]) (by rw [s1 _ (by omega), f1 _ (by omega)]) (by rw [s1 _ (by omega), f1 _ (by omega)]) (fun q hq => s3 _ (by omega)) (by rw [s1 _ (by omega), f1 _ (by omega)]) (by rw [s1 _ (by omega), f1 _ (by omega)])
        · obtain ⟨s1, s2, s3⟩ := hs
          have ea : ∀ p q r : Nat, ((100 : Int32) * nI p + nI q) + nI r = nI (100 * p + q + r) := fun p q r => by rw [ix_e, nI_add]
          have step : ∀ y : Nat, y < k2 → (i ≤ j → y = k2 - 1 - m) → (¬ i ≤ j → y = m) → vp_in (100 * nI d + nI i + nI y) 800 ∧ vp_in (100 * nI e + nI j + nI y) 800 ∧ ∀ M3, M3 = mup s 65 (100 * nI e + nI j + nI y).toNatClampNeg (s 65 (100 * nI d + nI i + nI y).toNatClampNeg) → lp_X6_copy_122 (fun r2 M2 => nI k2 = r2 ∧ Rel M2) n M3 (nI d) (nI i) (nI e) (nI j) (nI k2) (nI m + 1) := fun y hy y1 y2 => by
            rw [ea, ea, cl (by omega), cl (by omega)]
            refine ⟨nI_in (by omega) (by omega), nI_in (by omega) (by omega), fun M3 e3 => ?_⟩
            rw [nI_1]
            have src : s 65 (100 * d + i + y) = M 65 (100 * d + i + y) := s3 _ (fun k hk hq => by
              by_cases w : i ≤ j
              · rw [if_pos w] at hq
                have := y1 w
                by_cases de : d = e
                · subst de; omega
                · omega
              · rw [if_neg w] at hq
                have := y2 w
                by_cases de : d = e
                · subst de; omega
                · omega)
            rw [src] at e3
            refine kk M3 ⟨fun q hq => by rw [e3, mup_ne _ _ _ hq, s1 q hq], fun k hk hq => ?_, fun q hq => ?_⟩
            · rw [e3, mup_eq]
              by_cases w : k = y
              · subst w; rw [if_pos ⟨rfl, rfl⟩]
              · rw [if_neg (by omega)]
                refine s2 k hk ?_
                by_cases w2 : i ≤ j
                · rw [if_pos w2] at hq ⊢
                  have := y1 w2
                  omega
                · rw [if_neg w2] at hq ⊢
                  have := y2 w2
                  omega
            · have hy9 := hq y hy (by
                by_cases w2 : i ≤ j
                · rw [if_pos w2]; have := y1 w2; omega
                · rw [if_neg w2]; have := y2 w2; omega)
              rw [e3, mup_eq, if_neg (by omega)]
              refine s3 q (fun k hk hq2 => hq k hk ?_)
              by_cases w2 : i ≤ j
              · rw [if_pos w2] at hq2 ⊢; omega
              · rw [if_neg w2] at hq2 ⊢; omega
          refine bn (nI_ge hm (by omega)) ⟨fun w => ?_, fun w => ?_⟩
          · have w9 : i ≤ j := (nI_leI (by omega) (by omega)).mp w
            have ey : nI k2 - 1 - nI m = nI (k2 - 1 - m) := by
              rw [show (1 : Int32) = nI 1 from rfl, nsub (by omega), nsub (by omega)]
            unfold j_X6_copy_147
            rw [ey]
            exact step (k2 - 1 - m) (by omega) (fun _ => rfl) (fun q => absurd w9 q)
          · have w9 : ¬ i ≤ j := fun q => w (nI_le q (by omega))
            exact step m hm (fun q => absurd q w9) (fun _ => rfl)
    · exact pre _ ⟨fun w => absurd w z, fun _ => ⟨fun w => absurd w z2, fun _ => ⟨fun _ => rfl, fun q => absurd q.2.2 w3⟩⟩⟩
    · exact pre _ ⟨fun w => absurd w z, fun _ => ⟨fun w => absurd w z2, fun _ => ⟨fun _ => rfl, fun q => absurd q.2.1 w2⟩⟩⟩
    · exact pre _ ⟨fun w => absurd w z, fun _ => ⟨fun w => absurd w z2, fun _ => ⟨fun _ => rfl, fun q => absurd q.1 w1⟩⟩⟩
theorem sB_s (b : Nat → Bool) (g : Nat → Int32) (n : Nat) : sB b g (n + 1) = if b n then sB b g n + g n else sB b g n := rfl
theorem sB_one {g : Nat → Int32} {q : Nat} : ∀ {n : Nat}, (∀ p, p < n → g p = if p = q then 1 else 0) → sB al g n = if q < n then 1 else 0
  | 0, _ => by rw [if_neg (by omega)]; rfl
  | n + 1, h => by
    rw [sB_s, if_pos rfl, sB_one (n := n) (fun p hp => h p (by omega)), h n (by omega)]
    by_cases e : n = q
    · rw [if_pos e, if_neg (by omega), if_pos (by omega)]; rfl
    · rw [if_neg e]
      by_cases e2 : q < n
      · rw [if_pos e2, if_pos (by omega)]; rfl
      · rw [if_neg e2, if_neg (by omega)]; rfl
theorem m_cnt {M : Mem} {c : Nat} {x : Int32} {post : Int32 → Mem → Prop} (hc : M 58 0 = nI c) (hb : c ≤ 6) (k : post (sB al (fun p => M 58 (12 + 6 * p + (if x = 1 then 4 else 3))) c) M) : j_X6_count_43 post M x 0 := by
  refine lo2 (fun n i (s : Mem) (a : Int32) => lp_X6_count_45 post n s x a (nI i)) (fun i s a => s = M ∧ a = sB al (fun p => M 58 (12 + 6 * p + (if x = 1 then 4 else 3))) i) c 0 M 0 (by omega) ⟨rfl, rfl⟩ (fun n s a hs => ?_) (fun n i s a hi hs kk => ?_)
  · obtain ⟨rfl, rfl⟩ := hs
    unfold lp_X6_count_45 b_X6_count_45
    rw [hc]
    exact bp (Int32.le_refl _) k
  · obtain ⟨rfl, rfl⟩ := hs
    unfold lp_X6_count_45 b_X6_count_45 j_X6_count_68
    rw [hc]
    refine bn (nI_ge hi (by omega)) ⟨fun z => m_get i 4 rfl rfl (by omega) (by omega) ?_, fun z => m_get i 3 rfl rfl (by omega) (by omega) ?_⟩
    · rw [nI_1]
      exact kk s _ ⟨rfl, by rw [sB_s, if_pos rfl, if_pos z]⟩
    · rw [nI_1]
      exact kk s _ ⟨rfl, by rw [sB_s, if_pos rfl, if_neg z]⟩
theorem e_count : lh_31 Rel := by
  intro M x hR
  obtain ⟨c, hS, hT⟩ := hR.of
  have hc := hS.1
  have key : ∀ r, (x = 0 → r = M 58 0) → (x = 1 → r = sB al (fun p => M 58 (12 + 6 * p + 4)) c) → (x = 2 → r = M 58 1) → (x = 3 → r = M 58 2) → (x = 4 → r = sB al (fun p => M 58 (12 + 6 * p + 3)) c) → (¬ x = 0 → ¬ x = 1 → ¬ x = 2 → ¬ x = 3 → ¬ x = 4 → r = -1) → q_X6_count M x (fun r2 M2 => r = r2 ∧ Rel M2) := fun r g0 g1 g2 g3 g4 g5 => by
    refine ⟨fun z => ⟨g0 z, hR⟩, fun z0 => ⟨fun z => m_cnt hS.2.1 hS.1 ?_, fun z1 => ⟨fun z => ⟨g2 z, hR⟩, fun z2 => ⟨fun z => ⟨g3 z, hR⟩, fun z3 => ⟨fun z => m_cnt hS.2.1 hS.1 ?_, fun z4 => ⟨g5 z0 z1 z2 z3 z4, hR⟩⟩⟩⟩⟩⟩
    · rw [if_pos z]; exact ⟨g1 z, hR⟩
    · rw [if_neg z1]; exact ⟨g4 z, hR⟩
  have hpt : ∀ r, (M 1 7 = -4 → r = 0) → (¬ M 1 7 = -4 → r = 1) → r = sB al (fun p => M 58 (12 + 6 * p + 4)) c := fun r g0 g1 => by
    rcases hT.2.2.2 with ⟨a, b⟩ | ⟨q, a1, a2, a3, a4, a5⟩
    · rw [g0 a, sB_one (q := c) (fun p hp => by rw [b p hp, if_neg (by omega)]), if_neg (by omega)]
    · have n4 : ∀ q, q < 6 → nI q ≠ (-4 : Int32) := by decide
      rw [g1 (by rw [a2]; exact n4 q (by omega)), sB_one (q := q) (fun p hp => ?_), if_pos a1]
      by_cases e : p = q
      · rw [if_pos e, e, a3]
      · rw [if_neg e, a4 p hp e]
  refine ⟨fun z => key _ ?_ ?_ ?_ ?_ ?_ ?_, fun z0 => ⟨fun z => ⟨fun w => key _ ?_ ?_ ?_ ?_ ?_ ?_, fun w => key _ ?_ ?_ ?_ ?_ ?_ ?_⟩, fun z1 => ⟨fun z => key _ ?_ ?_ ?_ ?_ ?_ ?_, fun z2 => ⟨fun z => key _ ?_ ?_ ?_ ?_ ?_ ?_, fun z3 => ⟨fun z => ?_, fun z4 => key _ ?_ ?_ ?_ ?_ ?_ ?_⟩⟩⟩⟩⟩
  all_goals first | (intro w9; first | exact absurd w9 (by rw [z]; decide) | exact absurd (by assumption) w9 | (exfalso; apply w9; assumption) | skip) | skip
  all_goals try (intros; first | (exfalso; contradiction) | rfl | skip)
  all_goals first | exact hT.1.1.trans hS.2.1.symm | exact hpt _ (fun _ => rfl) (fun q => absurd (by assumption) q) | exact hpt _ (fun q => absurd q (by assumption)) (fun _ => rfl) | exact hT.1.2.2.2.1 | exact hT.1.2.2.2.2 | (exfalso; contradiction) | skip
  refine lo2 (fun n i (s : Mem) (a : Int32) => lp_X4_hurtOfAll_4 _ n s 1 a (nI i)) (fun i s a => s = M ∧ a = sB al (fun p => M 58 (12 + 6 * p + 3)) i) c 0 M 0 (by omega) ⟨rfl, rfl⟩ (fun n s a hs => ?_) (fun n i s a hi hs kk => ?_)
  · obtain ⟨rfl, rfl⟩ := hs
    unfold lp_X4_hurtOfAll_4 b_X4_hurtOfAll_4
    rw [hT.1.1]
    refine bp (Int32.le_refl _) (key _ ?_ ?_ ?_ ?_ ?_ ?_)
    all_goals first | (intro w9; exact absurd w9 (by rw [z]; decide)) | exact fun _ => rfl | exact fun _ _ _ _ w => absurd z w
  · obtain ⟨rfl, rfl⟩ := hs
    unfold lp_X4_hurtOfAll_4 b_X4_hurtOfAll_4
    rw [hT.1.1]
    refine bn (nI_ge hi (by omega)) ⟨nI_in (by omega) (by omega), fun v3 e3 => ?_⟩
    have hP := hT.2.2.1 i hi
    rw [cl (by omega), hP.2.2.2.2.1] at e3
    rw [nI_1]
    exact kk s v3 ⟨rfl, by rw [e3, sB_s, if_pos rfl]⟩
