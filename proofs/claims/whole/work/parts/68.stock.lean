/-! PURE: stock -/
-- stock
theorem sh6 : ∀ c, c ≤ 6 → (1 : Int32) <<< (nI c &&& 31) = nI (2 ^ c) ∧ 2 ^ c ≤ 64 ∧ 1 ≤ 2 ^ c := by decide
def okB (S : Nat → Int32) (x : Int32) : Nat → Bool
  | 0 => true
  | p + 1 => okB S x p && (!bt x p || decide (S (12 + 6 * p + 4) = 0))
theorem ok_s (S : Nat → Int32) (x : Int32) (p : Nat) : okB S x (p + 1) = (okB S x p && (!bt x p || decide (S (12 + 6 * p + 4) = 0))) := rfl
theorem ok_mono {S : Nat → Int32} {x : Int32} {i : Nat} (h : okB S x i = false) : ∀ n, okB S x (i + n) = false
  | 0 => h
  | n + 1 => by rw [show i + (n + 1) = (i + n) + 1 by omega, ok_s, ok_mono h n]; rfl
def stF (S : Nat → Int32) (c L : Nat) (most : Int32) : Nat → Int32 × Int32
  | 0 => (-4, -4)
  | b + 1 => if b = 0 then (-4, -4) else if okB S (nI b) c = false then stF S c L most b else if ¬ sF S (bt (nI b)) c ≤ most then stF S c L most b
    else if (stF S c L most b).1 = -4 ∨ mxP (PL (sF S (bt (nI b)) c) (sH S (bt (nI b)) c) (gvR (sG S (bt (nI b)) c)) (S 5) (nI L) (S 7)) L < (stF S c L most b).2 then (nI b, mxP (PL (sF S (bt (nI b)) c) (sH S (bt (nI b)) c) (gvR (sG S (bt (nI b)) c)) (S 5) (nI L) (S 7)) L) else stF S c L most b
theorem st_s (S : Nat → Int32) (c L : Nat) (most : Int32) {b : Nat} (hb : 1 ≤ b) : stF S c L most (b + 1) = if okB S (nI b) c = false then stF S c L most b else if ¬ sF S (bt (nI b)) c ≤ most then stF S c L most b
    else if (stF S c L most b).1 = -4 ∨ mxP (PL (sF S (bt (nI b)) c) (sH S (bt (nI b)) c) (gvR (sG S (bt (nI b)) c)) (S 5) (nI L) (S 7)) L < (stF S c L most b).2 then (nI b, mxP (PL (sF S (bt (nI b)) c) (sH S (bt (nI b)) c) (gvR (sG S (bt (nI b)) c)) (S 5) (nI L) (S 7)) L) else stF S c L most b := by
  conv => lhs; unfold stF
  rw [if_neg (by omega)]
theorem st_r (S : Nat → Int32) (c L : Nat) (most : Int32) : ∀ b, b ≤ 64 → stF S c L most b = (-4, -4) ∨ (0 ≤ (stF S c L most b).1 ∧ ¬ (stF S c L most b).1 = -4)
  | 0, _ => Or.inl rfl
  | b + 1, hb => by
    by_cases z : b = 0
    · subst z; exact Or.inl rfl
    · have ih := st_r S c L most b (by omega)
      rw [st_s S c L most (by omega)]
      split
      · exact ih
      · split
        · exact ih
        · split
          · refine Or.inr ⟨nI_pos' (by omega), fun q => ?_⟩
            have h0 := nI_pos' (n := b) (by omega)
            rw [show nI b = (-4 : Int32) from q] at h0
            exact absurd h0 (by decide)
          · exact ih
theorem x_layStock {M : Mem} {S : Nat → Int32} {c b : Nat} {post : Int32 → Mem → Prop} (hT : TW M 1 S c) (hc : c ≤ 6) (h0 : okB S (nI b) c = false → ∀ M1, (∀ j, j ≠ 4 → M1 j = M j) → post 0 M1) (h1 : okB S (nI b) c = true → ∀ M1, (∀ j, j ≠ 4 → M1 j = M j) → LN M1 (sF S (bt (nI b)) c) (sH S (bt (nI b)) c) (sG S (bt (nI b)) c) (S 5) (S 6) (S 7) → post 1 M1) : q_X5_layStock M (nI b) post := by
  have hpt : ∀ p, p < c → (M 1 7 = nI p ↔ ¬ S (12 + 6 * p + 4) = 0) := fun p hp => by
    have n4 : ∀ q, q < 6 → (-4 : Int32) ≠ nI q := by decide
    rcases hT.2.2.2 with ⟨a, b⟩ | ⟨q, a1, a2, a3, a4, a5⟩
    · rw [a]; exact ⟨fun z => absurd z (n4 p (by omega)), fun z => absurd (b p hp) z⟩
    · rw [a2, nI_eq (by omega) (by omega)]
      constructor
      · intro z; subst z; rw [a3]; decide
      · intro z
        apply Classical.byContradiction
        intro w
        exact z (a4 p hp (fun v => w v.symm))
  refine x_begin hT (fun M1 e1 l1 => ?_)
  refine pk_loop (fun n i (s : Mem) => lp_X5_layStock_13 post n s (nI b) (nI i)) (fun i s => (∀ j, j ≠ 4 → s j = M j) ∧ okB S (nI b) i = true ∧ LN s (sF S (bt (nI b)) i) (sH S (bt (nI b)) i) (sG S (bt (nI b)) i) (S 5) (S 6) (S 7)) c 0 M1 (by omega) ⟨e1, rfl, l1⟩ (fun n s hs => ?_) (fun n i s hi hs kk => ?_)
  · unfold lp_X5_layStock_13 b_X5_layStock_13
    rw [hs.1 1 (by omega), hT.1.1]
    exact bp (Int32.le_refl _) (h1 hs.2.1 s hs.1 hs.2.2)
  · obtain ⟨s1, s2, s3⟩ := hs
    unfold lp_X5_layStock_13 b_X5_layStock_13 j_X5_layStock_76
    rw [s1 1 (by omega), hT.1.1]
    refine bn (nI_ge hi (by omega)) ⟨fun z => ?_, fun z => ⟨fun z2 => ?_, fun z2 => ⟨nI_in (by omega) (by omega), ?_⟩⟩⟩
    · have hbt : bt (nI b) i = false := by unfold bt; rw [decide_eq_true z]; rfl
      rw [nI_1]
      refine kk s ⟨s1, by rw [ok_s, s2, hbt]; rfl, ?_⟩
      unfold sF sH sG
      rw [sB_s, sB_s, sB_s, hbt]
      exact s3
    · have hbt : bt (nI b) i = true := by unfold bt; rw [decide_eq_false z]; rfl
      have hne := (hpt i hi).mp z2
      have hfalse : okB S (nI b) (i + 1) = false := by rw [ok_s, s2, hbt, decide_eq_false hne]; rfl
      have := ok_mono hfalse (c - (i + 1))
      rw [show i + 1 + (c - (i + 1)) = c by omega] at this
      exact h0 this s s1
    · have hbt : bt (nI b) i = true := by unfold bt; rw [decide_eq_false z]; rfl
      have heq : S (12 + 6 * i + 4) = 0 := Classical.byContradiction (fun v => z2 ((hpt i hi).mpr v))
      rw [cl (by omega), s1 (38 + i) (by omega)]
      have hp := hT.2.2.1 i hi
      rw [show 32 + 6 * 1 + i = 38 + i by omega] at hp
      refine x_add s3 (by omega) (fun M2 e2 l2 => ?_)
      rw [nI_1]
      refine kk M2 ⟨fun j hj => (e2 j hj).trans (s1 j hj), by rw [ok_s, s2, hbt, decide_eq_true heq]; rfl, ?_⟩
      rw [s1 (38 + i) (by omega), hp.2.2.1, hp.2.2.2.2.2.1, hp.2.2.2.2.2.2.1] at l2
      unfold sF sH sG
      rw [sB_s, sB_s, sB_s, if_pos hbt, if_pos hbt, if_pos hbt]
      exact l2
theorem e_stock : lh_11 Rel := by
  intro M x y hR
  obtain ⟨c, hS, hT⟩ := hR.of
  have hI := Rel.mi hS hT
  have hc := hS.1
  obtain ⟨L, h4, hL, eL⟩ := hS.len
  obtain ⟨esh, h64, h1c⟩ := sh6 c hc
  have n4 : ∀ q, q < 100 → ¬ nI q = (-4 : Int32) := by decide
  refine x_in 1 999 rfl rfl (by omega) (by omega) (fun hno => b0 ?_) (fun n h1 h2 e => b1 (x_in 0 1 rfl rfl (by omega) (by omega) (fun hno => b0 ?_) (fun w _ hw ew => b1 ?_)))
  · exact m_no 1 999 rfl rfl (by omega) (by omega) hno (b0 ⟨rfl, hR⟩)
  · exact m_yes 1 999 n e rfl rfl ⟨h1, h2⟩ (by omega) (b1 (m_no 0 1 rfl rfl (by omega) (by omega) hno (b0 ⟨rfl, hR⟩)))
  · have hpos := fun b => hS.pos b eL h4 hL
    have mm : ∀ M2, FrC M M2 → ∀ r, (y = 0 → r = (stF (M 58) c L x (2 ^ c)).1) → (¬ y = 0 → r = (stF (M 58) c L x (2 ^ c)).2) → q_X6_stock M2 x y (fun r2 M3 => r = r2 ∧ Rel M3) := fun M2 F r g0 g1 => by
      have e2 := F.e58
      refine m_yes 1 999 n e rfl rfl ⟨h1, h2⟩ (by omega) (b1 (m_yes 0 1 w ew rfl rfl (by omega) (by omega) (b1 ?_)))
      refine lo3 (fun m i (s : Mem) (a b : Int32) => lp_X6_stock_33 (fun r2 M3 => r = r2 ∧ Rel M3) m s x y a b (nI i)) (fun i s a b => 1 ≤ i ∧ Kq M2 s ∧ a = (stF (M 58) c L x i).1 ∧ (0 ≤ a → b = (stF (M 58) c L x i).2)) (2 ^ c) 1 M2 (-4) 0 (by omega) ⟨by omega, Kq.rf, rfl, fun z => absurd z (by decide)⟩ (fun m s a b hs => ?_) (fun m i s a b hi hs kk => ?_)
      · obtain ⟨-, s1, ea, s3⟩ := hs
        unfold lp_X6_stock_33 b_X6_stock_33 q_X6_allPieces
        rw [s1.1 58 (by omega), e2, hS.2.1, esh, show (1 : Int32) = nI 1 from rfl, nsub h1c]
        refine bp (nI_lt (by omega) (by omega)) ?_
        have hR3 := (hR.frC F).frM s1.frM
        rcases st_r (M 58) c L x (2 ^ c) h64 with h | ⟨h, h'⟩
        · rw [h] at ea g0 g1
          dsimp only at ea g0 g1
          subst ea
          refine bn (by decide) ⟨?_, hR3⟩
          by_cases v : y = 0
          · exact g0 v
          · exact g1 v
        · have ha : 0 ≤ a := by rw [ea]; exact h
          refine bp ha ⟨fun v => ⟨by rw [g0 v, ea], hR3⟩, fun v => ⟨by rw [g1 v, s3 ha], hR3⟩⟩
      · obtain ⟨hi1, s1, ea, s3⟩ := hs
        have es : s 58 = M 58 := (s1.1 58 (by omega)).trans e2
        unfold lp_X6_stock_33 b_X6_stock_33 q_X6_allPieces
        rw [es, hS.2.1, esh, show (1 : Int32) = nI 1 from rfl, nsub h1c]
        refine bn (nI_nlt (by omega) (by omega)) ?_
        refine lo2 (fun m2 j (t : Mem) (u : Int32) => lp_X6_stock_48 (lp_X6_stock_33 (fun r2 M3 => r = r2 ∧ Rel M3) m) (fun r2 M3 => r = r2 ∧ Rel M3) m2 t x y a b (nI i) u (nI j)) (fun j t u => t = s ∧ u = if okB (M 58) (nI i) j then 1 else 0) c 0 s 1 (by omega) ⟨rfl, rfl⟩ (fun m2 t u ht => ?_) (fun m2 j t u hj ht kk2 => ?_)
        · obtain ⟨rfl, rfl⟩ := ht
          unfold lp_X6_stock_48 b_X6_stock_48 j_X6_stock_142 j_X6_stock_149
          rw [es, hS.2.1]
          refine bp (Int32.le_refl _) ?_
          rw [nI_1]
          have hst := st_s (M 58) c L x hi1
          cases hok : okB (M 58) (nI i) c with
          | false =>
            rw [hok, if_pos rfl] at hst
            exact bp (by rfl) (kk t _ _ ⟨by omega, s1, by rw [hst]; exact ea, fun v => by rw [hst]; exact s3 v⟩)
          | true =>
            rw [hok, if_neg (by decide)] at hst
            refine bn (by rw [if_pos rfl]; decide) (m_sums (by rw [es]; exact hS.2.1) hc (fun M4 k4 n4' => ?_))
            rw [es] at n4'
            have e4 : M4 58 = M 58 := (k4.1 58 (by omega)).trans es
            rw [n4'.1]
            refine ⟨fun v => m_great n4' (by rw [e4]; exact hS.mo) (hS.gn _) (by rw [e4]; exact eL) hL (by rw [e4]; exact hpos _) (by omega) (fun M7 k7 _ _ _ => ?_), fun v => ?_⟩
            · rw [e4]
              rw [if_neg (fun u => u v)] at hst
              have k9 := (s1.tr k4).tr k7
              rcases st_r (M 58) c L x i (by omega) with h | ⟨h, h'⟩
              · rw [if_pos (Or.inl (by rw [h]))] at hst
                refine bp (by rw [ea, h]; decide) (kk M7 _ _ ⟨by omega, k9, by rw [hst], fun _ => by rw [hst]⟩)
              · have ha : 0 ≤ a := by rw [ea]; exact h
                refine bn (nlt_le.mpr ha) ⟨fun u => ?_, fun u => ?_⟩
                · rw [s3 ha] at u
                  rw [if_pos (Or.inr u)] at hst
                  exact kk M7 _ _ ⟨by omega, k9, by rw [hst], fun _ => by rw [hst]⟩
                · rw [s3 ha] at u
                  rw [if_neg (fun q => q.elim h' u)] at hst
                  exact kk M7 _ _ ⟨by omega, k9, by rw [hst]; exact ea, fun v => by rw [hst]; exact s3 v⟩
            · rw [if_pos v] at hst
              exact kk M4 _ _ ⟨by omega, s1.tr k4, by rw [hst]; exact ea, fun v => by rw [hst]; exact s3 v⟩
        · obtain ⟨rfl, rfl⟩ := ht
          unfold lp_X6_stock_48 b_X6_stock_48 j_X6_stock_88 j_X6_stock_84 j_X6_stock_89
          rw [es, hS.2.1]
          refine bn (nI_ge hj (by omega)) ?_
          rw [nI_1]
          cases hok : okB (M 58) (nI i) j with
          | false => exact bp (by rfl) (kk2 t _ ⟨rfl, by rw [ok_s, hok]; rfl⟩)
          | true =>
            refine bn (by rw [if_pos rfl]; decide) ⟨fun v => ?_, fun v => m_get j 4 rfl rfl (by omega) (by omega) ?_⟩
            · have hbt : bt (nI i) j = false := by unfold bt; rw [decide_eq_true v]; rfl
              exact kk2 t _ ⟨rfl, by rw [ok_s, hok, hbt]; rfl⟩
            · have hbt : bt (nI i) j = true := by unfold bt; rw [decide_eq_false v]; rfl
              rw [es]
              refine ⟨fun u => kk2 t _ ⟨rfl, by rw [ok_s, hok, hbt, decide_eq_true u]; rfl⟩, fun u => kk2 t _ ⟨rfl, by rw [ok_s, hok, hbt, decide_eq_false u]; rfl⟩⟩
    refine lo3 (fun m i (s : Mem) (a b : Int32) => lp_X5_stock_32 (fun r M1 => q_X6_stock M1 x y (fun r2 M2 => r = r2 ∧ Rel M2)) m s x y a b (nI i)) (fun i s a b => 1 ≤ i ∧ (∀ j, j ≠ 4 → s j = M j) ∧ a = (stF (M 58) c L x i).1 ∧ b = (stF (M 58) c L x i).2) (2 ^ c) 1 M (-4) (-4) (by omega) ⟨by omega, fun _ _ => rfl, rfl, rfl⟩ (fun m s a b hs => ?_) (fun m i s a b hi hs kk => ?_)
    · obtain ⟨-, s1, rfl, rfl⟩ := hs
      unfold lp_X5_stock_32 b_X5_stock_32
      rw [s1 1 (by omega), hT.1.1, esh]
      exact bp (Int32.le_refl _) ⟨fun v => mm s (FrC.of4 s1) _ (fun _ => rfl) (fun u => absurd v u), fun v => mm s (FrC.of4 s1) _ (fun u => absurd u v) (fun _ => rfl)⟩
    · obtain ⟨hi1, s1, rfl, rfl⟩ := hs
      unfold lp_X5_stock_32 b_X5_stock_32 j_X5_stock_91 j_X5_stock_98
      rw [s1 1 (by omega), hT.1.1, esh]
      have hTs : TW s 1 (M 58) c := hT.frC hc (FrC.of4 s1)
      have hst := st_s (M 58) c L x hi1
      refine bn (nI_ge hi (by omega)) (x_layStock hTs hc (fun hok M1 f1 => b0 ?_) (fun hok M1 f1 n1 => b1 ?_))
      · rw [hok, if_pos rfl] at hst
        rw [nI_1]
        exact kk M1 _ _ ⟨by omega, fun j hj => (f1 j hj).trans (s1 j hj), by rw [hst], by rw [hst]⟩
      · rw [hok, if_neg (by decide)] at hst
        have g1 : ∀ j, j ≠ 4 → M1 j = M j := fun j hj => (f1 j hj).trans (s1 j hj)
        rw [n1.1, nI_1]
        refine ⟨fun v => ?_, fun v => ?_⟩
        · rw [if_neg (fun u => u v)] at hst
          have ho := hS.lo (bt (nI i))
          have n1' := n1
          rw [eL] at n1' ho
          refine l_great n1' ho hL ⟨fun u => ?_, fun u => ⟨fun u2 => ?_, fun u2 => ?_⟩⟩
          · rw [if_pos (Or.inl u)] at hst
            exact kk M1 _ _ ⟨by omega, g1, by rw [hst], by rw [hst]⟩
          · rw [if_neg (fun q => q.elim u (nlt_le.mpr u2))] at hst
            exact kk M1 _ _ ⟨by omega, g1, by rw [hst], by rw [hst]⟩
          · rw [if_pos (Or.inr (nle_lt.mp u2))] at hst
            exact kk M1 _ _ ⟨by omega, g1, by rw [hst], by rw [hst]⟩
        · rw [if_pos v] at hst
          exact kk M1 _ _ ⟨by omega, g1, by rw [hst], by rw [hst]⟩
