/-! PURE: caravan, judge, set, shallowest; tows that become others; images -/
def hwF (x : Int32) : Int32 := if x ≤ 999 then (if (-999) ≤ x then x else -999) else 999
theorem m_held {M : Mem} {x : Int32} {post : Int32 → Mem → Prop} (h : post (hwF x) M) : q_X6_within M x 999 post := by
  unfold hwF at h
  unfold q_X6_within j_X6_within_21
  have e : -(999 : Int32) = (-999 : Int32) := by decide
  rw [e]
  refine ⟨fun c => ⟨fun c2 => ?_, fun c2 => ?_⟩, fun c => ?_⟩
  · rw [if_pos c, if_pos c2] at h; exact h
  · rw [if_pos c, if_neg c2] at h; exact h
  · rw [if_neg c] at h; exact h
theorem hw_eq (x : Int32) : (if (-999 : Int32) < (if x < 999 then x else 999) then (if x < 999 then x else 999) else -999) = hwF x := by
  unfold hwF
  grind
theorem x_held {M : Mem} {x : Int32} {post : Int32 → Mem → Prop} (h : post (hwF x) M) : q_X5_heldWithin M x (-999) 999 post := by
  unfold q_X5_heldWithin
  rw [hw_eq]
  exact h
def cvF (a p : Int32) : Nat → Int32
  | 0 => a
  | n + 1 => hwF (cvF a p n * (p + 8) / 10)
theorem cvF_s (a p : Int32) (n : Nat) : cvF a p (n + 1) = hwF (cvF a p n * (p + 8) / 10) := rfl
theorem e_caravan : lh_27 Rel := by
  intro M x hR
  obtain ⟨c, hS, hT⟩ := hR.of
  refine x_in 1 9 rfl rfl (by omega) (by omega) (fun hno => b0 ?_) (fun n h1 h2 e => b1 ?_)
  · exact m_no 1 9 rfl rfl (by omega) (by omega) hno (b0 ⟨rfl, hR⟩)
  · subst e
    have e3 : M 1 3 = M 58 3 := hT.1.2.1
    have e4 : M 11 4 = M 58 9 := hT.2.1 4 (by omega)
    have mm : q_X6_caravan M (nI n) (fun r2 M2 => cvF (M 58 3) (M 58 9) (n - 1) = r2 ∧ Rel M2) := by
      refine m_yes 1 9 n rfl rfl rfl (by omega) (by omega) (b1 ?_)
      refine lo2 (fun k i (s : Mem) (a : Int32) => lp_X6_caravan_24 (fun r2 M2 => cvF (M 58 3) (M 58 9) (n - 1) = r2 ∧ Rel M2) k s (nI n) a (nI i)) (fun i s a => 1 ≤ i ∧ s = M ∧ a = cvF (M 58 3) (M 58 9) (i - 1)) n 1 M (M 58 3) (by omega) ⟨by omega, rfl, rfl⟩ (fun k s a hs => ?_) (fun k i s a hi hs kk => ?_)
      · obtain ⟨z, rfl, rfl⟩ := hs
        exact bp (Int32.le_refl _) ⟨rfl, hR⟩
      · obtain ⟨z, rfl, rfl⟩ := hs
        refine bn (nI_ge hi (by omega)) (m_held ?_)
        rw [nI_1]
        refine kk s _ ⟨by omega, rfl, ?_⟩
        rw [show i + 1 - 1 = (i - 1) + 1 by omega, cvF_s]
    rw [e3]
    refine lo2 (fun k i (s : Mem) (a : Int32) => lp_X5_caravan_23 (fun r M1 => q_X6_caravan M1 (nI n) (fun r2 M2 => r = r2 ∧ Rel M2)) k s (nI n) a (nI i)) (fun i s a => 1 ≤ i ∧ s = M ∧ a = cvF (M 58 3) (M 58 9) (i - 1)) n 1 M (M 58 3) (by omega) ⟨by omega, rfl, rfl⟩ (fun k s a hs => ?_) (fun k i s a hi hs kk => ?_)
    · obtain ⟨z, rfl, rfl⟩ := hs
      exact bp (Int32.le_refl _) mm
    · obtain ⟨z, rfl, rfl⟩ := hs
      refine bn (nI_ge hi (by omega)) (x_held ?_)
      rw [nI_1, e4]
      refine kk s _ ⟨by omega, rfl, ?_⟩
      rw [show i + 1 - 1 = (i - 1) + 1 by omega, cvF_s]
def lsF (s : Int32) : Int32 := if s = 0 then -128 else if s = 1 then -32768 else -2147483648
def jd (el P : Nat → Int32) (ls : Int32) : Nat → Nat → Int32
  | 0, _ => -4
  | k + 1, t => if el t = ls ∨ el t = P t then jd el P ls k (t + 1) else nI t
theorem jd_s (el P : Nat → Int32) (ls : Int32) {n i : Nat} (h : i < n) : jd el P ls (n - i) i = if el i = ls ∨ el i = P i then jd el P ls (n - (i + 1)) (i + 1) else nI i := by
  rw [show n - i = (n - (i + 1)) + 1 by omega]
  rfl
theorem jd_z (el P : Nat → Int32) (ls : Int32) {n : Nat} : jd el P ls (n - n) n = -4 := by
  rw [Nat.sub_self]
  rfl
theorem m_leastNumber {M : Mem} {d : Nat} {post : Int32 → Mem → Prop} (hd : d < 8) (h : post (lsF (M 63 d)) M) : q_X6_leastNumber M (nI d) post := by
  refine ⟨vin_d hd, ?_⟩
  rw [cl (by omega)]
  unfold lsF at h
  refine ⟨fun z => ?_, fun z => ⟨fun z2 => ?_, fun z2 => ?_⟩⟩
  · rw [if_pos z] at h; exact h
  · rw [if_neg z, if_pos z2] at h; exact h
  · rw [if_neg z, if_neg z2] at h; exact h
theorem x_leastOfSort {M : Mem} {a : Nat} {post : Int32 → Mem → Prop} (h : post (lsF (M a 2)) M) : q_X3_leastOfSort M a post := by
  unfold lsF at h
  refine ⟨fun z => ?_, fun z => ⟨fun z2 => ?_, fun z2 => ?_⟩⟩
  · rw [if_pos z] at h; exact h
  · rw [if_neg z, if_pos z2] at h; exact h
  · rw [if_neg z, if_neg z2] at h; exact h
theorem e_judge : lh_28 Rel := by
  intro M x hR
  obtain ⟨c, hS, hT⟩ := hR.of
  have hI := Rel.mi hS hT
  unfold q_X5_judge q_X5_refusalOfRow
  refine x_holding (fun hno => ?_) (fun d hd e => ?_)
  · refine bn (by decide) (m_wrongRow_no hno (bn (by decide) (bn (by decide) ⟨rfl, hR⟩)))
  · obtain ⟨d1, d2, d3, ⟨n, hn, ds1, ds2⟩, d5, d6⟩ := hR.2.2 d hd
    subst e
    rw [d1]
    refine ⟨fun z => bn (by decide) ?_, fun z z2 => bp (by decide) (x_lnq hT hS.1 (fun hn => ?_) (fun hl M1 f1 n1 => ?_)), fun z z2 => bn (by decide) ?_⟩
    · exact m_wrongRow hd (fun _ => bn (by decide) (bn (by decide) ⟨rfl, hR⟩)) (fun w => absurd z w) (fun w => absurd z w)
    · exact m_wrongRow hd (fun w => absurd w z) (fun _ _ _ => b0 (m_isLine hI.1.2.1 hI.1.1 hI.2 (fun _ => b0 (bn (by decide) ⟨rfl, hR⟩)) (fun w => absurd w hn))) (fun _ w => absurd (by decide) (w z2).1)
    · have f := FrC.of4 f1
      refine ⟨vin_d hd, ?_⟩
      rw [cl (by omega)]
      refine x_leastOfSort ?_
      rw [f1 (14 + d) (by omega), d3]
      have hM : q_X6_judge M1 (nI d) (fun r2 M2 => jd (fun i => M 65 (100 * d + i)) (PLS (M 58) al c) (lsF (M 63 d)) (n - 0) 0 = r2 ∧ Rel M2) := by
        have f62 := f1 62 (by omega)
        have hI1 := hI.frC f
        refine m_wrongRow hd (fun w => absurd w (by rw [f62]; exact z)) (fun _ _ _ => b0 (m_isLine hI1.1.2.1 hI1.1.1 hI1.2 (fun w => absurd (by rw [f.e58]; exact hl) w) (fun _ => b1 (b0 (m_sumsAll hI1.1.2.1 hI1.1.1 (fun M2 k2 n2 => ?_)))))) (fun _ w => absurd (by decide) (w (by rw [f62]; exact z2)).1)
        rw [f.e58] at n2
        have e2 : ∀ M3, Kq M2 M3 → M3 58 = M 58 ∧ M3 63 = M 63 ∧ M3 64 = M 64 ∧ M3 65 = M 65 := fun M3 k3 => by
          refine ⟨?_, ?_, ?_, ?_⟩ <;> rw [k3.1 _ (by omega), k2.1 _ (by omega), f1 _ (by omega)]
        refine pk_loop (fun k i (s : Mem) => lp_X6_judge_37 (fun r2 M2 => jd (fun i => M 65 (100 * d + i)) (PLS (M 58) al c) (lsF (M 63 d)) (n - 0) 0 = r2 ∧ Rel M2) k s (nI d) (nI i)) (fun i s => Kq M2 s ∧ LM s (sF (M 58) al c) (sH (M 58) al c) (gvR (sG (M 58) al c)) ∧ jd (fun i => M 65 (100 * d + i)) (PLS (M 58) al c) (lsF (M 63 d)) (n - 0) 0 = jd (fun i => M 65 (100 * d + i)) (PLS (M 58) al c) (lsF (M 63 d)) (n - i) i) n 0 M2 (by omega) ⟨Kq.rf, n2, rfl⟩ (fun k s hs => ?_) (fun k i s hi hs kk => ?_)
        · obtain ⟨k3, n3, ej⟩ := hs
          obtain ⟨g58, g63, g64, g65⟩ := e2 s k3
          refine ⟨vin_d hd, ?_⟩
          rw [cl (by omega), g64, ds1]
          refine bp (Int32.le_refl _) ⟨by rw [ej, jd_z], (hR.frC f).frM (k2.tr k3).frM⟩
        · obtain ⟨k3, n3, ej⟩ := hs
          obtain ⟨g58, g63, g64, g65⟩ := e2 s k3
          refine ⟨vin_d hd, ?_⟩
          rw [cl (by omega), g64, ds1]
          refine bn (nI_ge hi (by omega)) ?_
          rw [ix_e]
          refine ⟨nI_in (by omega) (by omega), fun v4 e4 => m_leastNumber hd ?_⟩
          rw [cl (by omega), g65] at e4
          rw [g63]
          rw [jd_s _ _ _ hi] at ej
          subst e4
          refine ⟨fun w => ?_, fun w => m_pullK n3 (by rw [g58]; exact hS.mo) (hS.gn al) (fun M4 k4 n4 _ _ => ⟨fun w2 => ?_, fun w2 => ?_⟩)⟩
          · rw [if_pos (Or.inl w)] at ej
            unfold j_X6_judge_88
            rw [nI_1]
            exact kk s ⟨k3, n3, ej⟩
          · rw [g58] at w2
            rw [if_pos (Or.inr (show M 65 (100 * d + i) = PLS (M 58) al c i from w2))] at ej
            unfold j_X6_judge_88
            rw [nI_1]
            exact kk M4 ⟨k3.tr k4, n4, ej⟩
          · rw [g58] at w2
            rw [if_neg (fun q => q.elim w w2)] at ej
            exact ⟨ej, (hR.frC f).frM (k2.tr (k3.tr k4)).frM⟩
      have ho := hS.lo al
      refine pk_loop (fun k i (s : Mem) => lp_X5_judge_38 (fun r M1 => q_X6_judge M1 (nI d) (fun r2 M2 => r = r2 ∧ Rel M2)) k s (14 + d) (lsF (M 63 d)) (nI i)) (fun i s => s = M1 ∧ jd (fun i => M 65 (100 * d + i)) (PLS (M 58) al c) (lsF (M 63 d)) (n - 0) 0 = jd (fun i => M 65 (100 * d + i)) (PLS (M 58) al c) (lsF (M 63 d)) (n - i) i) n 0 M1 (by omega) ⟨rfl, rfl⟩ (fun k s hs => ?_) (fun k i s hi hs kk => ?_)
      · obtain ⟨rfl, ej⟩ := hs
        unfold lp_X5_judge_38 b_X5_judge_38
        rw [f1 (14 + d) (by omega), ds2]
        refine bp (Int32.le_refl _) ?_
        rw [ej, jd_z] at hM
        exact hM
      · obtain ⟨rfl, ej⟩ := hs
        unfold lp_X5_judge_38 b_X5_judge_38 j_X5_judge_80
        rw [f1 (14 + d) (by omega), ds2, cl (by omega), show 8 + (14 + d) = 22 + d by omega, f1 (22 + d) (by omega), d5 i (by omega)]
        rw [jd_s _ _ _ hi] at ej
        refine bn (nI_ge hi (by omega)) ⟨nI_in (by omega) (by omega), fun w => ?_, fun w => l_pull n1 ho ⟨fun w2 => ?_, fun w2 => ?_⟩⟩
        · rw [if_pos (Or.inl w)] at ej
          rw [nI_1]
          exact kk s ⟨rfl, ej⟩
        · rw [if_pos (Or.inr (show M 65 (100 * d + i) = PLS (M 58) al c i from w2))] at ej
          rw [nI_1]
          exact kk s ⟨rfl, ej⟩
        · rw [if_neg (fun q => q.elim w w2)] at ej
          rw [ej] at hM
          exact hM
    · exact m_wrongRow hd (fun w => absurd w z) (fun _ w => absurd w z2) (fun _ _ => bn (by decide) (bn (by decide) ⟨rfl, hR⟩))
-- settings
theorem lo_T : ∀ k, k < 7 → leastT k = nI (loS k) ∧ mostT k = nI (hiS k) ∧ loS k ≤ hiS k ∧ hiS k < 1000 := by decide
theorem x_maySet {M : Mem} {x n : Int32} {post : Int32 → Mem → Prop} (h0 : (∀ k j, k < 7 → x = nI k → loS k ≤ j → j ≤ hiS k → n ≠ nI j) → post 0 M) (h1 : ∀ k j, k < 7 → x = nI k → loS k ≤ j → j ≤ hiS k → n = nI j → post 1 M) : q_X4_maySet M x n post := by
  refine x_in 0 6 rfl rfl (by omega) (by omega) (fun hno => b0 ⟨Or.inl rfl, h0 (fun k j hk e => absurd e (hno k (by omega) (by omega)))⟩) (fun k _ hk e => b1 ?_)
  subst e
  obtain ⟨a, b, c, d⟩ := lo_T k (by omega)
  refine ⟨nI_in (by omega) (by omega), ?_⟩
  rw [cl (by omega), a, b]
  refine x_in (loS k) (hiS k) rfl rfl c (by omega) (fun hno => b0 ⟨Or.inl rfl, h0 (fun k2 j hk2 e hj1 hj2 => ?_)⟩) (fun j hj1 hj2 e => b1 ⟨Or.inr rfl, h1 k j (by omega) rfl hj1 hj2 e⟩)
  have : k = k2 := (nI_eq (by omega) (by omega)).mp e
  subst this
  exact hno j hj1 hj2
theorem m_leastOf {M : Mem} {k : Nat} {post : Int32 → Mem → Prop} (hk : k < 7) (h : post (nI (loS k)) M) : q_X6_leastOf M (nI k) post := by
  rcases (show k = 0 ∨ k = 1 ∨ k = 2 ∨ k = 3 ∨ k = 4 ∨ k = 5 ∨ k = 6 by omega) with rfl | rfl | rfl | rfl | rfl | rfl | rfl
  all_goals first | exact bp (by decide) h | exact bn (by decide) (bp (by decide) h) | exact bn (by decide) (bn (by decide) h)
theorem m_mostOf {M : Mem} {k : Nat} {post : Int32 → Mem → Prop} (hk : k < 7) (h : post (nI (hiS k)) M) : q_X6_mostOf M (nI k) post := by
  rcases (show k = 0 ∨ k = 1 ∨ k = 2 ∨ k = 3 ∨ k = 4 ∨ k = 5 ∨ k = 6 by omega) with rfl | rfl | rfl | rfl | rfl | rfl | rfl
  all_goals first | exact bp (by decide) h | exact bn (by decide) (bp (by decide) h) | exact bn (by decide) (bn (by decide) (bp (by decide) h)) | exact bn (by decide) (bn (by decide) (bn (by decide) h))
theorem SI.set {S : Nat → Int32} {c k j : Nat} (h : SI S c) (hk : k < 7) (h1 : loS k ≤ j) (h2 : j ≤ hiS k) : SI (upd S (5 + k) (nI j)) c := by
  obtain ⟨a1, a2, a3, a4⟩ := h
  refine ⟨a1, by unfold upd; rw [if_neg (by omega)]; exact a2, fun k2 hk2 => ?_, fun p hp => ?_⟩
  · unfold upd
    by_cases e : k2 = k
    · subst e; rw [if_pos rfl]; exact ⟨j, h1, h2, rfl⟩
    · rw [if_neg (by omega)]; exact a3 k2 hk2
  · unfold upd
    rw [if_neg (by omega), if_neg (by omega), if_neg (by omega), if_neg (by omega)]
    exact a4 p hp
theorem TW.setS {M M1 : Mem} {t c k : Nat} {S : Nat → Int32} {v : Int32} (h : TW M t S c) (hk : k < 7) (e1 : M1 t = M t) (e2 : ∀ j, M1 (10 + t) j = if j = k then v else M (10 + t) j) (e3 : ∀ p, p < c → M1 (32 + 6 * t + p) = M (32 + 6 * t + p)) : TW M1 t (upd S (5 + k) v) c := by
  obtain ⟨h1, h2, h3, h4⟩ := h
  have u : ∀ j, j ≠ 5 + k → upd S (5 + k) v j = S j := fun j hj => by unfold upd; rw [if_neg hj]
  refine ⟨by rw [e1, u 3 (by omega), u 4 (by omega), u 1 (by omega), u 2 (by omega)]; exact h1, fun j hj => ?_, fun p hp => ?_, ?_⟩
  · rw [e2]
    by_cases e : j = k
    · subst e; rw [if_pos rfl]; unfold upd; rw [if_pos rfl]
    · rw [if_neg e, u _ (by omega)]; exact h2 j hj
  · unfold PCs
    rw [e3 p hp, u _ (by omega), u _ (by omega), u _ (by omega), u _ (by omega)]
    exact h3 p hp
  · rw [e1]
    rcases h4 with ⟨a, b⟩ | ⟨q, a1, a2, a3, a4, a5⟩
    · exact Or.inl ⟨a, fun p hp => by rw [u _ (by omega)]; exact b p hp⟩
    · refine Or.inr ⟨q, a1, a2, by rw [u _ (by omega)]; exact a3, fun p hp hq => by rw [u _ (by omega)]; exact a4 p hp hq, ?_⟩
      rw [u _ (by omega), u _ (by omega), u _ (by omega), u _ (by omega)]
      exact a5
theorem mup58 (M : Mem) (k : Nat) (v : Int32) : mup M 58 k v 58 = upd (M 58) k v := mup_at _ _ _ _
theorem Rel.nows {M M1 : Mem} {c : Nat} (h : Rel M) (f : ∀ i, i ≠ 1 → i ≠ 11 → (i < 38 ∨ 44 ≤ i) → i ≠ 58 → i ≠ 3 → i ≠ 4 → i ≠ 5 → i ≠ 7 → i ≠ 13 → (i < 50 ∨ 57 ≤ i) → i ≠ 57 → i ≠ 60 → i ≠ 61 → i ≠ 68 → M1 i = M i) (g : M1 57 10 = M 57 10) (hS : SI (M1 58) c) (hT : TW M1 1 (M1 58) c) : Rel M1 := by
  obtain ⟨-, h3, h4⟩ := h
  have F : ∀ i, i ≠ 1 → i ≠ 11 → (i < 38 ∨ 44 ≤ i) → i ≠ 58 → i ≠ 3 → i ≠ 4 → i ≠ 5 → i ≠ 7 → i ≠ 13 → (i < 50 ∨ 57 ≤ i) → i ≠ 57 → i ≠ 60 → i ≠ 61 → i ≠ 68 → M1 i = M i := f
  refine ⟨⟨c, hS, hT⟩, h3.mem ?_ g ?_ ?_ ?_ ?_, fun d hd => (h4 d hd).mem ?_ ?_ ?_ ?_ ?_ ?_ ?_ ?_ ?_⟩
  · rw [F 0 (by omega) (by omega) (by omega) (by omega) (by omega) (by omega) (by omega) (by omega) (by omega) (by omega) (by omega) (by omega) (by omega) (by omega)]
  · exact F 2 (by omega) (by omega) (by omega) (by omega) (by omega) (by omega) (by omega) (by omega) (by omega) (by omega) (by omega) (by omega) (by omega) (by omega)
  · exact F 12 (by omega) (by omega) (by omega) (by omega) (by omega) (by omega) (by omega) (by omega) (by omega) (by omega) (by omega) (by omega) (by omega) (by omega)
  · intro i h5 h6
    exact F i (by omega) (by omega) (by omega) (by omega) (by omega) (by omega) (by omega) (by omega) (by omega) (by omega) (by omega) (by omega) (by omega) (by omega)
  all_goals exact F _ (by omega) (by omega) (by omega) (by omega) (by omega) (by omega) (by omega) (by omega) (by omega) (by omega) (by omega) (by omega) (by omega) (by omega)
theorem e_set : lh_2 Rel := by
  intro M x n hR
  obtain ⟨c, hS, hT⟩ := hR.of
  have hc := hS.1
  refine x_maySet (fun hno => b0 ?_) (fun k j hk e h1 h2 e2 => b1 ?_)
  · refine m_within (A := 0) (B := 6) rfl rfl (fun _ => b0 ⟨rfl, hR⟩) (fun z => b1 ?_)
    obtain ⟨k, _, hk, rfl⟩ := rng_of (a := 0) (b := 6) (by omega) (by omega) z
    obtain ⟨a, b, c, d⟩ := lo_T k (by omega)
    refine m_leastOf (by omega) (m_mostOf (by omega) (m_no (loS k) (hiS k) rfl rfl c (by omega) (fun j hj1 hj2 => hno k j (by omega) rfl hj1 hj2) (b0 ⟨rfl, hR⟩)))
  · subst e e2
    obtain ⟨a, b, c9, d⟩ := lo_T k (by omega)
    refine ⟨nI_in (by omega) (by omega), fun M1 e1 => ?_⟩
    rw [cl (by omega)] at e1
    rw [cl (by omega), show M 11 k = M 58 (5 + k) from hT.2.1 k hk]
    refine m_yes 0 6 k rfl rfl rfl (by omega) (by omega) (b1 (m_leastOf (by omega) (m_mostOf (by omega) (m_yes (loS k) (hiS k) j rfl rfl rfl ⟨h1, h2⟩ (by omega) (b1 ?_)))))
    rw [show (5 : Int32) + nI k = nI (5 + k) from nI_add 5 k, cl (by omega)]
    refine ⟨nI_in (by omega) (by omega), fun v ev M2 e2 => ⟨?_, ?_⟩⟩
    · rw [ev, e1, mup_ne _ _ _ (by omega)]
    · have g58 : M2 58 = upd (M 58) (5 + k) (nI j) := by rw [e2, mup58, e1, mup_ne _ _ _ (by omega)]
      refine hR.nows (c := c) (fun i => ?_) ?_ (by rw [g58]; exact hS.set hk h1 h2) ?_
      · intro a1 a2 a3 a4 _ _ _ _ _ _ _ _ _ _
        rw [e2, mup_ne _ _ _ a4, e1, mup_ne _ _ _ a2]
      · rw [e2, mup_ne _ _ _ (by omega), e1, mup_ne _ _ _ (by omega)]
      · rw [g58]
        refine hT.setS hk ?_ (fun i => ?_) (fun p hp => ?_)
        · rw [e2, mup_ne _ _ _ (by omega), e1, mup_ne _ _ _ (by omega)]
        · rw [e2, mup_ne _ _ _ (by omega), e1, mup_eq]
          by_cases w : i = k
          · rw [if_pos ⟨rfl, w⟩, if_pos w]
          · rw [if_neg (fun q => w q.2), if_neg w]
        · rw [e2, mup_ne _ _ _ (by omega), e1, mup_ne _ _ _ (by omega)]
