/-! PURE: swings, growing yaws, what holds them; how shallow it may be -/
theorem FrC.tow3 {M M1 : Mem} (f : ∀ i, i ≠ 3 → i ≠ 10 + 3 → (i < 32 + 6 * 3 ∨ 38 + 6 * 3 ≤ i) → M1 i = M i) : FrC M M1 := fun i a _ _ _ b c => f i a (by omega) (by omega)
theorem e_swings : lh_19 Rel := by
  intro M x y hR
  obtain ⟨c, hS, hT⟩ := hR.of
  obtain ⟨d, _, hd, e11⟩ := hS.2.2.1 6 (by omega)
  have hd : d ≤ 9 := hd
  have e11 : M 58 11 = nI d := e11
  refine x_in 0 400 rfl rfl (by omega) (by omega) (fun hno => b0 ?_) (fun n h1 h2 e => b1 (x_in 0 1 rfl rfl (by omega) (by omega) (fun hno => b0 ?_) (fun w _ hw ew => b1 (x_become (a := 3) (b := 1) (by omega) (by omega) (by omega) hT hS.1 (fun M1 f1 t1 => x_gyaw e h2 t1 (by omega) hd e11 (fun M2 f2 t2 => ?_))))))
  · exact m_no 0 400 rfl rfl (by omega) (by omega) hno (b0 ⟨rfl, hR⟩)
  · exact m_yes 0 400 n e rfl rfl ⟨h1, h2⟩ (by omega) (b1 (m_no 0 1 rfl rfl (by omega) (by omega) hno (b0 ⟨rfl, hR⟩)))
  · have f : FrC M M2 := (FrC.tow3 f1).tr (fun i a _ _ _ _ _ => f2 i a)
    have mm : ∀ r, (y = 0 → r = ywN (M 58) n 3) → (¬ y = 0 → r = gyF (M 58) n) → q_X6_swings M2 x y (fun r2 M3 => r = r2 ∧ Rel M3) := fun r g0 g1 => by
      refine m_yes 0 400 n e rfl rfl ⟨h1, h2⟩ (by omega) (b1 (m_yes 0 1 w ew rfl rfl (by omega) (by omega) (b1 (m_copies (by omega) (fun M3 f3 g3 _ => ?_)))))
      subst e
      refine lo2 (fun m i (s : Mem) (a : Int32) => lp_X6_swings_41 (fun r2 M3 => r = r2 ∧ Rel M3) m s (nI n) y a (nI i)) (fun i s a => (∀ j, j ≠ 58 → s j = M3 j) ∧ s 58 = ywN (M 58) i ∧ a = gyF (M 58) i) n 0 M3 0 (by omega) ⟨fun _ _ => rfl, by rw [f3 58 (by omega), f.e58]; rfl, rfl⟩ (fun m s a hs => ?_) (fun m i s a hi hs kk => ?_)
      · obtain ⟨s1, s2, rfl⟩ := hs
        have fin : ∀ v, v = r → j_X6_swings_98 (fun r2 M3 => r = r2 ∧ Rel M3) s v := fun v ev => by
          refine m_copies (by omega) (fun M5 f5 g5 _ => ⟨ev.symm, ?_⟩)
          refine (hR.frC f).frM ⟨fun i a b _ c2 _ => by rw [f5 i b, s1 i b, f3 i c2], by rw [f5 57 (by omega), s1 57 (by omega), f3 57 (by omega)], fun k hk => by rw [g5 k hk, s1 61 (by omega), g3 k hk]⟩
        refine bp (Int32.le_refl _) ⟨fun z => fin _ ?_, fun z => fin _ (g1 z).symm⟩
        rw [s2]; exact (g0 z).symm
      · obtain ⟨s1, s2, rfl⟩ := hs
        refine bn (nI_ge hi (by omega)) (m_yaw hd (by rw [s2, ywN_o (by omega) (by omega)]; exact e11) (fun M4 f4 g4 => m_amount ?_))
        have e4 : M4 58 3 = ywN (M 58) (i + 1) 3 := by rw [g4, s2, ywN_s]
        have i4 : ∀ j, j ≠ 58 → M4 j = M3 j := fun j hj => (f4 j hj).trans (s1 j hj)
        have j4 : M4 58 = ywN (M 58) (i + 1) := by rw [g4, s2, ywN_s]
        rw [e4]
        unfold j_X6_swings_77
        rw [nI_1]
        refine ⟨fun z => kk M4 _ ⟨i4, j4, by rw [gyF_s, if_neg (nlt_le.mpr z)]⟩, fun z => m_amount ?_⟩
        exact kk M4 _ ⟨i4, j4, by rw [gyF_s, if_pos (nle_lt.mp z)]⟩
    refine ⟨fun z => mm _ (fun _ => t2.1.2.1) (fun q => absurd z q), fun z => mm _ (fun q => absurd q z) (fun _ => rfl)⟩
theorem gyF_z (S : Nat → Int32) : gyF S 0 = 0 := rfl
def gwF (S : Nat → Int32) : Int32 := if gyF (ywN S 100) 100 ≤ gyF S 100 then 0 else 1
theorem x_grows {M : Mem} {S : Nat → Int32} {c d : Nat} {x : Int32} {post : Int32 → Mem → Prop} (hT : TW M 1 S c) (hc : c ≤ 6) (hd : d ≤ 9) (hx : x = nI d) (k : ∀ M1, FrC M M1 → post (gwF (upd S 11 (nI d))) M1) : q_X5_growsWith M x post := by
  subst hx
  refine x_become (a := 3) (b := 1) (by omega) (by omega) (by omega) hT hc (fun M2 f2 t2 => ?_)
  intro M3 e3
  have u11 : upd S 11 (nI d) 11 = nI d := by unfold upd; rw [if_pos rfl]
  have t3 : TW M3 3 (upd S 11 (nI d)) c := t2.setS (k := 6) (by omega) (by rw [e3, mup_ne _ _ _ (by omega)]) (fun j => by
    rw [e3, mup_eq]
    by_cases w : j = 6
    · rw [if_pos ⟨rfl, w⟩, if_pos w]
    · rw [if_neg (fun q => w q.2), if_neg w]) (fun p hp => by rw [e3, mup_ne _ _ _ (by omega)])
  refine x_gyaw (n := 100) rfl (by omega) t3 (by omega) hd u11 (fun M4 f4 t4 => x_gyaw (n := 100) rfl (by omega) t4 (by omega) hd (by rw [ywN_o (by omega) (by omega)]; exact u11) (fun M5 f5 t5 => ?_))
  have f : FrC M M5 := (FrC.tow3 f2).tr (fun i a _ _ _ b _ => by rw [f5 i a, f4 i a, e3, mup_ne _ _ _ b])
  have key := k M5 f
  unfold gwF at key
  refine ⟨fun z => ⟨Or.inl rfl, ?_⟩, fun z => ⟨Or.inr rfl, ?_⟩⟩
  · rw [if_pos z] at key; exact key
  · rw [if_neg z] at key; exact key
theorem m_grows {M : Mem} {d : Nat} {post : Int32 → Mem → Prop} (hd : d ≤ 9) (e11 : M 58 11 = nI d) (k : ∀ M1, (∀ i, i ≠ 61 → M1 i = M i) → post (gwF (M 58)) M1) : q_X6_isGrowing M post := by
  refine m_copies (by omega) (fun M2 f2 g2 _ => ?_)
  refine lo3 (fun m i (s : Mem) (a b : Int32) => lp_X6_isGrowing_17 post m s a b (nI i)) (fun i s a b => 1 ≤ i ∧ (∀ j, j ≠ 58 → s j = M2 j) ∧ s 58 = ywN (M 58) (i - 1) ∧ (i ≤ 101 → a = gyF (M 58) (i - 1) ∧ b = 0) ∧ (101 < i → a = gyF (M 58) 100 ∧ b = gyF (ywN (M 58) 100) (i - 101))) 201 1 M2 0 0 (by omega) ⟨by omega, fun _ _ => rfl, by rw [f2 58 (by omega)]; rfl, fun _ => ⟨rfl, rfl⟩, fun z => by omega⟩ (fun m s a b hs => ?_) (fun m i s a b hi hs kk => ?_)
  · obtain ⟨-, s1, s2, -, s4⟩ := hs
    obtain ⟨rfl, rfl⟩ := s4 (by omega)
    refine bp (show (200 : Int32) < nI 201 by decide) (m_copies (by omega) (fun M3 f3 g3 h3 => ?_))
    have key := k M3 (fun i hi => ?_)
    · unfold gwF at key
      refine ⟨fun z => ⟨Or.inl rfl, ?_⟩, fun z => ⟨Or.inr rfl, ?_⟩⟩
      · rw [if_pos z] at key; exact key
      · rw [if_neg z] at key; exact key
    · by_cases w : i = 58
      · subst w
        funext j
        by_cases hj : j < 54
        · rw [g3 j hj, s1 61 (by omega), g2 j hj]
        · rw [h3 j (by omega), s2, ywN_o (by omega) (by omega)]
      · rw [f3 i w, s1 i w, f2 i hi]
  · obtain ⟨q, s1, s2, s3, s4⟩ := hs
    refine bn (show ¬ (200 : Int32) < nI i from nI_nlt (a := 200) (by omega) (by omega)) (m_yaw hd (by rw [s2, ywN_o (by omega) (by omega)]; exact e11) (fun M4 f4 g4 => m_amount ?_))
    have i4 : ∀ j, j ≠ 58 → M4 j = M2 j := fun j hj => (f4 j hj).trans (s1 j hj)
    have j4 : M4 58 = ywN (M 58) (i + 1 - 1) := by rw [g4, s2, ← ywN_s]; congr 1; omega
    have e4 : M4 58 3 = ywN (M 58) i 3 := by rw [j4]; rfl
    rw [e4]
    unfold j_X6_isGrowing_73 j_X6_isGrowing_57 j_X6_isGrowing_74
    rw [nI_1]
    have hi1 : i = (i - 1) + 1 := by omega
    refine ⟨fun z => ?_, fun z => ?_⟩
    · have hz : 100 < i := (nI_ltI (a := 100) (by omega) (by omega)).mp z
      by_cases w : i = 101
      · subst w
        obtain ⟨rfl, rfl⟩ := s3 (by omega)
        have e1 : ywN (M 58) 101 3 = ywN (ywN (M 58) 100) (0 + 1) 3 := by rw [ywN_add]
        rw [e1]
        refine ⟨fun z2 => kk M4 _ _ ⟨by omega, i4, j4, fun w => by omega, fun _ => ⟨rfl, ?_⟩⟩, fun z2 => kk M4 _ _ ⟨by omega, i4, j4, fun w => by omega, fun _ => ⟨rfl, ?_⟩⟩⟩
        · show _ = gyF (ywN (M 58) 100) (0 + 1)
          rw [gyF_s, gyF_z, if_neg (nlt_le.mpr z2)]
        · show _ = gyF (ywN (M 58) 100) (0 + 1)
          rw [gyF_s, gyF_z, if_pos (nle_lt.mp z2)]
      · obtain ⟨rfl, rfl⟩ := s4 (by omega)
        have e1 : ywN (M 58) i 3 = ywN (ywN (M 58) 100) ((i - 101) + 1) 3 := by rw [ywN_add]; congr 2; omega
        rw [e1]
        refine ⟨fun z2 => kk M4 _ _ ⟨by omega, i4, j4, fun w => by omega, fun _ => ⟨rfl, ?_⟩⟩, fun z2 => kk M4 _ _ ⟨by omega, i4, j4, fun w => by omega, fun _ => ⟨rfl, ?_⟩⟩⟩
        · rw [show i + 1 - 101 = (i - 101) + 1 by omega, gyF_s, if_neg (nlt_le.mpr z2)]
        · rw [show i + 1 - 101 = (i - 101) + 1 by omega, gyF_s, if_pos (nle_lt.mp z2)]
    · have hz : ¬ 100 < i := fun w => z (nI_lt (a := 100) w (by omega))
      obtain ⟨rfl, rfl⟩ := s3 (by omega)
      have e1 : ywN (M 58) i 3 = ywN (M 58) ((i - 1) + 1) 3 := by rw [← hi1]
      rw [e1]
      refine ⟨fun z2 => kk M4 _ _ ⟨by omega, i4, j4, fun _ => ⟨?_, rfl⟩, fun w => by omega⟩, fun z2 => kk M4 _ _ ⟨by omega, i4, j4, fun _ => ⟨?_, rfl⟩, fun w => by omega⟩⟩
      · rw [show i + 1 - 1 = (i - 1) + 1 by omega, gyF_s, if_neg (nlt_le.mpr z2)]
      · rw [show i + 1 - 1 = (i - 1) + 1 by omega, gyF_s, if_pos (nle_lt.mp z2)]
theorem upd_id (S : Nat → Int32) (k : Nat) : upd S k (S k) = S := by
  funext j
  unfold upd
  by_cases w : j = k
  · rw [if_pos w, w]
  · rw [if_neg w]
theorem FrM.of61 {M M1 : Mem} (f : ∀ i, i ≠ 61 → M1 i = M i) : FrM M M1 := ⟨fun i _ _ _ h _ => f i h, by rw [f 57 (by omega)], fun k _ => by rw [f 58 (by omega)]⟩
theorem gwF_01 (S : Nat → Int32) : gwF S = 0 ∨ gwF S = 1 := by unfold gwF; split <;> simp
theorem e_grows : lh_20 Rel := by
  intro M hR
  obtain ⟨c, hS, hT⟩ := hR.of
  obtain ⟨d, _, hd, e11⟩ := hS.2.2.1 6 (by omega)
  have hd : d ≤ 9 := hd
  have e11 : M 58 11 = nI d := e11
  refine x_grows hT hS.1 hd ((hT.2.1 6 (by omega)).trans e11) (fun M1 f1 => ?_)
  rw [← e11, upd_id]
  have mm : ∀ r, r = gwF (M 58) → q_X6_grows M1 (fun r2 M2 => r = r2 ∧ Rel M2) := fun r er => by
    refine m_grows hd (by rw [f1.e58]; exact e11) (fun M2 f2 => ?_)
    rw [f1.e58]
    have hR2 := (hR.frC f1).frM (FrM.of61 f2)
    rcases gwF_01 (M 58) with e | e
    · rw [e] at er ⊢; exact b0 ⟨er, hR2⟩
    · rw [e] at er ⊢; exact b1 ⟨er, hR2⟩
  rcases gwF_01 (M 58) with e | e
  · rw [e]; exact b0 (mm _ e.symm)
  · rw [e]; exact b1 (mm _ e.symm)
def sr (P : Nat → Bool) : Nat → Nat → Int32
  | 0, _ => -4
  | k + 1, t => if P t then nI t else sr P k (t + 1)
theorem sr_s (P : Nat → Bool) {n i : Nat} (h : i < n) : sr P (n - i) i = if P i then nI i else sr P (n - (i + 1)) (i + 1) := by
  rw [show n - i = (n - (i + 1)) + 1 by omega]
  rfl
theorem sr_z (P : Nat → Bool) {n : Nat} : sr P (n - n) n = -4 := by
  rw [Nat.sub_self]
  rfl
theorem e_held : lh_21 Rel := by
  intro M hR
  obtain ⟨c, hS, hT⟩ := hR.of
  have hM : ∀ M1, FrC M M1 → q_X6_held M1 (fun r2 M2 => sr (fun n => decide (gwF (upd (M 58) 11 (nI n)) = 0)) (10 - 0) 0 = r2 ∧ Rel M2) := fun M1 f1 => by
    unfold q_X6_held
    rw [f1.e58]
    have exit : ∀ (s : Mem) (v : Int32), (∀ j, j ≠ 58 → j ≠ 61 → s j = M1 j) → (∀ k, k ≠ 11 → s 58 k = M 58 k) → sr (fun n => decide (gwF (upd (M 58) 11 (nI n)) = 0)) (10 - 0) 0 = v → j_X6_held_46 (fun r2 M2 => sr (fun n => decide (gwF (upd (M 58) 11 (nI n)) = 0)) (10 - 0) 0 = r2 ∧ Rel M2) s (M 58 11) v := fun s v s1 s2 ev => by
      intro M3 e3
      refine ⟨ev, (hR.frC f1).frM ⟨fun i a b _ c2 _ => by rw [e3, mup_ne _ _ _ b, s1 i b c2], by rw [e3, mup_ne _ _ _ (by omega), s1 57 (by omega) (by omega)], fun k hk => ?_⟩⟩
      rw [e3, mup_eq, f1.e58]
      by_cases w : k = 11
      · rw [if_pos ⟨rfl, w⟩, w]
      · rw [if_neg (fun q => w q.2), s2 k w]
    refine lo2 (fun m i (s : Mem) (a : Int32) => lp_X6_held_13 (fun r2 M2 => sr (fun n => decide (gwF (upd (M 58) 11 (nI n)) = 0)) (10 - 0) 0 = r2 ∧ Rel M2) m s (M 58 11) a (nI i)) (fun i s a => (∀ j, j ≠ 58 → j ≠ 61 → s j = M1 j) ∧ (∀ k, k ≠ 11 → s 58 k = M 58 k) ∧ ((a = -4 ∧ sr (fun n => decide (gwF (upd (M 58) 11 (nI n)) = 0)) (10 - 0) 0 = sr (fun n => decide (gwF (upd (M 58) 11 (nI n)) = 0)) (10 - i) i) ∨ (0 ≤ a ∧ sr (fun n => decide (gwF (upd (M 58) 11 (nI n)) = 0)) (10 - 0) 0 = a))) 10 0 M1 (-4) (by omega) ⟨fun _ _ _ => rfl, fun k _ => by rw [f1.e58], Or.inl ⟨rfl, rfl⟩⟩ (fun m s a hs => ?_) (fun m i s a hi hs kk => ?_)
    · obtain ⟨s1, s2, s3⟩ := hs
      refine bp (show (10 : Int32) ≤ nI 10 by decide) (exit s a s1 s2 ?_)
      rcases s3 with ⟨ea, ev⟩ | ⟨_, ev⟩
      · rw [ev, sr_z, ea]
      · exact ev
    · obtain ⟨s1, s2, s3⟩ := hs
      refine bn (show ¬ (10 : Int32) ≤ nI i from nI_ge (b := 10) hi (by omega)) ?_
      rcases s3 with ⟨ea, ev⟩ | ⟨ha, ev⟩
      · subst ea
        refine bn (by decide) (fun M4 e4 => ?_)
        have e58 : M4 58 = upd (M 58) 11 (nI i) := by
          funext k
          rw [e4, mup_eq]
          unfold upd
          by_cases w : k = 11
          · rw [if_pos ⟨rfl, w⟩, if_pos w]
          · rw [if_neg (fun q => w q.2), if_neg w, s2 k w]
        refine m_grows (d := i) (by omega) (by rw [e58]; unfold upd; rw [if_pos rfl]) (fun M6 f6 => ?_)
        rw [e58]
        have i6 : ∀ j, j ≠ 58 → j ≠ 61 → M6 j = M1 j := fun j a b => by rw [f6 j b, e4, mup_ne _ _ _ a, s1 j a b]
        have j6 : ∀ k, k ≠ 11 → M6 58 k = M 58 k := fun k hk => by rw [f6 58 (by omega), e58]; unfold upd; rw [if_neg hk]
        rw [sr_s _ hi] at ev
        unfold j_X6_held_40
        rw [nI_1]
        rcases gwF_01 (upd (M 58) 11 (nI i)) with e | e
        · rw [if_pos (by rw [e]; rfl)] at ev
          rw [e]
          exact b0 (kk M6 _ ⟨i6, j6, Or.inr ⟨nI_pos' (by omega), ev⟩⟩)
        · rw [if_neg (by rw [e]; decide)] at ev
          rw [e]
          exact b1 (kk M6 _ ⟨i6, j6, Or.inl ⟨rfl, ev⟩⟩)
      · exact bp ha (exit s a s1 s2 ev)
  refine pk_loop (fun m i (s : Mem) => lp_X5_held_2 (fun r M1 => q_X6_held M1 (fun r2 M2 => r = r2 ∧ Rel M2)) m s (nI i)) (fun i s => FrC M s ∧ sr (fun n => decide (gwF (upd (M 58) 11 (nI n)) = 0)) (10 - 0) 0 = sr (fun n => decide (gwF (upd (M 58) 11 (nI n)) = 0)) (10 - i) i) 10 0 M (by omega) ⟨FrC.rf, rfl⟩ (fun m s hs => ?_) (fun m i s hi hs kk => ?_)
  · obtain ⟨f, ev⟩ := hs
    have h := hM s f
    rw [ev, sr_z] at h
    exact bp (show mostT 6 < nI 10 by decide) h
  · obtain ⟨f, ev⟩ := hs
    have hc := hS.1
    have hTs : TW s 1 (M 58) c := hT.mem (f _ (by omega) (by omega) (by omega) (by omega) (by omega) (by omega)) (f _ (by omega) (by omega) (by omega) (by omega) (by omega) (by omega)) (fun p hp => f _ (by omega) (by omega) (by omega) (by omega) (by omega) (by omega))
    refine bn (show ¬ mostT 6 < nI i from nI_nlt (a := 9) (by omega) (by omega)) (x_grows (d := i) hTs hS.1 (by omega) rfl (fun M1 f1 => ?_))
    rw [sr_s _ hi] at ev
    rcases gwF_01 (upd (M 58) 11 (nI i)) with e | e
    · rw [if_pos (by rw [e]; rfl)] at ev
      have h := hM M1 (f.tr f1)
      rw [ev] at h
      rw [e]
      exact b0 h
    · rw [if_neg (by rw [e]; decide)] at ev
      rw [e]
      rw [nI_1]
      exact b1 (kk M1 ⟨f.tr f1, ev⟩)
theorem e_shallowest : lh_15 Rel := by
  intro M hR
  obtain ⟨c, hS, hT⟩ := hR.of
  have hI := Rel.mi hS hT
  refine x_lnq hT hS.1 (fun hn => ?_) (fun hn M1 f1 n1 => ?_)
  · exact m_lnq hI (fun _ => ⟨rfl, hR⟩) (fun z => absurd z hn)
  · obtain ⟨H, hH, eH⟩ := sH_nat (b := al) hS.pb
    have f2 : c * (99 * 15) ≤ 6 * (99 * 15) := Nat.mul_le_mul_right _ hS.1
    obtain ⟨w, _, hw, e7⟩ := hS.2.2.1 2 (by omega)
    have hw : w ≤ 9 := hw
    have e7 : M 58 7 = nI w := e7
    have e4 : sH (M 58) al c / 4 = nI (H / 4) := by rw [eH]; exact pk_div (d := 4) (by omega) (by omega) (by omega)
    have mm : ∀ M2, FrC M M2 → ∀ r, (999 < H / 4 → r = -4) → (H / 4 ≤ 999 → 1 ≤ H / 4 → r = nI (H / 4)) → (H / 4 < 1 → r = 1) → q_X6_shallowest M2 (fun r2 M3 => r = r2 ∧ Rel M3) := fun M2 f r g0 g1 g2 => by
      refine m_lnq (hI.frC f) (fun z => absurd (by rw [f.e58]; exact hn) z) (fun _ M3 k3 n3 => ?_)
      rw [f.e58] at n3
      have hR3 := (hR.frC f).frM k3.frM
      rw [n3.2.1, e4]
      refine ⟨fun z => ⟨fun z2 => ⟨g1 ((nI_leI (b := 999) (by omega) (by omega)).mp z) ((nI_leI (a := 1) (by omega) (by omega)).mp z2), hR3⟩, fun z2 => ⟨g2 ?_, hR3⟩⟩, fun z => ⟨g0 ?_, hR3⟩⟩
      · apply Nat.not_le.mp
        intro q
        exact z2 (nI_le (a := 1) q (by omega))
      · apply Nat.not_le.mp
        intro q
        exact z (nI_le (b := 999) q (by omega))
    refine lo2 (fun m i (s : Mem) (a : Int32) => lp_X5_shallowest_18 (fun r M1 => q_X6_shallowest M1 (fun r2 M2 => r = r2 ∧ Rel M2)) m s a (nI i)) (fun i s a => (∀ j, j ≠ 4 → s j = M j) ∧ (∃ v, LN s (sF (M 58) al c) (sH (M 58) al c) (sG (M 58) al c) (M 58 5) (M 58 6) v) ∧ (i = 0 → a = 1) ∧ (0 < i → a = nI (if 1 < H / 4 then H / 4 else 1))) (w + 1) 0 M1 (leastT 3) (by omega) ⟨f1, ⟨_, n1⟩, fun _ => by decide, fun z => by omega⟩ (fun m s a hs => ?_) (fun m i s a hi hs kk => ?_)
    · obtain ⟨s1, s2, -, s4⟩ := hs
      have ea := s4 (by omega)
      unfold lp_X5_shallowest_18 b_X5_shallowest_18
      rw [s1 11 (by omega), show M 11 2 = M 58 7 from hT.2.1 2 (by omega), e7]
      refine bp (nI_lt (by omega) (by omega)) ?_
      rw [ea, show mostT 3 = nI 999 by decide]
      have f := FrC.of4 s1
      refine ⟨fun z => mm s f _ (fun q => ?_) (fun q1 q2 => ?_) (fun q => ?_), fun z => mm s f _ (fun _ => rfl) (fun q1 q2 => ?_) (fun q => ?_)⟩
      · rw [if_pos (by omega), nI_leI (by omega) (by omega)] at z; omega
      · by_cases q3 : 1 < H / 4
        · rw [if_pos q3]
        · rw [if_neg q3]; congr 1; omega
      · rw [if_neg (by omega)]; rfl
      · exfalso
        apply z
        by_cases q3 : 1 < H / 4
        · rw [if_pos q3]; exact nI_le q1 (by omega)
        · rw [if_neg q3]; decide
      · exfalso
        apply z
        rw [if_neg (by omega)]; decide
    · obtain ⟨s1, ⟨v, s2⟩, s3, s4⟩ := hs
      unfold lp_X5_shallowest_18 b_X5_shallowest_18
      rw [s1 11 (by omega), show M 11 2 = M 58 7 from hT.2.1 2 (by omega), e7]
      refine bn (nI_nlt (by omega) (by omega)) (fun M3 e3 => ?_)
      have n3 : LN M3 (sF (M 58) al c) (sH (M 58) al c) (sG (M 58) al c) (M 58 5) (M 58 6) (nI i) := by
        subst e3
        obtain ⟨a0, a1, a2, a3, a4, a5⟩ := s2
        simp [LN, mup_eq, a0, a1, a2, a3, a4]
      refine l_hang n3 ⟨i, by omega, rfl⟩ ?_
      rw [eH, hgF_nat (by omega) (by omega), nI_1]
      refine kk M3 _ ⟨fun j hj => by rw [e3, mup_ne _ _ _ hj, s1 j hj], ⟨_, n3⟩, fun z => by omega, fun _ => ?_⟩
      by_cases z : i = 0
      · subst z
        rw [s3 rfl, show 4 + 0 * 0 = 4 from rfl]
        by_cases q : 1 < H / 4
        · rw [if_pos q, if_pos (show (1 : Int32) < nI (H / 4) from nI_lt (a := 1) q (by omega))]
        · rw [if_neg q, if_neg (show ¬ (1 : Int32) < nI (H / 4) from nI_nlt (a := 1) (b := H / 4) (by omega) (by omega))]; rfl
      · have hle : H / (4 + i * i) ≤ H / 4 := Nat.div_le_div_left (by omega) (by omega)
        rw [s4 (by omega), if_neg]
        apply nI_nlt
        · by_cases q : 1 < H / 4
          · rw [if_pos q]; exact hle
          · rw [if_neg q]; omega
        · by_cases q : 1 < H / 4
          · rw [if_pos q]; omega
          · rw [if_neg q]; omega
