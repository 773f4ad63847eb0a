/-! PURE: tows that become others, images; yaws -/
theorem x_become {M : Mem} {S : Nat → Int32} {a b c : Nat} {post : Mem → Prop} (ha : 1 ≤ a ∧ a ≤ 3) (hb : 1 ≤ b ∧ b ≤ 3) (hab : a ≠ b) (hT : TW M b S c) (hc : c ≤ 6) (k : ∀ M1, (∀ i, i ≠ a → i ≠ 10 + a → (i < 32 + 6 * a ∨ 38 + 6 * a ≤ i) → M1 i = M i) → TW M1 a S c → post M1) : q_X4_become M a b post := by
  obtain ⟨h1, h2, h3, h4⟩ := hT
  refine pk_loop (fun n i (s : Mem) => lp_X4_become_2 post n s a b (nI i)) (fun i s => (∀ j, (j < 32 + 6 * a ∨ 38 + 6 * a ≤ j) → s j = M j) ∧ ∀ p, p < i → ∀ j, j < 9 → s (32 + 6 * a + p) j = M (32 + 6 * b + p) j) c 0 M (by omega) ⟨fun _ _ => rfl, fun p hp => by omega⟩ (fun n s hs => ?_) (fun n i s hi hs kk => ?_)
  · obtain ⟨s1, s2⟩ := hs
    unfold lp_X4_become_2 b_X4_become_2
    rw [s1 b (by omega), h1.1]
    refine bp (Int32.le_refl _) (fun M2 e2 => ⟨⟨by decide, by decide, by decide, by omega, by omega⟩, fun M3 e3 M4 e4 M5 e5 M6 e6 M7 e7 M8 e8 M9 e9 => ?_⟩)
    have fb : ∀ j, M9 b j = M b j := fun j => by
      rw [e9, mup_ne _ _ _ (by omega), e8, mup_ne _ _ _ (by omega), e7, mup_ne _ _ _ (by omega), e6, mup_ne _ _ _ (by omega), e5, mup_ne _ _ _ (by omega), e4, mup_ne _ _ _ (by omega), e3, va_up_ne _ _ (by omega), e2, mup_ne _ _ _ (by omega), s1 b (by omega)]
    have fo : ∀ j, j ≠ a → j ≠ 10 + a → M9 j = s j := fun j q1 q2 => by
      rw [e9, mup_ne _ _ _ q1, e8, mup_ne _ _ _ q1, e7, mup_ne _ _ _ q1, e6, mup_ne _ _ _ q1, e5, mup_ne _ _ _ q1, e4, mup_ne _ _ _ q1, e3, va_up_ne _ _ q2, e2, mup_ne _ _ _ q1]
    have b3 : M3 b = M b := by rw [e3, va_up_ne _ _ (by omega), e2, mup_ne _ _ _ (by omega), s1 b (by omega)]
    have b4 : M4 b = M b := by rw [e4, mup_ne _ _ _ (by omega), b3]
    have b5 : M5 b = M b := by rw [e5, mup_ne _ _ _ (by omega), b4]
    have b6 : M6 b = M b := by rw [e6, mup_ne _ _ _ (by omega), b5]
    have b7 : M7 b = M b := by rw [e7, mup_ne _ _ _ (by omega), b6]
    have b8 : M8 b = M b := by rw [e8, mup_ne _ _ _ (by omega), b7]
    have fa : M9 a 1 = M b 1 ∧ M9 a 3 = M b 3 ∧ M9 a 4 = M b 4 ∧ M9 a 5 = M b 5 ∧ M9 a 6 = M b 6 ∧ M9 a 7 = M b 7 ∧ M9 a 8 = M b 8 := by
      rw [b3] at e4
      rw [b4] at e5
      rw [b5] at e6
      rw [b6] at e7
      rw [b7] at e8
      rw [b8] at e9
      have e1 : M3 a 1 = M b 1 := by rw [e3, va_up_ne _ _ (by omega), e2, mup_eq, if_pos ⟨rfl, rfl⟩, h1.1]
      subst e9 e8 e7 e6 e5 e4
      simp [mup_eq, e1]
    have fs : ∀ j, j < 7 → M9 (10 + a) j = M (10 + b) j := fun j hj => by
      rw [e9, mup_ne _ _ _ (by omega), e8, mup_ne _ _ _ (by omega), e7, mup_ne _ _ _ (by omega), e6, mup_ne _ _ _ (by omega), e5, mup_ne _ _ _ (by omega), e4, mup_ne _ _ _ (by omega), e3, va_up_self, pk_cpy_in (by omega) (by omega), e2, mup_ne _ _ _ (by omega), s1 _ (by omega)]
      congr 1
      omega
    refine k M9 (fun i q1 q2 q3 => by rw [fo i q1 q2, s1 i q3]) ⟨?_, fun j hj => (fs j hj).trans (h2 j hj), fun p hp => ?_, ?_⟩
    · rw [fa.1, fa.2.1, fa.2.2.1, fa.2.2.2.1, fa.2.2.2.2.1]; exact h1
    · have g := s2 p hp
      unfold PCs
      rw [fo _ (by omega) (by omega), g 0 (by omega), g 1 (by omega), g 2 (by omega), g 3 (by omega), g 4 (by omega), g 5 (by omega), g 6 (by omega), g 7 (by omega), g 8 (by omega)]
      exact h3 p hp
    · rw [fa.2.2.2.2.2.1, fa.2.2.2.2.2.2]; exact h4
  · obtain ⟨s1, s2⟩ := hs
    unfold lp_X4_become_2 b_X4_become_2
    rw [s1 b (by omega), h1.1]
    refine bn (nI_ge hi (by omega)) ⟨nI_in (by omega) (by omega), ?_⟩
    rw [cl (by omega)]
    refine x_become1 (by omega) (fun M2 f2 g2 => ?_)
    rw [nI_1]
    refine kk M2 ⟨fun j hj => by rw [f2 j (by omega), s1 j hj], fun p hp j hj => ?_⟩
    by_cases w : p = i
    · subst w
      rw [g2 j hj, s1 _ (by omega)]
    · rw [f2 _ (by omega)]; exact s2 p (by omega) j hj
theorem m_copies {M : Mem} {a b : Nat} {post : Mem → Prop} (hab : a ≠ b) (k : ∀ M1, (∀ i, i ≠ b → M1 i = M i) → (∀ j, j < 54 → M1 b j = M a j) → (∀ j, 54 ≤ j → M1 b j = M b j) → post M1) : q_X6_copies M a b post := by
  refine pk_loop (fun n i (s : Mem) => lp_X6_copies_2 post n s a b (nI i)) (fun i s => (∀ j, j ≠ b → s j = M j) ∧ (∀ j, j < i → s b j = M a j) ∧ ∀ j, i ≤ j → s b j = M b j) 54 0 M (by omega) ⟨fun _ _ => rfl, fun j hj => by omega, fun _ _ => rfl⟩ (fun n s hs => ?_) (fun n i s hi hs kk => ?_)
  · exact bp (show (54 : Int32) ≤ nI 54 by decide) (k s hs.1 hs.2.1 hs.2.2)
  · obtain ⟨s1, s2, s3⟩ := hs
    refine bn (show ¬ (54 : Int32) ≤ nI i from nI_ge (b := 54) hi (by omega)) ⟨nI_in (by omega) (by omega), fun M3 e3 => ?_⟩
    rw [cl (by omega), s1 a hab] at e3
    rw [nI_1]
    refine kk M3 ⟨fun j hj => by rw [e3, mup_ne _ _ _ hj, s1 j hj], fun j hj => ?_, fun j hj => by rw [e3, mup_eq, if_neg (by omega)]; exact s3 j (by omega)⟩
    rw [e3, mup_eq]
    by_cases w : j = i
    · rw [if_pos ⟨rfl, w⟩, w]
    · rw [if_neg (fun q => w q.2)]; exact s2 j (by omega)
theorem e_image : lh_29 Rel := by
  intro M hR
  obtain ⟨c, hS, hT⟩ := hR.of
  refine x_become (a := 2) (b := 1) (by omega) (by omega) (by omega) hT hS.1 (fun M1 f1 t1 => ?_)
  intro M2 e2
  have q2 : ∀ i, i ≠ 0 → i ≠ 2 → i ≠ 12 → (i < 44 ∨ 50 ≤ i) → M2 i = M i := fun i a b c d => by rw [e2, mup_ne _ _ _ a, f1 i b c d]
  refine m_copies (by omega) (fun M3 f3 g3 _ => ?_)
  intro M4 e4
  have q4 : ∀ i, i ≠ 0 → i ≠ 2 → i ≠ 12 → (i < 44 ∨ 50 ≤ i) → i ≠ 59 → i ≠ 57 → M4 i = M i := fun i a b c d e f => by rw [e4, mup_ne _ _ _ f, f3 i e, q2 i a b c d]
  have q59 : ∀ j, j < 54 → M4 59 j = M 58 j := fun j hj => by rw [e4, mup_ne _ _ _ (by omega), g3 j hj, q2 58 (by omega) (by omega) (by omega) (by omega)]
  have q58 : M4 58 = M 58 := q4 58 (by omega) (by omega) (by omega) (by omega) (by omega) (by omega)
  refine ⟨?_, ?_⟩
  · rw [q58, q2 1 (by omega) (by omega) (by omega) (by omega)]; exact hT.1.2.2.2.1
  · have hc := hS.1
    refine ⟨⟨c, by rw [q58]; exact hS, by rw [q58]; exact hT.mem (q4 _ (by omega) (by omega) (by omega) (by omega) (by omega) (by omega)) (q4 _ (by omega) (by omega) (by omega) (by omega) (by omega) (by omega)) (fun p hp => q4 _ (by omega) (by omega) (by omega) (by omega) (by omega) (by omega))⟩, Or.inr ⟨?_, ?_, c, hS.arr q59, ?_⟩, fun d hd => (hR.2.2 d hd).mem (q4 _ (by omega) (by omega) (by omega) (by omega) (by omega) (by omega)) (q4 _ (by omega) (by omega) (by omega) (by omega) (by omega) (by omega)) (q4 _ (by omega) (by omega) (by omega) (by omega) (by omega) (by omega)) (q4 _ (by omega) (by omega) (by omega) (by omega) (by omega) (by omega)) (q4 _ (by omega) (by omega) (by omega) (by omega) (by omega) (by omega)) (q4 _ (by omega) (by omega) (by omega) (by omega) (by omega) (by omega)) (q4 _ (by omega) (by omega) (by omega) (by omega) (by omega) (by omega)) (q4 _ (by omega) (by omega) (by omega) (by omega) (by omega) (by omega)) (q4 _ (by omega) (by omega) (by omega) (by omega) (by omega) (by omega))⟩
    · rw [e4, mup_ne _ _ _ (by omega), f3 0 (by omega), e2, mup_eq, if_pos ⟨rfl, rfl⟩]
    · rw [e4, mup_eq, if_pos ⟨rfl, rfl⟩]
    · have t4 : ∀ i, i ≠ 0 → i ≠ 57 → i ≠ 59 → M4 i = M1 i := fun i a b c => by rw [e4, mup_ne _ _ _ b, f3 i c, e2, mup_ne _ _ _ a]
      exact (t1.arr hc q59).mem (t4 _ (by omega) (by omega) (by omega)) (t4 _ (by omega) (by omega) (by omega)) (fun p hp => t4 _ (by omega) (by omega) (by omega))
theorem e_restore : lh_30 Rel := by
  intro M hR
  rcases hR.2.1 with ⟨a, b⟩ | ⟨a, b, c, hS, hT⟩
  · exact bp a (bp b ⟨rfl, hR⟩)
  · have hc := hS.1
    refine bn (by rw [a]; decide) (x_become (a := 1) (b := 2) (by omega) (by omega) (by omega) hT hS.1 (fun M1 f1 t1 => ?_))
    have e57 : M1 57 = M 57 := f1 57 (by omega) (by omega) (by omega)
    have e59 : M1 59 = M 59 := f1 59 (by omega) (by omega) (by omega)
    refine bn (by rw [e57, b]; decide) (m_copies (by omega) (fun M2 f2 g2 _ => ⟨?_, ?_⟩))
    · rw [g2 1 (by omega), e59]; exact t1.1.2.2.2.1
    · have g58 : ∀ j, j < 54 → M2 58 j = M 59 j := fun j hj => by rw [g2 j hj, e59]
      refine hR.nows (c := c) (fun i a1 a2 a3 a4 _ _ _ _ _ _ _ _ _ _ => by rw [f2 i a4, f1 i a1 a2 (by omega)]) (by rw [f2 57 (by omega), e57]) (hS.arr g58) ?_
      exact (t1.arr hc g58).mem (f2 _ (by omega)) (f2 _ (by omega)) (fun p hp => f2 _ (by omega))
-- yaws
def ywW (S : Nat → Int32) : Int32 := hwF ((((S 4) + ((S 3) * ((S 7 - S 10) - S 11)) / 10) - S 4 / (4 + S 11)) - (S 3 * S 9) / 20)
def ywS (S : Nat → Int32) : Nat → Int32 := upd (upd S 4 (ywW S)) 3 (hwF (S 3 + ywW S / 10))
theorem ywS_o {S : Nat → Int32} {k : Nat} (h3 : k ≠ 3) (h4 : k ≠ 4) : ywS S k = S k := by unfold ywS upd; rw [if_neg h3, if_neg h4]
theorem ywS_3 (S : Nat → Int32) : ywS S 3 = hwF (S 3 + ywW S / 10) := by unfold ywS upd; rw [if_pos rfl]
theorem ywS_4 (S : Nat → Int32) : ywS S 4 = ywW S := by unfold ywS upd; rw [if_neg (by omega), if_pos rfl]
theorem dr9 : ∀ d : Nat, d ≤ 9 → (1 : Int32) < 4 + nI d ∧ ¬ (4 + nI d) = 0 := by decide
theorem TW.yaw {M M1 : Mem} {t c : Nat} {S : Nat → Int32} (h : TW M t S c) (e1 : ∀ k, k ≠ 3 → k ≠ 4 → M1 t k = M t k) (e3 : M1 t 3 = ywS S 3) (e4 : M1 t 4 = ywS S 4) (f : ∀ i, i ≠ t → M1 i = M i) (ht : t ≤ 3) : TW M1 t (ywS S) c := by
  obtain ⟨h1, h2, h3, h4⟩ := h
  refine ⟨⟨by rw [e1 1 (by omega) (by omega)]; exact h1.1, e3, e4, by rw [e1 5 (by omega) (by omega), ywS_o (by omega) (by omega)]; exact h1.2.2.2.1, by rw [e1 6 (by omega) (by omega), ywS_o (by omega) (by omega)]; exact h1.2.2.2.2⟩, fun k hk => by rw [f _ (by omega), ywS_o (by omega) (by omega)]; exact h2 k hk, fun p hp => ?_, ?_⟩
  · unfold PCs
    rw [f _ (by omega), ywS_o (by omega) (by omega), ywS_o (by omega) (by omega), ywS_o (by omega) (by omega), ywS_o (by omega) (by omega)]
    exact h3 p hp
  · rw [e1 7 (by omega) (by omega), e1 8 (by omega) (by omega)]
    rcases h4 with ⟨a, b⟩ | ⟨q, a1, a2, a3, a4, a5⟩
    · exact Or.inl ⟨a, fun p hp => by rw [ywS_o (by omega) (by omega)]; exact b p hp⟩
    · refine Or.inr ⟨q, a1, a2, by rw [ywS_o (by omega) (by omega)]; exact a3, fun p hp hq => by rw [ywS_o (by omega) (by omega)]; exact a4 p hp hq, ?_⟩
      rw [ywS_o (by omega) (by omega), ywS_o (by omega) (by omega), ywS_o (by omega) (by omega), ywS_o (by omega) (by omega)]
      exact a5
theorem x_yaw {M : Mem} {t c d : Nat} {S : Nat → Int32} {post : Mem → Prop} (hT : TW M t S c) (ht : t ≤ 3) (hd : d ≤ 9) (e11 : S 11 = nI d) (k : ∀ M1, (∀ i, i ≠ t → M1 i = M i) → TW M1 t (ywS S) c → post M1) : q_X4_passYaw M t post := by
  obtain ⟨a, b⟩ := dr9 d hd
  have g := hT.2.1
  have g2 : M (10 + t) 2 = S 7 := g 2 (by omega)
  have g4 : M (10 + t) 4 = S 9 := g 4 (by omega)
  have g5 : M (10 + t) 5 = S 10 := g 5 (by omega)
  have g6 : M (10 + t) 6 = S 11 := g 6 (by omega)
  intro v1 e1
  rw [g6, e11, if_pos a]
  refine ⟨b, fun v2 e2 v3 e3 => x_held (fun M6 e6 => x_held (fun M9 e9 => ?_))⟩
  rw [hT.1.2.1, g2, g5, g6] at e1
  rw [hT.1.2.2.1, ← e11] at e2
  rw [hT.1.2.1, g4] at e3
  rw [hT.1.2.2.1, e1, e2, e3] at e6
  have e6 : M6 = mup M t 4 (ywW S) := e6
  have m3 : M6 t 3 = S 3 := by rw [e6, mup_eq, if_neg (by omega)]; exact hT.1.2.1
  have m4 : M6 t 4 = ywW S := by rw [e6, mup_eq, if_pos ⟨rfl, rfl⟩]
  rw [m3, m4] at e9
  refine k M9 (fun i hi => by rw [e9, mup_ne _ _ _ hi, e6, mup_ne _ _ _ hi]) (hT.yaw (fun j h3 h4 => ?_) ?_ ?_ (fun i hi => by rw [e9, mup_ne _ _ _ hi, e6, mup_ne _ _ _ hi]) ht)
  · rw [e9, mup_eq, if_neg (fun q => h3 q.2), e6, mup_eq, if_neg (fun q => h4 q.2)]
  · rw [e9, mup_eq, if_pos ⟨rfl, rfl⟩, ywS_3]
  · rw [e9, mup_eq, if_neg (by omega), m4, ywS_4]
theorem m_yaw {M : Mem} {d : Nat} {post : Mem → Prop} (hd : d ≤ 9) (e11 : M 58 11 = nI d) (k : ∀ M1, (∀ i, i ≠ 58 → M1 i = M i) → M1 58 = ywS (M 58) → post M1) : q_X6_goesYaw M post := by
  obtain ⟨a, b⟩ := dr9 d hd
  refine ⟨by rw [e11]; exact b, m_held (fun M3 e3 => m_held (fun M6 e6 => ?_))⟩
  have e3 : M3 = mup M 58 4 (ywW (M 58)) := e3
  have m4 : M3 58 4 = ywW (M 58) := by rw [e3, mup_eq, if_pos ⟨rfl, rfl⟩]
  rw [m4] at e6
  refine k M6 (fun i hi => by rw [e6, mup_ne _ _ _ hi, e3, mup_ne _ _ _ hi]) ?_
  rw [e6, mup58, e3, mup58]
  rfl
def ywN (S : Nat → Int32) : Nat → (Nat → Int32)
  | 0 => S
  | n + 1 => ywS (ywN S n)
def gyF (S : Nat → Int32) : Nat → Int32
  | 0 => 0
  | n + 1 => if gyF S n < abF (ywN S (n + 1) 3) then abF (ywN S (n + 1) 3) else gyF S n
theorem ywN_s (S : Nat → Int32) (n : Nat) : ywN S (n + 1) = ywS (ywN S n) := rfl
theorem gyF_s (S : Nat → Int32) (n : Nat) : gyF S (n + 1) = if gyF S n < abF (ywN S (n + 1) 3) then abF (ywN S (n + 1) 3) else gyF S n := rfl
theorem ywN_o {S : Nat → Int32} {k : Nat} (h3 : k ≠ 3) (h4 : k ≠ 4) : ∀ n, ywN S n k = S k
  | 0 => rfl
  | n + 1 => by rw [ywN_s, ywS_o h3 h4]; exact ywN_o h3 h4 n
theorem ywN_add (S : Nat → Int32) (m : Nat) : ∀ n, ywN (ywN S m) n = ywN S (m + n)
  | 0 => rfl
  | n + 1 => by rw [ywN_s, ywN_add S m n]; rfl
theorem SI.yaw {S : Nat → Int32} {c : Nat} (h : SI S c) (n : Nat) : SI (ywN S n) c := by
  obtain ⟨a1, a2, a3, a4⟩ := h
  refine ⟨a1, by rw [ywN_o (by omega) (by omega)]; exact a2, fun k hk => by rw [ywN_o (by omega) (by omega)]; exact a3 k hk, fun p hp => ?_⟩
  rw [ywN_o (by omega) (by omega), ywN_o (by omega) (by omega), ywN_o (by omega) (by omega), ywN_o (by omega) (by omega)]
  exact a4 p hp
theorem x_gyaw {M : Mem} {t c d n : Nat} {S : Nat → Int32} {x : Int32} {post : Int32 → Mem → Prop} (hx : x = nI n) (hn : n ≤ 400) (hT : TW M t S c) (ht : t ≤ 3) (hd : d ≤ 9) (e11 : S 11 = nI d) (k : ∀ M1, (∀ i, i ≠ t → M1 i = M i) → TW M1 t (ywN S n) c → post (gyF S n) M1) : q_X4_greatestYaw M t x post := by
  subst hx
  refine lo2 (fun m i (s : Mem) (a : Int32) => lp_X4_greatestYaw_4 post m s t (nI n) a (nI i)) (fun i s a => (∀ j, j ≠ t → s j = M j) ∧ TW s t (ywN S i) c ∧ a = gyF S i) n 0 M 0 (by omega) ⟨fun _ _ => rfl, hT, rfl⟩ (fun m s a hs => ?_) (fun m i s a hi hs kk => ?_)
  · obtain ⟨s1, s2, rfl⟩ := hs
    exact bp (Int32.le_refl _) (k s s1 s2)
  · obtain ⟨s1, s2, rfl⟩ := hs
    refine bn (nI_ge hi (by omega)) (x_yaw s2 ht hd (by rw [ywN_o (by omega) (by omega)]; exact e11) (fun M1 f1 t1 => ?_))
    intro v4 e4
    rw [nI_1]
    refine kk M1 v4 ⟨fun j hj => (f1 j hj).trans (s1 j hj), t1, ?_⟩
    rw [e4, gyF_s, Int32.zero_sub, show M1 t 3 = ywN S (i + 1) 3 from t1.1.2.1]
    rfl
theorem e_yaws : lh_18 Rel := by
  intro M x hR
  obtain ⟨c, hS, hT⟩ := hR.of
  obtain ⟨d, _, hd, e11⟩ := hS.2.2.1 6 (by omega)
  have hd : d ≤ 9 := hd
  have e11 : M 58 11 = nI d := e11
  refine x_in 1 400 rfl rfl (by omega) (by omega) (fun hno => b0 ?_) (fun n h1 h2 e => b1 (x_gyaw e h2 hT (by omega) hd e11 (fun M1 f1 t1 => ?_)))
  · exact m_no 1 400 rfl rfl (by omega) (by omega) hno (b0 ⟨rfl, hR⟩)
  · subst e
    have g58 : M1 58 = M 58 := f1 58 (by omega)
    refine m_yes 1 400 n rfl rfl rfl ⟨h1, h2⟩ (by omega) (b1 ?_)
    refine pk_loop (fun m i (s : Mem) => lp_X6_yaws_17 (fun r2 M2 => M1 1 3 = r2 ∧ Rel M2) m s (nI n) (nI i)) (fun i s => (∀ j, j ≠ 58 → s j = M1 j) ∧ s 58 = ywN (M 58) i) n 0 M1 (by omega) ⟨fun _ _ => rfl, g58⟩ (fun m s hs => ?_) (fun m i s hi hs kk => ?_)
    · obtain ⟨s1, s2⟩ := hs
      refine bp (Int32.le_refl _) ⟨?_, ?_⟩
      · rw [s2]; exact t1.1.2.1
      · have hc := hS.1
        refine hR.nows (c := c) (fun i a1 _ _ a4 _ _ _ _ _ _ _ _ _ _ => by rw [s1 i a4, f1 i a1]) (by rw [s1 57 (by omega), f1 57 (by omega)]) (by rw [s2]; exact hS.yaw n) ?_
        rw [s2]
        exact t1.mem (s1 _ (by omega)) (s1 _ (by omega)) (fun p hp => s1 _ (by omega))
    · obtain ⟨s1, s2⟩ := hs
      refine bn (nI_ge hi (by omega)) (m_yaw hd (by rw [s2, ywN_o (by omega) (by omega)]; exact e11) (fun M3 f3 g3 => ?_))
      rw [nI_1]
      exact kk M3 ⟨fun j hj => (f3 j hj).trans (s1 j hj), by rw [g3, s2, ywN_s]⟩
