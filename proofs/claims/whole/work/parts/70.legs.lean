/-! PURE: legs -/
theorem x_bytes {M : Mem} {x : Int32} {post : Int32 → Mem → Prop} (h0 : (∀ d, d < 8 → x ≠ nI d) → post (-1) M) (h1 : ∀ d, d < 8 → x = nI d → (M (14 + d) 0 = 0 → post (-11) M) ∧ (¬ M (14 + d) 0 = 0 → M (14 + d) 0 = 2 → M (14 + d) 2 = 0 → post 0 M) ∧ (¬ M (14 + d) 0 = 0 → ¬ (M (14 + d) 0 = 2 ∧ M (14 + d) 2 = 0) → post (-12) M)) : q_X5_refusalOfBytes M x post := by
  unfold q_X5_refusalOfBytes q_X5_refusalOfRow j_X5_refusalOfBytes_30
  refine x_holding (fun hno => bn (by decide) (h0 hno)) (fun d hd e => ?_)
  obtain ⟨a, b, c⟩ := h1 d hd e
  subst e
  refine ⟨fun z => bn (by decide) (a z), fun z z2 => bp (by decide) ⟨vin_d hd, ?_⟩, fun z z2 => bn (by decide) (c z (fun w => z2 w.1))⟩
  rw [cl (by omega)]
  exact ⟨fun w => b z z2 w, fun w => c z (fun v => w v.2)⟩
theorem m_in (a b : Nat) {M : Mem} {x : Int32} {A6 B6 : Int64} {post : Int32 → Mem → Prop} (hA : A6 = (nI a).toInt64) (hB : B6 = (nI b).toInt64) (hab : a ≤ b) (hb : b < 2 ^ 31) (h0 : (∀ n, a ≤ n → n ≤ b → x ≠ nI n) → post 0 M) (h1 : ∀ n, a ≤ n → n ≤ b → x = nI n → post 1 M) : q_X6_isIn M x.toInt64 A6 B6 post := by
  refine m_within hA hB (fun z => h0 (fun n h2 h3 e => z ?_)) (fun z => ?_)
  · rw [e, nI_leI (by omega) (by omega), nI_leI (by omega) (by omega)]; exact ⟨h2, h3⟩
  · obtain ⟨n, h2, h3, e⟩ := rng_of hab hb z
    exact h1 n h2 h3 e
def LGP (E : Nat → Int32) (i : Nat) : Prop := (∃ h, 1 ≤ h ∧ h ≤ 99 ∧ E (3 * i) = nI h) ∧ (∃ y, y ≤ 60 ∧ E (3 * i + 1) = nI y) ∧ ∃ w, w ≤ 9 ∧ E (3 * i + 2) = nI w
def LGS (E : Nat → Int32) (n : Nat) : Prop := n ≠ 0 ∧ n % 3 = 0 ∧ n ≤ 24 ∧ ∀ i, 3 * i < n → LGP E i
theorem nx3 (i : Nat) : nI (3 * i) + 3 = nI (3 * (i + 1)) := nI_add (3 * i) 3
theorem nx2 (i : Nat) : nI i + 2 = nI (i + 2) := nI_add i 2
theorem n3x (i : Nat) : 3 * nI i = nI (3 * i) := pk_mul 3 i
theorem nd3 {n : Nat} (h : n ≤ 100) : nI n / 3 = nI (n / 3) := pk_div (d := 3) (by omega) (by omega) (by omega)
theorem nm3 {n : Nat} (h : n ≤ 100) : nI n - nI n / 3 * 3 = nI (n % 3) := pk_rem (d := 3) (by omega) (by omega) (by omega)
theorem x_holdsLegs {M : Mem} {a n : Nat} {post : Int32 → Mem → Prop} (hn : n ≤ 100) (hs : M a 3 = nI n) (h0 : ¬ LGS (M (8 + a)) n → post 0 M) (h1 : LGS (M (8 + a)) n → post 1 M) : q_X3_holdsLegs M a post := by
  unfold q_X3_holdsLegs j_X3_holdsLegs_25
  rw [hs, nm3 hn]
  refine ⟨fun z => h0 (fun w => ?_), fun z => ⟨fun z2 => ⟨fun z3 => ?_, fun z3 => h0 (fun w => z3 (nI_le (b := 24) w.2.2.1 (by omega)))⟩, fun z2 => h0 (fun w => z2 (by rw [w.2.1]; rfl))⟩⟩
  · exact nI_ne0 (Nat.pos_of_ne_zero w.1) (by omega) z
  · have a1 : n ≠ 0 := fun w => z (by rw [w]; rfl)
    have a2 : n % 3 = 0 := (nI_eq (a := n % 3) (b := 0) (by omega) (by omega)).mp z2
    have a3 : n ≤ 24 := (nI_leI (b := 24) (by omega) (by omega)).mp z3
    refine pk_loop (fun k i (s : Mem) => lp_X3_holdsLegs_29 post k s a (nI (3 * i))) (fun i s => s = M ∧ ∀ j, j < i → LGP (M (8 + a)) j) (n / 3) 0 M (by omega) ⟨rfl, fun j hj => by omega⟩ (fun k s hs' => ?_) (fun k i s hi hs' kk => ?_)
    · obtain ⟨rfl, hs'⟩ := hs'
      unfold lp_X3_holdsLegs_29 b_X3_holdsLegs_29
      rw [hs]
      exact bp (nI_le (by omega) (by omega)) (h1 ⟨a1, a2, a3, fun i hi => hs' i (by omega)⟩)
    · obtain ⟨rfl, hs'⟩ := hs'
      unfold lp_X3_holdsLegs_29 b_X3_holdsLegs_29 j_X3_holdsLegs_82
      rw [hs, nI_1, nx2, nx3, cl (n := 3 * i) (by omega), cl (n := 3 * i + 1) (by omega), cl (n := 3 * i + 2) (by omega)]
      refine bn (nI_ge (by omega) (by omega)) ⟨nI_in (by omega) (by omega), x_in 1 99 rfl rfl (by omega) (by omega) (fun hno => b0 (h0 (fun w => ?_))) (fun h g1 g2 ge => b1 ⟨nI_in (by omega) (by omega), x_maySet (fun hno => b0 (h0 (fun w => ?_))) (fun k2 y hk2 ek y1 y2 ye => b1 ⟨nI_in (by omega) (by omega), x_maySet (fun hno => b0 (h0 (fun w => ?_))) (fun k3 v hk3 ek3 v1 v2 ve => b1 (kk s ⟨rfl, fun j hj => ?_⟩))⟩)⟩)⟩
      · obtain ⟨h, a, b, e⟩ := (w.2.2.2 i (by omega)).1
        exact hno h a b e
      · obtain ⟨y, a, e⟩ := (w.2.2.2 i (by omega)).2.1
        exact hno 0 y (by omega) rfl (Nat.zero_le _) a e
      · obtain ⟨v, a, e⟩ := (w.2.2.2 i (by omega)).2.2
        exact hno 2 v (by omega) rfl (Nat.zero_le _) a e
      · by_cases hj2 : j = i
        · subst hj2
          have t2 : 0 = k2 := (nI_eq (a := 0) (b := k2) (by omega) (by omega)).mp ek
          have t3 : 2 = k3 := (nI_eq (a := 2) (b := k3) (by omega) (by omega)).mp ek3
          subst t2 t3
          exact ⟨⟨h, g1, g2, ge⟩, ⟨y, y2, ye⟩, ⟨v, v2, ve⟩⟩
        · exact hs' j (by omega)
theorem m_wrongLegs {M : Mem} {d n : Nat} {post : Int32 → Mem → Prop} (hd : d < 8) (hn : n ≤ 100) (k2 : M 62 d = 2) (k0 : M 63 d = 0) (hs : M 64 d = nI n) (h0 : ¬ LGS (fun i => M 65 (100 * d + i)) n → post (-13) M) (h1 : LGS (fun i => M 65 (100 * d + i)) n → post 0 M) : q_X6_wrongLegs M (nI d) post := by
  refine m_wrongRow hd (fun w => absurd w (by rw [k2]; decide)) (fun _ _ _ => b0 ⟨vin_d hd, ?_⟩) (fun _ w => absurd k0 (w k2).2)
  unfold j_X6_wrongLegs_44
  rw [cl (by omega), hs, nm3 hn]
  refine ⟨fun z => h0 (fun w => ?_), fun z => ⟨fun z2 => ⟨fun z3 => ?_, fun z3 => h0 (fun w => z3 (nI_le (b := 24) w.2.2.1 (by omega)))⟩, fun z2 => h0 (fun w => z2 (by rw [w.2.1]; rfl))⟩⟩
  · exact nI_ne0 (Nat.pos_of_ne_zero w.1) (by omega) z
  · have a1 : n ≠ 0 := fun w => z (by rw [w]; rfl)
    have a2 : n % 3 = 0 := (nI_eq (a := n % 3) (b := 0) (by omega) (by omega)).mp z2
    have a3 : n ≤ 24 := (nI_leI (b := 24) (by omega) (by omega)).mp z3
    refine pk_loop (fun k i (s : Mem) => lp_X6_wrongLegs_49 post k s (nI d) (nI (3 * i))) (fun i s => s = M ∧ ∀ j, j < i → LGP (fun i => M 65 (100 * d + i)) j) (n / 3) 0 M (by omega) ⟨rfl, fun j hj => by omega⟩ (fun k s hs' => ?_) (fun k i s hi hs' kk => ?_)
    · obtain ⟨rfl, hs'⟩ := hs'
      unfold lp_X6_wrongLegs_49 b_X6_wrongLegs_49
      rw [cl (by omega), hs]
      exact ⟨vin_d hd, bp (nI_le (by omega) (by omega)) (h1 ⟨a1, a2, a3, fun i hi => hs' i (by omega)⟩)⟩
    · obtain ⟨rfl, hs'⟩ := hs'
      unfold lp_X6_wrongLegs_49 b_X6_wrongLegs_49 j_X6_wrongLegs_125
      rw [cl (n := d) (by omega), hs, ix_e, nI_1, nx2, nx3, cl (n := 100 * d + 3 * i) (by omega), cl (n := 100 * d + 3 * i + 1) (by omega), cl (n := 100 * d + 3 * i + 2) (by omega)]
      refine ⟨vin_d hd, bn (nI_ge (by omega) (by omega)) ⟨nI_in (by omega) (by omega), m_in 1 99 rfl rfl (by omega) (by omega) (fun hno => b0 (h0 (fun w => ?_))) (fun h g1 g2 ge => b1 ⟨nI_in (by omega) (by omega), m_in 0 60 rfl rfl (by omega) (by omega) (fun hno => b0 (h0 (fun w => ?_))) (fun y y1 y2 ye => b1 ⟨nI_in (by omega) (by omega), m_in 0 9 rfl rfl (by omega) (by omega) (fun hno => b0 (h0 (fun w => ?_))) (fun v v1 v2 ve => b1 (kk s ⟨rfl, fun j hj => ?_⟩))⟩)⟩)⟩⟩
      · obtain ⟨h, a, b, e⟩ := (w.2.2.2 i (by omega)).1
        exact hno h a b e
      · obtain ⟨y, a, e⟩ := (w.2.2.2 i (by omega)).2.1
        exact hno y (Nat.zero_le _) a e
      · obtain ⟨v, a, e⟩ := (w.2.2.2 i (by omega)).2.2
        exact hno v (Nat.zero_le _) a e
      · by_cases hj2 : j = i
        · subst hj2
          exact ⟨⟨h, g1, g2, ge⟩, ⟨y, y2, ye⟩, ⟨v, v2, ve⟩⟩
        · exact hs' j (by omega)
/-- the greatest pull of a leg; of all legs; hours; which to slow -/
def lgG (f h g : Int32) (L : Nat) (E : Nat → Int32) (st : Int32) (i : Nat) : Int32 := mxP (PL f h g (E (3 * i + 1)) (nI L) (if nI i = st then 0 else E (3 * i + 2))) L
def hrS (E : Nat → Int32) : Nat → Int32
  | 0 => 0
  | i + 1 => hrS E i + E (3 * i)
theorem hr_s (E : Nat → Int32) (i : Nat) : hrS E (i + 1) = hrS E i + E (3 * i) := rfl
def lsT (G : Nat → Int32) : Nat → Int32 × Int32
  | 0 => (0, G 0)
  | k + 1 => if G (k + 1) < (lsT G k).2 then (nI (k + 1), G (k + 1)) else lsT G k
theorem ls_s (G : Nat → Int32) {i : Nat} (h : 1 ≤ i) : lsT G (i + 1 - 1) = if G i < (lsT G (i - 1)).2 then (nI i, G i) else lsT G (i - 1) := by
  obtain ⟨k, rfl⟩ : ∃ k, i = k + 1 := ⟨i - 1, by omega⟩
  rfl
theorem x_gol {M : Mem} {a n L : Nat} {f h g y v st : Int32} {E : Nat → Int32} {post : Int32 → Mem → Prop} (hn : n ≤ 24) (hs : M a 3 = nI n) (hE : ∀ i, i < n → M (8 + a) i = E i) (hok : ∀ i, 3 * i < n → LGP E i) (ha : 4 < a) (n1 : LN M f h g y (nI L) v) (oG : ∃ G : Nat, G < 2 ^ 31 ∧ g = nI G) (h4 : 4 ≤ L) (hL : L ≤ 40) (k : ∀ M1 y1 v1, (∀ j, j ≠ 4 → M1 j = M j) → LN M1 f h g y1 (nI L) v1 → post (mxP (lgG f h (gvR g) L E st) (n / 3)) M1) : q_X5_greatestOfLegs M a st post := by
  refine lo2 (fun m i (s : Mem) (b : Int32) => lp_X5_greatestOfLegs_5 post m s a st b (nI i)) (fun i s b => (∀ j, j ≠ 4 → s j = M j) ∧ (∃ y1 v1, LN s f h g y1 (nI L) v1) ∧ b = mxP (lgG f h (gvR g) L E st) i) (n / 3) 0 M 0 (by omega) ⟨fun _ _ => rfl, ⟨y, v, n1⟩, rfl⟩ (fun m s b hs' => ?_) (fun m i s b hi hs' kk => ?_)
  · obtain ⟨s1, ⟨y1, v1, s2⟩, rfl⟩ := hs'
    unfold lp_X5_greatestOfLegs_5 b_X5_greatestOfLegs_5 q_X3_legsHeld
    rw [s1 a (by omega), hs, nd3 (by omega)]
    exact bp (Int32.le_refl _) (k s y1 v1 s1 s2)
  · obtain ⟨s1, ⟨y1, v1, s2⟩, rfl⟩ := hs'
    unfold lp_X5_greatestOfLegs_5 b_X5_greatestOfLegs_5 q_X3_legsHeld
    dsimp only
    rw [s1 a (by omega), hs, nd3 (by omega), n3x, nI_1, nx2, cl (n := 3 * i + 1) (by omega), cl (n := 3 * i + 2) (by omega), s1 (8 + a) (by omega), hE (3 * i + 1) (by omega)]
    obtain ⟨-, -, w, hw, ew⟩ := hok i (by omega)
    refine bn (nI_ge hi (by omega)) ⟨nI_in (by omega) (by omega), fun M8 e8 => ?_⟩
    have key : ∀ v2, (∃ w : Nat, w ≤ 9 ∧ v2 = nI w) → (if nI i = st then 0 else E (3 * i + 2)) = v2 → j_X5_greatestOfLegs_57 (lp_X5_greatestOfLegs_5 post m) post M8 v2 a st (mxP (lgG f h (gvR g) L E st) i) (nI i) := fun v2 hv e2 => by
      intro M9 e9
      have n9 : LN M9 f h g (E (3 * i + 1)) (nI L) v2 := by
        obtain ⟨a0, a1, a2, a3, a4, a5⟩ := s2
        subst e9 e8
        simp [LN, mup_eq, a0, a1, a2, a4]
      refine l_great n9 ⟨oG, ⟨L, h4, hL, rfl⟩, hv⟩ hL ?_
      have eG : lgG f h (gvR g) L E st i = mxP (PL f h (gvR g) (E (3 * i + 1)) (nI L) v2) L := by
        unfold lgG
        rw [e2]
      rw [nI_1, ← eG]
      refine kk M9 _ ⟨fun j hj => by rw [e9, mup_ne _ _ _ hj, e8, mup_ne _ _ _ hj, s1 j hj], ⟨_, _, n9⟩, (mxP_s _ _).symm⟩
    refine ⟨fun z => key 0 ⟨0, by omega, rfl⟩ (by rw [if_pos z]), fun z => ⟨nI_in (by omega) (by omega), ?_⟩⟩
    have e88 : M8 (8 + a) = M (8 + a) := by rw [e8, mup_ne _ _ _ (by omega), s1 _ (by omega)]
    rw [e88, hE (3 * i + 2) (by omega)]
    exact key _ ⟨w, hw, ew⟩ (by rw [if_neg z])
theorem x_hours {M : Mem} {a n : Nat} {E : Nat → Int32} {post : Int32 → Mem → Prop} (hn : n ≤ 24) (hs : M a 3 = nI n) (hE : ∀ i, i < n → M (8 + a) i = E i) (k : post (hrS E (n / 3)) M) : q_X5_hoursOfLegs M a post := by
  refine lo2 (fun m i (s : Mem) (b : Int32) => lp_X5_hoursOfLegs_4 post m s a b (nI i)) (fun i s b => s = M ∧ b = hrS E i) (n / 3) 0 M 0 (by omega) ⟨rfl, rfl⟩ (fun m s b hs' => ?_) (fun m i s b hi hs' kk => ?_)
  · obtain ⟨rfl, rfl⟩ := hs'
    unfold lp_X5_hoursOfLegs_4 b_X5_hoursOfLegs_4 q_X3_legsHeld
    rw [hs, nd3 (by omega)]
    exact bp (Int32.le_refl _) k
  · obtain ⟨rfl, rfl⟩ := hs'
    unfold lp_X5_hoursOfLegs_4 b_X5_hoursOfLegs_4 q_X3_legsHeld
    dsimp only
    rw [hs, nd3 (by omega), n3x, nI_1, cl (n := 3 * i) (by omega), hE (3 * i) (by omega)]
    exact bn (nI_ge hi (by omega)) ⟨nI_in (by omega) (by omega), fun v5 e5 => kk s _ ⟨rfl, by rw [e5, hr_s]⟩⟩
theorem x_slow {M : Mem} {a n L : Nat} {f h g y v : Int32} {E : Nat → Int32} {post : Int32 → Mem → Prop} (hn : n ≤ 24) (h3 : 3 ≤ n) (hs : M a 3 = nI n) (hE : ∀ i, i < n → M (8 + a) i = E i) (hok : ∀ i, 3 * i < n → LGP E i) (ha : 4 < a) (n1 : LN M f h g y (nI L) v) (oG : ∃ G : Nat, G < 2 ^ 31 ∧ g = nI G) (h4 : 4 ≤ L) (hL : L ≤ 40) (k : ∀ M1, (∀ j, j ≠ 4 → M1 j = M j) → post (lsT (fun i => mxP (lgG f h (gvR g) L E (nI i)) (n / 3)) (n / 3 - 1)).1 M1) : q_X5_legToSlow M a post := by
  refine x_gol (st := nI 0) hn hs hE hok ha n1 oG h4 hL (fun M1 y1 v1 f1 m1 => ?_)
  generalize hG : (fun i => mxP (lgG f h (gvR g) L E (nI i)) (n / 3)) = G at k
  have hGi : ∀ i, mxP (lgG f h (gvR g) L E (nI i)) (n / 3) = G i := fun i => by rw [← hG]
  rw [hGi]
  refine lo3 (fun m i (s : Mem) (b e : Int32) => lp_X5_legToSlow_12 post m s a b e (nI i)) (fun i s b e => 1 ≤ i ∧ (∀ j, j ≠ 4 → s j = M j) ∧ (∃ y1 v1, LN s f h g y1 (nI L) v1) ∧ b = (lsT G (i - 1)).1 ∧ e = (lsT G (i - 1)).2) (n / 3) 1 M1 0 (G 0) (by omega) ⟨by omega, f1, ⟨y1, v1, m1⟩, rfl, rfl⟩ (fun m s b e hs' => ?_) (fun m i s b e hi hs' kk => ?_)
  · obtain ⟨-, s1, -, rfl, rfl⟩ := hs'
    unfold lp_X5_legToSlow_12 b_X5_legToSlow_12 q_X3_legsHeld
    rw [s1 a (by omega), hs, nd3 (by omega)]
    exact bp (Int32.le_refl _) (k s s1)
  · obtain ⟨s0, s1, ⟨y2, v2, s2⟩, rfl, rfl⟩ := hs'
    unfold lp_X5_legToSlow_12 b_X5_legToSlow_12 q_X3_legsHeld j_X5_legToSlow_42
    rw [s1 a (by omega), hs, nd3 (by omega)]
    refine bn (nI_ge hi (by omega)) (x_gol hn (by rw [s1 a (by omega)]; exact hs) (fun i hi => by rw [s1 (8 + a) (by omega)]; exact hE i hi) hok ha s2 oG h4 hL (fun M2 y3 v3 f3 m3 => ?_))
    rw [hGi, nI_1]
    have hst := ls_s G s0
    have g2 : ∀ j, j ≠ 4 → M2 j = M j := fun j hj => (f3 j hj).trans (s1 j hj)
    refine ⟨fun c => kk M2 _ _ ⟨by omega, g2, ⟨y3, v3, m3⟩, ?_, ?_⟩, fun c => kk M2 _ _ ⟨by omega, g2, ⟨y3, v3, m3⟩, ?_, ?_⟩⟩
    · rw [hst, if_neg (nlt_le.mpr c)]
    · rw [hst, if_neg (nlt_le.mpr c)]
    · rw [hst, if_pos (nle_lt.mp c)]
    · rw [hst, if_pos (nle_lt.mp c)]
theorem m_gby {M : Mem} {f h g x1 x2 : Int32} {L w : Nat} {post : Int32 → Mem → Prop} (n : LM M f h g) (eL : M 58 6 = nI L) (h4 : 4 ≤ L) (hL : L ≤ 40) (hg : ¬ g = 0) (hw : w ≤ 9) (ew : x2 = nI w) (h0 : ∀ t, t < L → 0 ≤ PL f h g x1 (nI L) x2 t) (k : ∀ M1, Kq M M1 → LM M1 f h g → post (mxP (PL f h g x1 (nI L) x2) L) M1) : q_X6_greatestBy M x1 x2 post := by
  intro M1 e1 M2 e2
  have e5 : M2 58 5 = x1 := by subst e2 e1; simp [mup_eq]
  have e6 : M2 58 6 = nI L := by subst e2 e1; simp [mup_eq, eL]
  have e7 : M2 58 7 = x2 := by subst e2 e1; simp [mup_eq]
  have er : ∀ k, k ≠ 5 → k ≠ 7 → M2 58 k = M 58 k := fun k h5 h7 => by subst e2 e1; simp [mup_eq, h5, h7]
  have eo : ∀ i, i ≠ 58 → M2 i = M i := fun i hi => by rw [e2, mup_ne _ _ _ hi, e1, mup_ne _ _ _ hi]
  have n2 : LM M2 f h g := by unfold LM; rw [eo 57 (by omega)]; exact n
  refine m_great n2 ⟨⟨L, h4, hL, e6⟩, w, hw, by rw [e7]; exact ew⟩ hg e6 hL (by rw [e5, e7]; exact h0) (by omega) (fun M4 k4 n4 _ _ => ?_)
  rw [e5, e7]
  intro M5 e5' M6 e6'
  have f57 : M6 57 = M4 57 := by rw [e6', mup_ne _ _ _ (by omega), e5', mup_ne _ _ _ (by omega)]
  refine k M6 ⟨fun i hi => ?_, fun j hj => ?_⟩ (by unfold LM; rw [f57]; exact n4)
  · by_cases h58 : i = 58
    · subst h58
      funext q
      rw [e6', mup_eq]
      by_cases q7 : q = 7
      · rw [if_pos ⟨rfl, q7⟩, q7]
      · rw [if_neg (fun u => q7 u.2), e5', mup_eq]
        by_cases q5 : q = 5
        · rw [if_pos ⟨rfl, q5⟩, q5]
        · rw [if_neg (fun u => q5 u.2), k4.1 58 (by omega), er q q5 q7]
    · rw [e6', mup_ne _ _ _ h58, e5', mup_ne _ _ _ h58, k4.1 i hi, eo i h58]
  · rw [f57, k4.2 j hj, eo 57 (by omega)]
theorem m_gol {M : Mem} {d n L : Nat} {f h g st : Int32} {E : Nat → Int32} {post : Int32 → Mem → Prop} (hd : d < 8) (hn : n ≤ 24) (h3 : 3 ≤ n) (hs : M 64 d = nI n) (hE : ∀ i, i < n → M 65 (100 * d + i) = E i) (hok : ∀ i, 3 * i < n → LGP E i) (n1 : LM M f h g) (eL : M 58 6 = nI L) (h4 : 4 ≤ L) (hL : L ≤ 40) (hg : ¬ g = 0) (h0 : ∀ Y w : Nat, Y ≤ 60 → w ≤ 9 → ∀ t, t < L → 0 ≤ PL f h g (nI Y) (nI L) (nI w) t) (hm3 : n % 3 = 0) (k : ∀ M1, Kq M M1 → LM M1 f h g → post (mxP (lgG f h g L E st) (n / 3)) M1) : q_X6_greatestLegs M (nI d) st post := by
  refine lo2 (fun m i (s : Mem) (b : Int32) => lp_X6_greatestLegs_5 post m s (nI d) st b (nI i)) (fun i s b => Kq M s ∧ LM s f h g ∧ (i = 0 → b = -1) ∧ (0 < i → b = mxP (lgG f h g L E st) i)) (n / 3) 0 M (-1) (by omega) ⟨Kq.rf, n1, fun _ => rfl, fun z => by omega⟩ (fun m s b hs' => ?_) (fun m i s b hi hs' kk => ?_)
  · obtain ⟨s1, s2, -, s4⟩ := hs'
    rw [s4 (by omega)]
    unfold lp_X6_greatestLegs_5 b_X6_greatestLegs_5
    rw [cl (by omega), s1.1 64 (by omega), hs, nd3 (by omega)]
    exact ⟨vin_d hd, bp (Int32.le_refl _) (k s s1 s2)⟩
  · obtain ⟨s1, s2, s3, s4⟩ := hs'
    obtain ⟨-, ⟨Y, hY, eY⟩, w, hw, ew⟩ := hok i (by omega)
    unfold lp_X6_greatestLegs_5 b_X6_greatestLegs_5
    rw [cl (n := d) (by omega), s1.1 64 (by omega), s1.1 65 (by omega), hs, nd3 (by omega)]
    refine ⟨vin_d hd, bn (nI_ge hi (by omega)) (fun v6 e6 => ?_)⟩
    rw [n3x, ix_e] at e6
    subst e6
    rw [nI_1, nx2, cl (n := 100 * d + 3 * i + 1) (by omega), cl (n := 100 * d + 3 * i + 2) (by omega)]
    have q1 : M 65 (100 * d + 3 * i + 1) = nI Y := by rw [show 100 * d + 3 * i + 1 = 100 * d + (3 * i + 1) by omega, hE _ (by omega), eY]
    have q2 : M 65 (100 * d + 3 * i + 2) = nI w := by rw [show 100 * d + 3 * i + 2 = 100 * d + (3 * i + 2) by omega, hE _ (by omega), ew]
    rw [q1, q2]
    have key : ∀ w2 : Nat, w2 ≤ 9 → (if nI i = st then 0 else E (3 * i + 2)) = nI w2 → j_X6_greatestLegs_58 (lp_X6_greatestLegs_5 post m) post s (nI w2) (nI Y) (nI d) st b (nI i) := fun w2 hw2 e2 => by
      have eG : lgG f h g L E st i = mxP (PL f h g (nI Y) (nI L) (nI w2)) L := by
        unfold lgG
        rw [e2, eY]
      refine m_gby s2 (by rw [s1.1 58 (by omega)]; exact eL) h4 hL hg hw2 rfl (h0 Y w2 hY hw2) (fun M2 k2 n2 => ?_)
      rw [← eG]
      unfold j_X6_greatestLegs_75
      rw [nI_1]
      by_cases z : i = 0
      · subst z
        have hp : 0 ≤ lgG f h g L E st 0 := by unfold lgG; exact mxP_0 _
        have hneg : ¬ lgG f h g L E st 0 ≤ b := by
          rw [s3 rfl, nle_lt]
          rw [Int32.le_iff_toInt_le] at hp
          rw [Int32.lt_iff_toInt_lt]
          have e0 : (0 : Int32).toInt = 0 := rfl
          have e1 : (-1 : Int32).toInt = -1 := by decide
          omega
        refine bn hneg (kk M2 _ ⟨s1.tr k2, n2, fun z => by omega, fun _ => ?_⟩)
        rw [mxP_s, mxP_z]
        by_cases c : (0 : Int32) < lgG f h g L E st 0
        · rw [if_pos c]
        · rw [if_neg c]
          exact Int32.le_antisymm (nlt_le.mp c) hp
      · have eb := s4 (by omega)
        refine ⟨fun c => kk M2 _ ⟨s1.tr k2, n2, fun z => by omega, fun _ => ?_⟩, fun c => kk M2 _ ⟨s1.tr k2, n2, fun z => by omega, fun _ => ?_⟩⟩
        · rw [mxP_s, ← eb, if_neg (nlt_le.mpr c)]
        · rw [mxP_s, ← eb, if_pos (nle_lt.mp c)]
    refine ⟨nI_in (by omega) (by omega), fun z => key 0 (by omega) (by rw [if_pos z]; rfl), fun z => ⟨nI_in (by omega) (by omega), key w hw (by rw [if_neg z]; exact ew)⟩⟩
theorem m_slow {M : Mem} {d n L : Nat} {f h g x2 : Int32} {E : Nat → Int32} {post : Int32 → Mem → Prop} (hd : d < 8) (hn : n ≤ 24) (h3 : 3 ≤ n) (hs : M 64 d = nI n) (hE : ∀ i, i < n → M 65 (100 * d + i) = E i) (hok : ∀ i, 3 * i < n → LGP E i) (n1 : LM M f h g) (eL : M 58 6 = nI L) (h4 : 4 ≤ L) (hL : L ≤ 40) (hg : ¬ g = 0) (h0 : ∀ Y w : Nat, Y ≤ 60 → w ≤ 9 → ∀ t, t < L → 0 ≤ PL f h g (nI Y) (nI L) (nI w) t) (hm3 : n % 3 = 0) (k : ∀ M1, Kq M M1 → (x2 = 1 → post (hrS E (n / 3)) M1) ∧ (¬ x2 = 1 → post (lsT (fun i => mxP (lgG f h g L E (nI i)) (n / 3)) (n / 3 - 1)).1 M1)) : ∃ m, lp_X6_legs_79 post m M (nI d) x2 0 0 0 0 := by
  generalize hG : (fun i => mxP (lgG f h g L E (nI i)) (n / 3)) = G at k
  have hGi : ∀ i, mxP (lgG f h g L E (nI i)) (n / 3) = G i := fun i => by rw [← hG]
  refine lo4 (fun m i (s : Mem) (b e u : Int32) => lp_X6_legs_79 post m s (nI d) x2 b e u (nI i)) (fun i s b e u => Kq M s ∧ LM s f h g ∧ u = hrS E i ∧ (0 < i → b = (lsT G (i - 1)).1 ∧ e = (lsT G (i - 1)).2)) (n / 3) 0 M 0 0 0 (by omega) ⟨Kq.rf, n1, rfl, fun z => by omega⟩ (fun m s b e u hs' => ?_) (fun m i s b e u hi hs' kk => ?_)
  · obtain ⟨s1, s2, rfl, s4⟩ := hs'
    obtain ⟨rfl, rfl⟩ := s4 (by omega)
    unfold lp_X6_legs_79 b_X6_legs_79 j_X6_legs_161
    rw [cl (by omega), s1.1 64 (by omega), hs, nd3 (by omega)]
    exact ⟨vin_d hd, bp (Int32.le_refl _) (k s s1)⟩
  · obtain ⟨s1, s2, rfl, s4⟩ := hs'
    unfold lp_X6_legs_79 b_X6_legs_79 j_X6_legs_135 j_X6_legs_143
    rw [cl (n := d) (by omega), s1.1 64 (by omega), s1.1 65 (by omega), hs, nd3 (by omega), n3x, ix_e, cl (n := 100 * d + 3 * i) (by omega), hE (3 * i) (by omega)]
    refine ⟨vin_d hd, bn (nI_ge hi (by omega)) ⟨nI_in (by omega) (by omega), fun v5 e5 => m_gol hd hn h3 (by rw [s1.1 64 (by omega)]; exact hs) (fun i hi => by rw [s1.1 65 (by omega)]; exact hE i hi) hok s2 (by rw [s1.1 58 (by omega)]; exact eL) h4 hL hg h0 hm3 (fun M2 k2 n2 => ?_)⟩⟩
    rw [hGi, nI_1]
    rw [← hr_s] at e5
    subst e5
    by_cases z : i = 0
    · subst z
      exact bp (Int32.le_refl _) (kk M2 _ _ _ ⟨s1.tr k2, n2, rfl, fun _ => ⟨rfl, rfl⟩⟩)
    · obtain ⟨rfl, rfl⟩ := s4 (by omega)
      have hst := ls_s G (show 1 ≤ i by omega)
      refine bn (nI_nle (by omega) (by omega)) ⟨fun c => kk M2 _ _ _ ⟨s1.tr k2, n2, rfl, fun _ => ?_⟩, fun c => kk M2 _ _ _ ⟨s1.tr k2, n2, rfl, fun _ => ?_⟩⟩
      · rw [hst, if_pos c]; exact ⟨rfl, rfl⟩
      · rw [hst, if_neg c]; exact ⟨rfl, rfl⟩
theorem LGS.cong {E E2 : Nat → Int32} {n : Nat} (h : LGS E n) (e : ∀ i, i < n → E2 i = E i) : LGS E2 n := by
  obtain ⟨a, b, c, k⟩ := h
  refine ⟨a, b, c, fun i hi => ?_⟩
  unfold LGP
  rw [e (3 * i) (by omega), e (3 * i + 1) (by omega), e (3 * i + 2) (by omega)]
  exact k i hi
theorem e_legs : lh_25 Rel := by
  intro M x1 x2 hR
  obtain ⟨c, hS, hT⟩ := hR.of
  have hI := Rel.mi hS hT
  have hc := hS.1
  obtain ⟨L, h4, hL, eL⟩ := hS.len
  refine x_in 0 2 rfl rfl (by omega) (by omega) (fun hno => b0 ?_) (fun w _ hw ew => b1 ?_)
  · by_cases hd : ∃ d, d < 8 ∧ x1 = nI d
    · obtain ⟨d, hd, e⟩ := hd
      exact m_shelf_yes hd e (b1 (m_no 0 2 rfl rfl (by omega) (by omega) hno (b0 ⟨rfl, hR⟩)))
    · exact m_shelf_no (fun d h e => hd ⟨d, h, e⟩) (b0 ⟨rfl, hR⟩)
  · refine x_bytes (fun hno => bn (by decide) ?_) (fun d hd e => ?_)
    · exact m_shelf_no hno (b0 ⟨rfl, hR⟩)
    · obtain ⟨d1, d2, d3, ⟨n, hn, ds1, ds2⟩, d5, d6⟩ := hR.2.2 d hd
      subst e
      rw [d1, d3]
      have ent : ∀ (M1 : Mem) (post : Int32 → Mem → Prop), q_X6_wrongLegs M1 (nI d) (fun r24 M25 => (r24 = 0 → (q_X6_isLine M25 (fun r27 M28 => (r27 = 0 → (j_X6_legs_41 post M28 (nI d) x2 (-3))) ∧ (¬ (r27 = 0) → (j_X6_legs_41 post M28 (nI d) x2 r24))))) ∧ (¬ (r24 = 0) → (j_X6_legs_41 post M25 (nI d) x2 r24))) → q_X6_legs M1 (nI d) x2 post := fun M1 post h => m_shelf_yes hd rfl (b1 (m_yes 0 2 w ew rfl rfl ⟨by omega, hw⟩ (by omega) (b1 h)))
      refine ⟨fun z => bn (by decide) (ent M _ ?_), fun z z2 z3 => bp (by decide) ⟨vin_d hd, ?_⟩, fun z z2 => bn (by decide) (ent M _ ?_)⟩
      · exact m_wrongRow hd (fun _ => bn (by decide) (bn (by decide) (bn (by decide) ⟨rfl, hR⟩))) (fun u => absurd z u) (fun u => absurd z u)
      · rw [cl (by omega)]
        obtain ⟨E, hE⟩ : ∃ E : Nat → Int32, E = fun i => M 65 (100 * d + i) := ⟨_, rfl⟩
        have hEm : ∀ i, M 65 (100 * d + i) = E i := fun i => by rw [hE]
        have hEc : ∀ i, i < 100 → M (8 + (14 + d)) i = E i := fun i hi => by rw [show 8 + (14 + d) = 22 + d by omega, d5 i hi, hEm]
        refine x_holdsLegs hn ds2 (fun hno => b0 (ent M _ (m_wrongLegs hd hn z2 z3 ds1 (fun _ => bn (by decide) (bn (by decide) ⟨rfl, hR⟩)) (fun u => absurd (u.cong (fun i hi => ?_)) hno)))) (fun hok => b1 ?_)
        · rw [hEc i (by omega), ← hEm]
        have hokE : LGS E n := hok.cong (fun i hi => (hEc i (by omega)).symm)
        have hokM : LGS (fun i => M 65 (100 * d + i)) n := by rw [← hE]; exact hokE
        obtain ⟨k1, k2, k3, k4⟩ := hokE
        refine x_lnq hT hS.1 (fun hnl => ?_) (fun hl M1 f1 n1 => ?_)
        · exact ent M _ (m_wrongLegs hd hn z2 z3 ds1 (fun u => absurd hokM u) (fun _ => b0 (m_isLine hI.1.2.1 hI.1.1 hI.2 (fun _ => b0 (bn (by decide) ⟨rfl, hR⟩)) (fun u => absurd u hnl))))
        · have hpos : ∀ Y w : Nat, Y ≤ 60 → w ≤ 9 → ∀ t, t < L → 0 ≤ PL (sF (M 58) al c) (sH (M 58) al c) (gvR (sG (M 58) al c)) (nI Y) (nI L) (nI w) t := fun Y w hY hw t ht => by
            obtain ⟨N, hN, e⟩ := pos_of (b := al) (fun p hp => (hS.pb p hp).mono (by omega)) hc h4 hL hY hw t (by omega)
            show 0 ≤ plF _ _ _ _ _ _ _
            rw [e]
            exact nI_pos' (by omega)
          have mod : ∀ (M2 : Mem), (∀ j, j ≠ 4 → M2 j = M j) → ∀ post : Int32 → Mem → Prop, (∀ M3, Kq M2 M3 → LM M3 (sF (M 58) al c) (sH (M 58) al c) (gvR (sG (M 58) al c)) → (x2 = 0 → q_X6_greatestLegs M3 (nI d) (-4) post) ∧ (¬ x2 = 0 → ∃ n, lp_X6_legs_79 post n M3 (nI d) x2 0 0 0 0)) → q_X6_legs M2 (nI d) x2 post := fun M2 g2 post hk => by
            have F2 := FrC.of4 g2
            have hI2 := hI.frC F2
            have e2 := F2.e58
            refine ent M2 _ (m_wrongLegs hd hn (by rw [g2 62 (by omega)]; exact z2) (by rw [g2 63 (by omega)]; exact z3) (by rw [g2 64 (by omega)]; exact ds1) (fun u => absurd ?_ u) (fun _ => b0 (m_isLine hI2.1.2.1 hI2.1.1 hI2.2 (fun u => absurd (by rw [e2]; exact hl) u) (fun _ => b1 (b0 (m_sumsAll hI2.1.2.1 hI2.1.1 (fun M3 k3 n3 => ?_)))))))
            · rw [g2 65 (by omega)]; exact hokM
            · rw [e2] at n3; exact hk M3 k3 n3
          have cel : ∀ M2 M3, (∀ j, j ≠ 4 → M2 j = M j) → Kq M2 M3 → M3 64 d = nI n ∧ (∀ i, i < n → M3 65 (100 * d + i) = E i) ∧ M3 58 6 = nI L := fun M2 M3 g2 q3 => by
            rw [q3.1 64 (by omega), q3.1 65 (by omega), q3.1 58 (by omega), g2 64 (by omega), g2 65 (by omega), g2 58 (by omega)]
            exact ⟨ds1, fun i _ => hEm i, eL⟩
          have rel : ∀ M2 M3, (∀ j, j ≠ 4 → M2 j = M j) → Kq M2 M3 → Rel M3 := fun M2 M3 g2 q3 => (hR.frC (FrC.of4 g2)).frM q3.frM
          have hs1 : M1 (14 + d) 3 = nI n := by rw [f1 _ (by omega)]; exact ds2
          have hE1 : ∀ i, i < n → M1 (8 + (14 + d)) i = E i := fun i hi => by rw [f1 _ (by omega)]; exact hEc i (by omega)
          have oG := (hS.lo al).1
          rw [eL] at n1
          refine ⟨fun u0 => ?_, fun u0 => ⟨fun u1 => ?_, fun u1 => ?_⟩⟩
          · refine x_gol k3 hs1 hE1 k4 (by omega) n1 oG h4 hL (fun M2 y1 v1 g2 n2 => ?_)
            have g3 : ∀ j, j ≠ 4 → M2 j = M j := fun j hj => (g2 j hj).trans (f1 j hj)
            refine mod M2 g3 _ (fun M3 q3 n3 => bp u0 ?_)
            obtain ⟨c1, c2, c3⟩ := cel M2 M3 g3 q3
            exact m_gol hd k3 (by omega) c1 c2 k4 n3 c3 h4 hL (hS.gn al) hpos k2 (fun M4 q4 _ => ⟨rfl, rel M2 M4 g3 (q3.tr q4)⟩)
          · refine x_hours k3 hs1 hE1 (mod M1 f1 _ (fun M3 q3 n3 => bn u0 ?_))
            obtain ⟨c1, c2, c3⟩ := cel M1 M3 f1 q3
            exact m_slow hd k3 (by omega) c1 c2 k4 n3 c3 h4 hL (hS.gn al) hpos k2 (fun M4 q4 => bp u1 ⟨rfl, rel M1 M4 f1 (q3.tr q4)⟩)
          · refine x_slow k3 (by omega) hs1 hE1 k4 (by omega) n1 oG h4 hL (fun M2 g2 => ?_)
            have g3 : ∀ j, j ≠ 4 → M2 j = M j := fun j hj => (g2 j hj).trans (f1 j hj)
            refine mod M2 g3 _ (fun M3 q3 n3 => bn u0 ?_)
            obtain ⟨c1, c2, c3⟩ := cel M2 M3 g3 q3
            exact m_slow hd k3 (by omega) c1 c2 k4 n3 c3 h4 hL (hS.gn al) hpos k2 (fun M4 q4 => bn u1 ⟨rfl, rel M2 M4 g3 (q3.tr q4)⟩)
      · exact m_wrongRow hd (fun u => absurd u z) (fun _ u v => absurd ⟨u, v.elim (fun q => absurd q (by decide)) id⟩ z2) (fun _ _ => bn (by decide) (bn (by decide) (bn (by decide) ⟨rfl, hR⟩)))
