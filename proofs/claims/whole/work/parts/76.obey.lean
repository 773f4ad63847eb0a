/-! PURE: statements obeyed by the class, by the model -/
theorem x_change {M : Mem} {S : Nat → Int32} {c k j t : Nat} {x n : Int32} {post : Int32 → Mem → Prop} (hT : TW M t S c) (ht : t ≤ 3) (hc : c ≤ 6) (hk : k < 7) (hx : x = nI k) (hn : n = nI j) (hj : j ≤ 999) (h0 : ¬ (loS k ≤ j ∧ j ≤ hiS k) → post 0 M) (h1 : loS k ≤ j → j ≤ hiS k → ∀ M1, (∀ i, i ≠ 10 + t → M1 i = M i) → TW M1 t (upd S (5 + k) (nI j)) c → post 1 M1) : q_X4_change M t x n post := by
  subst hx hn
  refine x_maySet (fun hno => b0 (h0 (fun q => hno k j hk rfl q.1 q.2 rfl))) (fun k2 j2 hk2 ek g1 g2 ej => b1 ?_)
  have e1 : k = k2 := (nI_eq (by omega) (by omega)).mp ek
  subst e1
  have hh := (lo_T k hk).2.2.2
  have e2 : j = j2 := (nI_eq (by omega) (by omega)).mp ej
  subst e2
  refine ⟨nI_in (by omega) (by omega), fun M5 e5 => ?_⟩
  rw [cl (by omega)] at e5
  refine h1 g1 g2 M5 (fun i hi => by rw [e5, mup_ne _ _ _ hi]) (hT.setS hk ?_ (fun i => ?_) (fun p hp => ?_))
  · rw [e5, mup_ne _ _ _ (by omega)]
  · rw [e5, mup_eq]
    by_cases w : i = k
    · rw [if_pos ⟨rfl, w⟩, if_pos w]
    · rw [if_neg (fun q => w q.2), if_neg w]
  · rw [e5, mup_ne _ _ _ (by omega)]
theorem TW.ang {M M1 : Mem} {t c : Nat} {S : Nat → Int32} {x : Int32} (h : TW M t S c) (ht : t ≤ 3) (e : M1 = mup M t 3 x) : TW M1 t (upd S 3 x) c := by
  obtain ⟨h1, h2, h3, h4⟩ := h
  have u : ∀ j, j ≠ 3 → upd S 3 x j = S j := fun j hj => by unfold upd; rw [if_neg hj]
  have u3 : upd S 3 x 3 = x := by unfold upd; rw [if_pos rfl]
  have w : ∀ j, j ≠ 3 → M1 t j = M t j := fun j hj => by rw [e, mup_eq, if_neg (fun q => hj q.2)]
  have w3 : M1 t 3 = x := by rw [e, mup_eq, if_pos ⟨rfl, rfl⟩]
  have o : ∀ i, i ≠ t → M1 i = M i := fun i hi => by rw [e, mup_ne _ _ _ hi]
  refine ⟨?_, fun k hk => by rw [o _ (by omega), u _ (by omega)]; exact h2 k hk, fun p hp => ?_, ?_⟩
  · rw [w 1 (by omega), w3, w 4 (by omega), w 5 (by omega), w 6 (by omega), u3, u 4 (by omega), u 1 (by omega), u 2 (by omega)]
    exact ⟨h1.1, rfl, h1.2.2⟩
  · unfold PCs
    rw [o _ (by omega), u _ (by omega), u _ (by omega), u _ (by omega), u _ (by omega)]
    exact h3 p hp
  · rw [w 7 (by omega), w 8 (by omega)]
    rcases h4 with ⟨a, b⟩ | ⟨q, a1, a2, a3, a4, a5⟩
    · exact Or.inl ⟨a, fun p hp => by rw [u _ (by omega)]; exact b p hp⟩
    · refine Or.inr ⟨q, a1, a2, by rw [u _ (by omega)]; exact a3, fun p hp hq => by rw [u _ (by omega)]; exact a4 p hp hq, ?_⟩
      rw [u _ (by omega), u _ (by omega), u _ (by omega), u _ (by omega)]
      exact a5
theorem x_addPiece {M : Mem} {S f : Nat → Int32} {c a b v : Nat} {x1 x2 x3 : Int32} {post : Int32 → Mem → Prop} (hT : TW M 3 S c) (hc : c ≤ 6) (ha : a ≤ 9) (hv : v ≤ 999) (e1 : x1 = f 0) (e2 : x2 = f 1) (e3 : x3 = f 2) (q1 : f 0 = nI a) (q2 : f 1 = nI b) (q3 : f 2 = nI v) (h0 : ¬ (f 0 ≤ 7 ∧ (1 ≤ f 2 ∧ f 2 ≤ 99) ∧ c < 6) → post 0 M) (h1 : (f 0 ≤ 7 ∧ (1 ≤ f 2 ∧ f 2 ≤ 99) ∧ c < 6) → ∀ M1, (∀ i, i ≠ 3 → (i < 50 ∨ 56 ≤ i) → M1 i = M i) → TW M1 3 (pcS S c f) (c + 1) → post 1 M1) : q_X4_addPiece M 3 x1 x2 x3 post := by
  subst e1 e2 e3
  have hT' := hT
  obtain ⟨t1, t2, t3, t4⟩ := hT
  unfold q_X4_addPiece j_X4_addPiece_25
  rw [t1.1]
  refine ⟨fun z => h0 (fun q => ?_), fun z => ⟨fun z2 => h0 (fun q => absurd z2 (nlt_le.mpr q.1)), fun z2 => x_within (fun z3 => b0 (h0 (fun q => z3 q.2.1))) (fun z3 => b1 ?_)⟩⟩
  · have : 6 ≤ c := (nI_leI (a := 6) (by omega) (by omega)).mp z
    omega
  · have hc6 : c < 6 := by
      apply Nat.not_le.mp
      intro q
      exact z (nI_le (a := 6) q (by omega))
    rw [t1.1, cl (by omega), show 32 + 6 * 3 + c = 50 + c by omega]
    refine ⟨nI_in hc6 (by omega), x_begin1 (fun M8 f8 p0 p1 p2 p3 p4 p5 p6 p7 p8 M9 e9 => ?_)⟩
    rw [f8 3 (by omega), t1.1, nI_1] at e9
    have o9 : ∀ i, i ≠ 3 → i ≠ 50 + c → M9 i = M i := fun i h3 h5 => by rw [e9, mup_ne _ _ _ h3, f8 i h5]
    have w1 : M9 3 1 = nI (c + 1) := by rw [e9, mup_eq, if_pos ⟨rfl, rfl⟩]
    have w : ∀ j, j ≠ 1 → M9 3 j = M 3 j := fun j hj => by rw [e9, mup_eq, if_neg (fun q => hj q.2), f8 3 (by omega)]
    have n9 : M9 (50 + c) = M8 (50 + c) := by rw [e9, mup_ne _ _ _ (by omega)]
    refine h1 ⟨nlt_le.mp z2, z3, hc6⟩ M9 (fun i h3 h5 => o9 i h3 (by omega)) ⟨?_, fun k hk => ?_, fun p hp => ?_, ?_⟩
    · rw [w1, w 3 (by omega), w 4 (by omega), w 5 (by omega), w 6 (by omega), pc_o (by omega) (by omega), pc_o (by omega) (by omega), pc_o (by omega) (by omega), pc_o (by omega) (by omega)]
      exact ⟨rfl, t1.2⟩
    · rw [o9 _ (by omega) (by omega), pc_o (by omega) (by omega)]
      exact t2 k hk
    · unfold PCs
      rw [show 32 + 6 * 3 + p = 50 + p by omega]
      by_cases wp : p = c
      · subst wp
        rw [n9, p0, p1, p2, p3, p4, p5, p6, p7, p8, pc_n (by omega), pc_n (by omega), pc_n (by omega), pc_z (by omega) (by omega)]
        exact ⟨rfl, rfl, rfl, rfl, rfl, rfl, rfl, rfl, rfl⟩
      · have := t3 p (by omega)
        unfold PCs at this
        rw [show 32 + 6 * 3 + p = 50 + p by omega] at this
        rw [o9 _ (by omega) (by omega), pc_o (by omega) (by omega), pc_o (by omega) (by omega), pc_o (by omega) (by omega), pc_o (by omega) (by omega)]
        exact this
    · rw [w 7 (by omega), w 8 (by omega)]
      have o4 : ∀ p, p < c + 1 → p ≠ c → pcS S c f (12 + 6 * p + 4) = S (12 + 6 * p + 4) := fun p hp hne => pc_o (by omega) (by omega)
      rcases t4 with ⟨a, b⟩ | ⟨q, a1, a2, a3, a4, a5⟩
      · refine Or.inl ⟨a, fun p hp => ?_⟩
        by_cases wp : p = c
        · subst wp; exact pc_z (by omega) (by omega)
        · rw [o4 p hp wp]; exact b p (by omega)
      · refine Or.inr ⟨q, by omega, a2, by rw [o4 q (by omega) (by omega)]; exact a3, fun p hp hq => ?_, ?_⟩
        · by_cases wp : p = c
          · subst wp; exact pc_z (by omega) (by omega)
          · rw [o4 p hp wp]; exact a4 p (by omega) hq
        · rw [pc_o (by omega) (by omega), pc_o (by omega) (by omega), pc_o (by omega) (by omega), pc_o (by omega) (by omega)]
          exact a5
/-- the class obeys in mind -/
theorem x_obey {M : Mem} {S f : Nat → Int32} {c k l : Nat} {r : Int32} {post : Int32 → Mem → Prop} (hT : TW M 3 S c) (hc : c ≤ 6) (hf : FA k l f) (hr : RV r k) (hn : ∀ j, j < l → M 7 j = f j) (h0 : (obF k f S c).1 = false → ∀ M1, (∀ i, i ≠ 3 → i ≠ 13 → (i < 50 ∨ 56 ≤ i) → M1 i = M i) → post 0 M1) (h1 : (obF k f S c).1 = true → ∀ M1, (∀ i, i ≠ 3 → i ≠ 13 → (i < 50 ∨ 56 ≤ i) → M1 i = M i) → TW M1 3 (obF k f S c).2.1 (obF k f S c).2.2 → post 1 M1) : q_X2_obey M r 3 post := by
  have F : ∀ M1 : Mem, (∀ i, i ≠ 10 + 3 → M1 i = M i) → ∀ i, i ≠ 3 → i ≠ 13 → (i < 50 ∨ 56 ≤ i) → M1 i = M i := fun M1 g i _ h _ => g i h
  unfold q_X2_obey
  rcases hf with ⟨rfl, rfl, hx, v, hv, e⟩ | ⟨rfl, rfl, v, hv, e⟩ | ⟨rfl, rfl, a, b, v, ha, hb, hv, e0, e1, e2⟩ | ⟨rfl, rfl, a, b, ha, hb, e0, e1⟩ | ⟨rfl, rfl, a, ha, e0⟩ | ⟨rfl, rfl, a, b, v, ha, hb, hv, e0, e1, e2⟩
  · have er : r = nI 97 := (hr 97 (by omega)).mpr rfl
    subst er
    refine bn (by decide) (bn (by decide) (bn (by decide) (bn (by decide) (bn (by decide) (fun M27 e27 => ?_)))))
    rw [hn 0 (by omega), hn 1 (by omega)] at e27
    exact h1 rfl M27 (fun i h3 _ _ => by rw [e27, mup_ne _ _ _ h3]) (hT.ang (by omega) e27)
  · have er : r = nI 100 := (hr 100 (by omega)).mpr rfl
    subst er
    rw [hn 0 (by omega)]
    refine bp rfl (x_change (k := 3) (j := v) hT (by omega) hc (by omega) rfl e hv (fun z => ⟨Or.inl rfl, h0 (decide_eq_false (fun q => z ?_)) M (fun _ _ _ _ => rfl)⟩) (fun g1 g2 M1 f1 t1 => ⟨Or.inr rfl, h1 (decide_eq_true ?_) M1 (F M1 f1) ?_⟩))
    · rw [e] at q
      exact ⟨(nI_leI (a := 1) (by omega) (by omega)).mp q, hv⟩
    · rw [e]
      exact nI_le (a := 1) g1 (by omega)
    · rw [← e] at t1
      exact t1
  · have er : r = nI 112 := (hr 112 (by omega)).mpr rfl
    subst er
    refine bn (by decide) (bp rfl (x_addPiece hT hc ha hv (hn 0 (by omega)) (hn 1 (by omega)) (hn 2 (by omega)) e0 e1 e2 (fun z => ⟨Or.inl rfl, h0 (decide_eq_false z) M (fun _ _ _ _ => rfl)⟩) (fun z M1 f1 t1 => ⟨Or.inr rfl, h1 (decide_eq_true z) M1 (fun i h3 _ h5 => f1 i h3 h5) t1⟩)))
  · have er : r = nI 115 := (hr 115 (by omega)).mpr rfl
    subst er
    rw [hn 0 (by omega)]
    refine bn (by decide) (bn (by decide) (bp rfl (x_change (k := 0) (j := a) hT (by omega) hc (by omega) rfl e0 ha (fun z => b0 ⟨Or.inl rfl, h0 (decide_eq_false (fun q => z ?_)) M (fun _ _ _ _ => rfl)⟩) (fun g1 g2 M1 f1 t1 => b1 ?_))))
    · have := q.1
      rw [e0] at this
      exact ⟨Nat.zero_le _, (nI_leI (b := 60) (by omega) (by omega)).mp this⟩
    · rw [f1 7 (by omega), hn 1 (by omega)]
      refine x_change (k := 1) (j := b) t1 (by omega) hc (by omega) rfl e1 hb (fun z => b0 ⟨Or.inl rfl, h0 (decide_eq_false (fun q => z ?_)) M1 (F M1 f1)⟩) (fun g3 g4 M2 f2 t2 => b1 ⟨Or.inr rfl, h1 (decide_eq_true ?_) M2 (F M2 (fun i hi => (f2 i hi).trans (f1 i hi))) ?_⟩)
      · have := q.2
        rw [e1] at this
        exact ⟨(nI_leI (a := 4) (by omega) (by omega)).mp this.1, (nI_leI (b := 40) (by omega) (by omega)).mp this.2⟩
      · rw [e0, e1]
        exact ⟨nI_le (b := 60) g2 (by omega), nI_le (a := 4) g3 (by omega), nI_le (b := 40) g4 (by omega)⟩
      · rw [← e0, ← e1] at t2
        exact t2
  · have er : r = nI 118 := (hr 118 (by omega)).mpr rfl
    subst er
    rw [hn 0 (by omega)]
    refine bn (by decide) (bn (by decide) (bn (by decide) (bp rfl (x_change (k := 2) (j := a) hT (by omega) hc (by omega) rfl e0 (by omega) (fun z => absurd ⟨Nat.zero_le _, ha⟩ z) (fun g1 g2 M1 f1 t1 => ⟨Or.inr rfl, h1 rfl M1 (F M1 f1) ?_⟩)))))
    rw [← e0] at t1
    exact t1
  · have er : r = nI 121 := (hr 121 (by omega)).mpr rfl
    subst er
    rw [hn 0 (by omega)]
    refine bn (by decide) (bn (by decide) (bn (by decide) (bn (by decide) (bp rfl (x_change (k := 4) (j := a) hT (by omega) hc (by omega) rfl e0 (by omega) (fun z => absurd ⟨Nat.zero_le _, ha⟩ z) (fun g1 g2 M1 f1 t1 => b1 ?_))))))
    rw [f1 7 (by omega), hn 1 (by omega)]
    refine x_change (k := 5) (j := b) t1 (by omega) hc (by omega) rfl e1 (by omega) (fun z => absurd ⟨Nat.zero_le _, hb⟩ z) (fun g3 g4 M2 f2 t2 => b1 ?_)
    rw [f2 7 (by omega), f1 7 (by omega), hn 2 (by omega)]
    refine x_change (k := 6) (j := v) t2 (by omega) hc (by omega) rfl e2 (by omega) (fun z => absurd ⟨Nat.zero_le _, hv⟩ z) (fun g5 g6 M3 f3 t3 => b1 ⟨Or.inr rfl, h1 rfl M3 (F M3 (fun i hi => (f3 i hi).trans ((f2 i hi).trans (f1 i hi)))) ?_⟩)
    rw [← e0, ← e1, ← e2] at t3
    exact t3
/-- the model obeys -/
theorem m_comes {M0 M : Mem} {S : Nat → Int32} {c k : Nat} {s : Nat × Nat × (Nat → Int32)} {r : Int32} {post : Int32 → Mem → Prop} (hc : c ≤ 6) (hS : S 0 = nI c) (h60 : ∀ j, j < 54 → M 60 j = S j) (hf : FA k s.2.1 s.2.2) (hN : NM M0 k M s) (hr : RV r k) (h0 : (obF k s.2.2 S c).1 = false → ∀ M1, (∀ i, i ≠ 60 → M1 i = M i) → post 0 M1) (h1 : (obF k s.2.2 S c).1 = true → ∀ M1, (∀ i, i ≠ 60 → M1 i = M i) → (∀ j, j < 54 → M1 60 j = (obF k s.2.2 S c).2.1 j) → post 1 M1) : q_X6_comes M r post := by
  obtain ⟨q0, l, f⟩ := s
  have hn : k ≠ 97 → ∀ j, j < l → M 68 j = f j := fun hk j hj => by
    rcases hN with ⟨w, -⟩ | ⟨-, w⟩
    · exact absurd w hk
    · exact w.2 j hj
  have h60' : ∀ (M1 : Mem) (q : Nat) (v : Int32), M1 = mup M 60 q v → (∀ i, i ≠ 60 → M1 i = M i) ∧ ∀ j, j < 54 → M1 60 j = upd S q v j := fun M1 q v e => by
    refine ⟨fun i hi => by rw [e, mup_ne _ _ _ hi], fun j hj => ?_⟩
    rw [e, mup_eq]
    unfold upd
    by_cases w : j = q
    · rw [if_pos ⟨rfl, w⟩, if_pos w]
    · rw [if_neg (fun z => w z.2), if_neg w]; exact h60 j hj
  unfold q_X6_comes
  dsimp only at hf h0 h1
  rcases hf with ⟨rfl, rfl, hx, v, hv, e⟩ | ⟨rfl, rfl, v, hv, e⟩ | ⟨rfl, rfl, a, b, v, ha, hb, hv, e0, e1, e2⟩ | ⟨rfl, rfl, a, b, ha, hb, e0, e1⟩ | ⟨rfl, rfl, a, ha, e0⟩ | ⟨rfl, rfl, a, b, v, ha, hb, hv, e0, e1, e2⟩
  · have er : r = nI 97 := (hr 97 (by omega)).mpr rfl
    subst er
    have hN' : NMa M0 M (q0, 2, f) := by
      rcases hN with ⟨-, w⟩ | ⟨w, -⟩
      · exact w
      · exact absurd rfl w
    obtain ⟨-, n1, n2⟩ := hN'
    have n1 : M 68 0 = f 1 := n1
    have n2 : (M 57 16 = 1 ∧ f 0 = -1) ∨ (M 57 16 = 0 ∧ f 0 = 1) := n2
    refine bn (by decide) (bn (by decide) (bn (by decide) (bn (by decide) (bn (by decide) ?_))))
    unfold j_X6_comes_289
    rcases n2 with ⟨w1, w2⟩ | ⟨w1, w2⟩
    · refine bn (by rw [w1]; decide) ⟨nI_in (c := 3) (by omega) (by omega), fun M2 e2 => ?_⟩
      have e2' : M2 = mup M 60 3 (f 0 * f 1) := by
        rw [e2, n1, w2]
        have : (-1 : Int32) * f 1 = - f 1 := by grind
        rw [this]
        rfl
      obtain ⟨u1, u2⟩ := h60' M2 _ _ e2'
      exact h1 rfl M2 u1 u2
    · refine bp w1 ⟨nI_in (c := 3) (by omega) (by omega), fun M2 e2 => ?_⟩
      have e2' : M2 = mup M 60 3 (f 0 * f 1) := by
        rw [e2, n1, w2]
        have : (1 : Int32) * f 1 = f 1 := by grind
        rw [this]
        rfl
      obtain ⟨u1, u2⟩ := h60' M2 _ _ e2'
      exact h1 rfl M2 u1 u2
  · have er : r = nI 100 := (hr 100 (by omega)).mpr rfl
    subst er
    rw [hn (by omega) 0 (by omega)]
    refine bp rfl (fun M14 e14 => ?_)
    obtain ⟨u1, u2⟩ := h60' M14 _ _ e14
    exact ⟨fun z => And.intro (Or.inl rfl) (h0 (decide_eq_false (fun q => absurd z (nlt_le.mpr q))) M14 u1), fun z => And.intro (Or.inr rfl) (h1 (decide_eq_true (nlt_le.mp z)) M14 u1 u2)⟩
  · have er : r = nI 112 := (hr 112 (by omega)).mpr rfl
    subst er
    have n0 := hn (by omega) 0 (by omega)
    have n1 := hn (by omega) 1 (by omega)
    have n2 := hn (by omega) 2 (by omega)
    have c0 : M 60 0 = nI c := by rw [h60 0 (by omega), hS]
    rw [n0, n2]
    refine bn (by decide) (bp rfl ⟨fun z => h0 (decide_eq_false (fun q => absurd z (nlt_le.mpr q.1))) M (fun _ _ => rfl), fun z => m_within (A := 1) (B := 99) rfl rfl (fun z2 => b0 (h0 (decide_eq_false (fun q => z2 q.2.1)) M (fun _ _ => rfl))) (fun z2 => b1 ?_)⟩)
    rw [c0]
    refine ⟨fun z3 => h0 (decide_eq_false (fun q => ?_)) M (fun _ _ => rfl), fun z3 v22 e22 => ?_⟩
    · have : c = 6 := (nI_eq (b := 6) (by omega) (by omega)).mp z3
      omega
    · have hc6 : c < 6 := by
        apply Nat.lt_of_le_of_ne hc
        intro q
        exact z3 (by rw [q]; rfl)
      have ev : v22 = nI (12 + 6 * c) := by rw [e22, show (6 : Int32) * nI c = nI (6 * c) from pk_mul 6 c, show (12 : Int32) = nI 12 from rfl, nI_add]
      subst ev
      have hd : (obF 112 f S c).1 = true := decide_eq_true ⟨nlt_le.mp z, z2, hc6⟩
      refine pk_loop (fun m i (s : Mem) => lp_X6_comes_112 post m s (nI (12 + 6 * c)) (nI i)) (fun i s => (∀ j, j ≠ 60 → s j = M j) ∧ ∀ j, j < 54 → s 60 j = if 12 + 6 * c ≤ j ∧ j < 12 + 6 * c + i then pcS S c f j else S j) 6 0 M (by omega) ⟨fun _ _ => rfl, fun j hj => by rw [if_neg (by omega)]; exact h60 j hj⟩ (fun m s hs => ?_) (fun m i s hi hs kk => ?_)
      · obtain ⟨s1, s2⟩ := hs
        unfold lp_X6_comes_112 b_X6_comes_112
        refine bp (Int32.le_refl _) (fun M10 e10 => h1 hd M10 (fun i hi => by rw [e10, mup_ne _ _ _ hi, s1 i hi]) (fun j hj => ?_))
        show M10 60 j = pcS S c f j
        rw [e10, mup_eq]
        by_cases w : j = 0
        · subst w
          rw [if_pos ⟨rfl, rfl⟩, s2 0 (by omega), if_neg (by omega), hS, nI_1]
          rfl
        · rw [if_neg (fun q => w q.2), s2 j hj]
          by_cases w2 : 12 + 6 * c ≤ j ∧ j < 12 + 6 * c + 6
          · rw [if_pos w2]
          · rw [if_neg w2, pc_o w (by omega)]
      · obtain ⟨s1, s2⟩ := hs
        unfold lp_X6_comes_112 b_X6_comes_112 j_X6_comes_144
        rw [nI_add, nI_1, cl (n := 12 + 6 * c + i) (by omega), cl (n := i) (by omega), s1 68 (by omega)]
        have next : ∀ M8 : Mem, M8 = mup s 60 (12 + 6 * c + i) (pcS S c f (12 + 6 * c + i)) → lp_X6_comes_112 post m M8 (nI (12 + 6 * c)) (nI (i + 1)) := fun M8 e8 => by
          refine kk M8 ⟨fun j hj => by rw [e8, mup_ne _ _ _ hj, s1 j hj], fun j hj => ?_⟩
          rw [e8, mup_eq]
          by_cases w : j = 12 + 6 * c + i
          · rw [if_pos ⟨rfl, w⟩, if_pos (by omega), w]
          · rw [if_neg (fun q => w q.2), s2 j hj]
            by_cases w2 : 12 + 6 * c ≤ j ∧ j < 12 + 6 * c + i
            · rw [if_pos w2, if_pos (by omega)]
            · rw [if_neg w2, if_neg (by omega)]
        refine bn (nI_ge (b := 6) hi (by omega)) ⟨fun w => ⟨nI_in (by omega) (by omega), fun M8 e8 => next M8 ?_⟩, fun w => ⟨nI_in ?_ (by omega), nI_in (by omega) (by omega), fun M8 e8 => next M8 ?_⟩⟩
        · have : 3 ≤ i := (nI_leI (a := 3) (by omega) (by omega)).mp w
          rw [pc_z this hi]
          exact e8
        · apply Nat.not_le.mp
          intro q
          exact w (nI_le (a := 3) q (by omega))
        · have h3 : i < 3 := by
            apply Nat.not_le.mp
            intro q
            exact w (nI_le (a := 3) q (by omega))
          rw [pc_n h3, ← hn (by omega) i h3]
          exact e8
  · have er : r = nI 115 := (hr 115 (by omega)).mpr rfl
    subst er
    have n0 := hn (by omega) 0 (by omega)
    have n1 := hn (by omega) 1 (by omega)
    rw [n0, n1]
    refine bn (by decide) (bn (by decide) (bp rfl ⟨fun z => h0 (decide_eq_false (fun q => absurd z (nlt_le.mpr q.1))) M (fun _ _ => rfl), fun z => m_within (A := 4) (B := 40) rfl rfl (fun z2 => b0 (h0 (decide_eq_false (fun q => z2 q.2)) M (fun _ _ => rfl))) (fun z2 => b1 (fun M28 e28 M29 e29 => ?_))⟩))
    obtain ⟨u1, u2⟩ := h60' M28 _ _ e28
    rw [u1 68 (by omega), n1] at e29
    refine h1 (decide_eq_true ⟨nlt_le.mp z, z2⟩) M29 (fun i hi => by rw [e29, mup_ne _ _ _ hi, u1 i hi]) (fun j hj => ?_)
    show M29 60 j = upd (upd S 5 (f 0)) 6 (f 1) j
    rw [e29, mup_eq]
    by_cases w : j = 6
    · rw [if_pos ⟨rfl, w⟩]; unfold upd; rw [if_pos w]
    · rw [if_neg (fun q => w q.2), u2 j hj]
      conv => rhs; unfold upd
      rw [if_neg w]
      rfl
  · have er : r = nI 118 := (hr 118 (by omega)).mpr rfl
    subst er
    rw [hn (by omega) 0 (by omega)]
    refine bn (by decide) (bn (by decide) (bn (by decide) (bp rfl (fun M31 e31 => ?_))))
    obtain ⟨u1, u2⟩ := h60' M31 _ _ e31
    exact h1 rfl M31 u1 u2
  · have er : r = nI 121 := (hr 121 (by omega)).mpr rfl
    subst er
    refine bn (by decide) (bn (by decide) (bn (by decide) (bn (by decide) (bp rfl ?_))))
    refine pk_loop (fun m i (s : Mem) => lp_X6_comes_243 post m s (nI i)) (fun i s => (∀ j, j ≠ 60 → s j = M j) ∧ ∀ j, j < 54 → s 60 j = if 9 ≤ j ∧ j < 9 + i then f (j - 9) else S j) 3 0 M (by omega) ⟨fun _ _ => rfl, fun j hj => by rw [if_neg (by omega)]; exact h60 j hj⟩ (fun m s hs => ?_) (fun m i s hi hs kk => ?_)
    · obtain ⟨s1, s2⟩ := hs
      unfold lp_X6_comes_243 b_X6_comes_243
      refine bp (Int32.le_refl _) (h1 rfl s s1 (fun j hj => ?_))
      show s 60 j = upd (upd (upd S 9 (f 0)) 10 (f 1)) 11 (f 2) j
      rw [s2 j hj]
      unfold upd
      by_cases w11 : j = 11
      · rw [if_pos w11, if_pos (by omega), w11]
      · rw [if_neg w11]
        by_cases w10 : j = 10
        · rw [if_pos w10, if_pos (by omega), w10]
        · rw [if_neg w10]
          by_cases w9 : j = 9
          · rw [if_pos w9, if_pos (by omega), w9]
          · rw [if_neg w9, if_neg (by omega)]
    · obtain ⟨s1, s2⟩ := hs
      unfold lp_X6_comes_243 b_X6_comes_243
      rw [show (9 : Int32) + nI i = nI (9 + i) from nI_add 9 i, nI_1, cl (n := 9 + i) (by omega), cl (n := i) (by omega), s1 68 (by omega), hn (by omega) i hi]
      refine bn (nI_ge (b := 3) hi (by omega)) ⟨nI_in hi (by omega), nI_in (by omega) (by omega), fun M6 e6 => kk M6 ⟨fun j hj => by rw [e6, mup_ne _ _ _ hj, s1 j hj], fun j hj => ?_⟩⟩
      rw [e6, mup_eq]
      by_cases w : j = 9 + i
      · rw [if_pos ⟨rfl, w⟩, if_pos (by omega), show j - 9 = i by omega]
      · rw [if_neg (fun q => w q.2), s2 j hj]
        by_cases w2 : 9 ≤ j ∧ j < 9 + i
        · rw [if_pos w2, if_pos (by omega)]
        · rw [if_neg w2, if_neg (by omega)]
