/-! PURE: shelves -/
theorem FrM.up {M : Mem} {k : Nat} {v : Int32} (hk : k ≠ 10) : FrM M (mup M 57 k v) := ⟨fun i hi _ _ _ _ => mup_ne _ _ _ hi, by rw [mup_eq, if_neg (by omega)], fun k _ => by rw [mup_ne _ _ _ (by omega)]⟩
theorem x_holding {M : Mem} {x w : Int32} {post : Int32 → Mem → Prop} (h0 : (∀ d, d < 8 → x ≠ nI d) → post (-1) M) (h1 : ∀ d, d < 8 → x = nI d → (M (14 + d) 0 = 0 → post (-11) M) ∧ (¬ M (14 + d) 0 = 0 → M (14 + d) 0 = w → post 0 M) ∧ (¬ M (14 + d) 0 = 0 → ¬ M (14 + d) 0 = w → post (-12) M)) : q_X5_refusalOfHolding M x w post := by
  refine x_shelf (fun h => b0 (h0 h)) (fun d hd e => b1 ?_)
  obtain ⟨a, b, c⟩ := h1 d hd e
  subst e
  refine ⟨vin_d hd, ?_⟩
  rw [cl (by omega)]
  exact ⟨a, fun z => ⟨b z, c z⟩⟩
theorem x_place {M : Mem} {a n : Nat} {x : Int32} {post : Int32 → Mem → Prop} (hn : n ≤ 100) (hs : M a 3 = nI n) (h0 : (M a 0 = 2 → ∀ i, i < n → x ≠ nI i) → post 0 M) (h1 : M a 0 = 2 → ∀ i, i < n → x = nI i → post 1 M) : q_X3_hasPlace M a x post := by
  unfold q_X3_hasPlace j_X3_hasPlace_24 j_X3_hasPlace_25
  rw [hs]
  refine ⟨fun z => ⟨fun z1 => ⟨Or.inl rfl, h0 (fun _ i hi e => ?_)⟩, fun z1 => ⟨fun z2 => ⟨Or.inl rfl, h0 (fun _ i hi e => ?_)⟩, fun z2 => ?_⟩⟩, fun z => ⟨Or.inl rfl, h0 (fun w => absurd w z)⟩⟩
  · rw [e] at z1; exact absurd z1 (nI_pos (by omega))
  · rw [e, nI_leI (by omega) (by omega)] at z2; omega
  · obtain ⟨i, hi, rfl⟩ := nI_of z1
    rw [nI_leI (by omega) hi] at z2
    exact ⟨Or.inr rfl, h1 z i (by omega) rfl⟩
theorem m_pl_yes {M : Mem} {n i : Nat} {x B : Int32} {post : Int32 → Mem → Prop} (hn : n ≤ 100) (hB : B = nI n) (hi : i < n) (hx : x = nI i) (h1 : post 1 M) : q_X6_isIn M x.toInt64 0 (B - 1).toInt64 post := by
  subst hx hB
  exact m_within (A := 0) rfl rfl (fun z => absurd (pc_le hi (by omega)) z) (fun _ => h1)
theorem m_pl_no {M : Mem} {n : Nat} {x B : Int32} {post : Int32 → Mem → Prop} (hn : n ≤ 100) (hB : B = nI n) (h : ∀ i, i < n → x ≠ nI i) (h0 : post 0 M) : q_X6_isIn M x.toInt64 0 (B - 1).toInt64 post := by
  subst hB
  refine m_within (A := 0) rfl rfl (fun _ => h0) (fun z => ?_)
  obtain ⟨p, hp, e⟩ := pc_iff (by omega) z
  exact absurd e (h p hp)
theorem SH.other {M M1 : Mem} {d : Nat} (h : SH M d) (e1 : M1 (14 + d) = M (14 + d)) (e2 : ∀ i, i < 100 → M1 (22 + d) i = M (22 + d) i) (e3 : M1 (30 + d) = M (30 + d)) (e4 : M1 62 d = M 62 d) (e5 : M1 63 d = M 63 d) (e6 : M1 64 d = M 64 d) (e7 : ∀ i, i < 100 → M1 65 (100 * d + i) = M 65 (100 * d + i)) (e8 : M1 66 d = M 66 d) (e9 : M1 67 d = M 67 d) : SH M1 d := by
  obtain ⟨h1, h2, h3, h4, h5, h6⟩ := h
  unfold SH
  rw [e1, e3, e4, e5, e6, e8, e9]
  exact ⟨h1, h2, h3, h4, fun i hi => by rw [e2 i hi, e7 i hi]; exact h5 i hi, h6⟩
theorem Rel.shelf {M M1 : Mem} (h : Rel M) (f : ∀ i, (i < 14 ∨ (38 ≤ i ∧ i < 62)) → M1 i = M i) (hs : ∀ d, d < 8 → SH M1 d) : Rel M1 := by
  obtain ⟨⟨c, h1, h2⟩, h3, h4⟩ := h
  have hc := h1.1
  have e58 : M1 58 = M 58 := f 58 (by omega)
  refine ⟨⟨c, by rw [e58]; exact h1, by rw [e58]; exact h2.mem (f _ (by omega)) (f _ (by omega)) (fun p hp => f _ (by omega))⟩, h3.mem (by rw [f 0 (by omega)]) (by rw [f 57 (by omega)]) (f _ (by omega)) (f _ (by omega)) (fun i _ _ => f _ (by omega)) (f _ (by omega)), hs⟩
theorem e_price : lh_37 Rel := by
  intro M x hR
  unfold q_X5_price q_X5_refusalOfPiece
  refine x_holding (fun hno => ?_) (fun d hd e => ?_)
  · refine bn (by decide) ?_
    exact m_shelf_no hno (b0 (bn (by decide) ⟨rfl, hR⟩))
  · obtain ⟨h1, h2, h3, h4, h5, h6⟩ := hR.2.2 d hd
    subst e
    rw [h1]
    refine ⟨fun z => bn (by decide) ?_, fun z z2 => bp (by decide) ⟨vin_d hd, ?_⟩, fun z z2 => bn (by decide) ?_⟩
    · refine m_shelf_yes hd rfl (b1 ⟨vin_d hd, ?_⟩)
      rw [cl (by omega)]
      exact bp z (bn (by decide) ⟨rfl, hR⟩)
    · rw [cl (by omega), show 16 + (14 + d) = 30 + d by omega]
      refine x_costOf (m_shelf_yes hd rfl (b1 ⟨vin_d hd, ?_⟩))
      rw [cl (by omega)]
      refine bn z (bp z2 (b0 ⟨vin_d hd, ?_⟩))
      exact ⟨(h6 z2).1.symm, hR⟩
    · refine m_shelf_yes hd rfl (b1 ⟨vin_d hd, ?_⟩)
      rw [cl (by omega)]
      exact bn z (bn z2 (bn (by decide) ⟨rfl, hR⟩))
theorem e_toss : lh_38 Rel := by
  intro M x hR
  unfold q_X5_toss q_X5_refusalOfPiece
  refine x_holding (fun hno => ?_) (fun d hd e => ?_)
  · refine bn (by decide) ?_
    exact m_shelf_no hno (b0 (bn (by decide) ⟨rfl, hR⟩))
  · obtain ⟨h1, h2, h3, h4, h5, h6⟩ := hR.2.2 d hd
    subst e
    rw [h1]
    refine ⟨fun z => bn (by decide) ?_, fun z z2 => bp (by decide) ⟨vin_d hd, ?_⟩, fun z z2 => bn (by decide) ?_⟩
    · refine m_shelf_yes hd rfl (b1 ⟨vin_d hd, ?_⟩)
      rw [cl (by omega)]
      exact bp z (bn (by decide) ⟨rfl, hR⟩)
    · rw [cl (by omega), show 16 + (14 + d) = 30 + d by omega]
      have key : ∀ r, r = toB (M (30 + d) 0) (M (30 + d) 1) (M (30 + d) 3) (M (30 + d) 8) → q_X6_toss M (nI d) (fun r2 M2 => r = r2 ∧ Rel M2) := fun r er => by
        refine m_shelf_yes hd rfl (b1 ⟨vin_d hd, ?_⟩)
        rw [cl (by omega)]
        refine bn z (bp z2 (b0 ⟨vin_d hd, ?_⟩))
        exact ⟨er.trans (h6 z2).2.symm, hR⟩
      unfold toB at key
      refine ⟨fun w => key _ (by rw [if_pos w]), fun w => ⟨fun w4 => key _ ?_, fun w4 => ⟨fun w7 => key _ ?_, fun w7 => key _ ?_⟩⟩⟩
      · rw [if_neg (fun q => q.elim w.1 w.2), if_pos w4]; exact Int32.add_comm _ _
      · rw [if_neg (fun q => q.elim w.1 w.2), if_neg w4, if_pos w7]
      · rw [if_neg (fun q => q.elim w.1 w.2), if_neg w4, if_neg w7]
    · refine m_shelf_yes hd rfl (b1 ⟨vin_d hd, ?_⟩)
      rw [cl (by omega)]
      exact bn z (bn z2 (bn (by decide) ⟨rfl, hR⟩))
theorem ix_e {d i : Nat} : (100 : Int32) * nI d + nI i = nI (100 * d + i) := by
  rw [show (100 : Int32) = nI 100 from rfl, pk_mul, nI_add]
theorem e_element : lh_35 Rel := by
  intro M x1 x2 hR o
  have key : ∀ (v k : Int32) (o1 : Int64) (M1 : Mem), M1 = mup M 57 11 v → v = k → ∀ r2, (k = 0 → o1 = r2) → q_X6_thrown M1 (fun t M3 => t = k ∧ (k = 0 → o1 = r2) ∧ Rel M3) := fun v k o1 M1 e1 ek r2 hk => by
    subst e1
    refine ⟨?_, hk, hR.frM (FrM.up (by omega))⟩
    rw [mup_eq, if_pos ⟨rfl, rfl⟩]; exact ek
  refine x_shelf (fun hno => b0 ?_) (fun d hd e => b1 ⟨?_, ?_⟩)
  · refine m_shelf_no hno (b0 (fun M1 e1 => ?_))
    refine bn (by rw [e1, mup_eq, if_pos ⟨rfl, rfl⟩]; decide) (key 1 1 _ M1 e1 rfl _ (fun z => absurd z (by decide)))
  · subst e; exact vin_d hd
  · subst e
    obtain ⟨h1, h2, h3, ⟨n, hn, hs1, hs2⟩, h5, h6⟩ := hR.2.2 d hd
    rw [cl (by omega)]
    refine x_place hn hs2 (fun hno => b0 ?_) (fun hq i hi e => b1 ⟨?_, ?_⟩)
    · refine m_shelf_yes hd rfl (b1 ⟨vin_d hd, ?_⟩)
      rw [cl (by omega)]
      have fin : ∀ (M1 : Mem), M1 = mup M 57 11 2 → (M1 57 11 = 0 → vp_in (100 * nI d + x2) 800 ∧ q_X6_thrown M1 (fun t M3 => t = 2 ∧ ((2 : Int32) = 0 → o = (M1 65 (100 * nI d + x2).toNatClampNeg).toInt64) ∧ Rel M3)) ∧ (¬ M1 57 11 = 0 → q_X6_thrown M1 (fun t M3 => t = 2 ∧ ((2 : Int32) = 0 → o = 0) ∧ Rel M3)) := fun M1 e1 =>
        bn (by rw [e1, mup_eq, if_pos ⟨rfl, rfl⟩]; decide) (key 2 2 o M1 e1 rfl _ (fun z => absurd z (by decide)))
      refine ⟨fun z => ?_, fun z => fin⟩
      refine m_pl_no hn hs1 (hno (h1.trans z)) (b0 fin)
    · subst e; exact nI_in (by omega) (by omega)
    · subst e
      rw [cl (by omega), show 8 + (14 + d) = 22 + d by omega]
      refine m_shelf_yes hd rfl (b1 ⟨vin_d hd, ?_⟩)
      rw [cl (by omega)]
      refine bp (h1.symm.trans hq) (m_pl_yes hn hs1 hi rfl (b1 (fun M1 e1 => ?_)))
      refine bp (by rw [e1, mup_eq, if_pos ⟨rfl, rfl⟩]) ⟨?_, ?_⟩
      · rw [ix_e]; exact nI_in (by omega) (by omega)
      · refine key 0 0 _ M1 e1 rfl _ (fun _ => ?_)
        rw [ix_e, cl (by omega), e1, mup_ne _ _ _ (by omega), h5 i (by omega)]
theorem m_wrongRow {M : Mem} {d : Nat} {w : Int32} {post : Int32 → Mem → Prop} (hd : d < 8) (h1 : M 62 d = 0 → post (-11) M) (h2 : ¬ M 62 d = 0 → M 62 d = 2 → (w < 0 ∨ M 63 d = w) → post 0 M) (h3 : ¬ M 62 d = 0 → (M 62 d = 2 → ¬ w < 0 ∧ ¬ M 63 d = w) → post (-12) M) : q_X6_wrongRow M (nI d) w post := by
  refine m_shelf_yes hd rfl (b1 ⟨vin_d hd, ?_⟩)
  rw [cl (by omega)]
  refine ⟨fun z => h1 z, fun z => ⟨fun z2 => ⟨fun z3 => h2 z z2 (Or.inl z3), fun z3 => ⟨fun z4 => h2 z z2 (Or.inr z4), fun z4 => h3 z (fun _ => ⟨z3, z4⟩)⟩⟩, fun z2 => h3 z (fun w => absurd w z2)⟩⟩
theorem m_wrongRow_no {M : Mem} {x w : Int32} {post : Int32 → Mem → Prop} (h : ∀ d, d < 8 → x ≠ nI d) (h1 : post (-1) M) : q_X6_wrongRow M x w post := m_shelf_no h (b0 h1)
theorem e_put : lh_34 Rel := by
  intro M x1 x2 v hR
  unfold q_X5_put q_X5_refusalOfRow
  refine x_holding (fun hno => ?_) (fun d hd e => ?_)
  · refine bn (by decide) ?_
    exact m_wrongRow_no hno (bn (by decide) ⟨rfl, hR⟩)
  · obtain ⟨h1, h2, h3, ⟨n, hn, hs1, hs2⟩, h5, h6⟩ := hR.2.2 d hd
    subst e
    rw [h1]
    refine ⟨fun z => bn (by decide) ?_, fun z z2 => bp (by decide) ⟨vin_d hd, ?_⟩, fun z z2 => bn (by decide) ?_⟩
    · exact m_wrongRow hd (fun _ => bn (by decide) ⟨rfl, hR⟩) (fun w => absurd z w) (fun w => absurd z w)
    · rw [cl (by omega)]
      refine x_place hn hs2 (fun hno => b0 ?_) (fun hq i hi e => b1 ?_)
      · refine m_wrongRow hd (fun w => absurd w z) (fun _ _ _ => b0 ⟨vin_d hd, ?_⟩) (fun _ w => absurd (by decide) (w z2).1)
        rw [cl (by omega)]
        exact m_pl_no hn hs1 (hno (h1.trans z2)) (b0 ⟨rfl, hR⟩)
      · subst e
        have fin : ∀ (u : Int32) (M1 : Mem), M1 = mup M (8 + (14 + d)) (nI i).toNatClampNeg u → ((M 63 d = 0 → u = v.toInt8.toInt32) ∧ (¬ M 63 d = 0 → M 63 d = 1 → u = v.toInt16.toInt32) ∧ (¬ M 63 d = 0 → ¬ M 63 d = 1 → u = v)) → q_X6_put M1 (nI d) (nI i) v (fun r2 M2 => (0 : Int32) = r2 ∧ Rel M2) := fun u M1 e1 hu => by
          rw [cl (by omega), show 8 + (14 + d) = 22 + d by omega] at e1
          have f62 : M1 62 = M 62 := by rw [e1, mup_ne _ _ _ (by omega)]
          have f63 : M1 63 = M 63 := by rw [e1, mup_ne _ _ _ (by omega)]
          have f64 : M1 64 = M 64 := by rw [e1, mup_ne _ _ _ (by omega)]
          refine m_wrongRow hd (fun w => absurd w (by rw [f62]; exact z)) (fun _ _ _ => b0 ⟨vin_d hd, ?_⟩) (fun _ w => absurd (by decide) (w (by rw [f62]; exact z2)).1)
          rw [cl (by omega), f64]
          refine m_pl_yes hn hs1 hi rfl (b1 ?_)
          rw [f63]
          have last : ∀ (u2 : Int32), u2 = u → vp_in (100 * nI d + nI i) 800 ∧ ∀ M2, M2 = mup M1 65 (100 * nI d + nI i).toNatClampNeg u2 → ((0 : Int32) = 0 ∧ Rel M2) := fun u2 eu => by
            subst eu
            rw [ix_e, cl (by omega)]
            refine ⟨nI_in (by omega) (by omega), fun M2 e2 => ⟨rfl, ?_⟩⟩
            subst e2 e1
            refine hR.shelf (fun j hj => by rw [mup_ne _ _ _ (by omega), mup_ne _ _ _ (by omega)]) (fun d2 hd2 => ?_)
            obtain ⟨g1, g2, g3, g4, g5, g6⟩ := hR.2.2 d2 hd2
            by_cases ed : d2 = d
            · subst ed
              refine ⟨?_, ?_, ?_, ?_, fun j hj => ?_, ?_⟩
              · rw [mup_ne _ _ _ (by omega), mup_ne _ _ _ (by omega), mup_ne _ _ _ (by omega), mup_ne _ _ _ (by omega)]; exact g1
              · rw [mup_ne _ _ _ (by omega), mup_ne _ _ _ (by omega)]; exact g2
              · rw [mup_ne _ _ _ (by omega), mup_ne _ _ _ (by omega), mup_ne _ _ _ (by omega), mup_ne _ _ _ (by omega)]; exact g3
              · rw [mup_ne _ _ _ (by omega), mup_ne _ _ _ (by omega), mup_ne _ _ _ (by omega), mup_ne _ _ _ (by omega)]; exact g4
              · rw [mup_ne _ _ _ (by omega), mup_eq, mup_eq, mup_ne _ _ _ (by omega)]
                by_cases ej : j = i
                · subst ej; rw [if_pos ⟨rfl, rfl⟩, if_pos ⟨rfl, rfl⟩]
                · rw [if_neg (fun w => ej w.2), if_neg (fun w => by omega)]; exact g5 j hj
              · rw [mup_ne _ _ _ (by omega), mup_ne _ _ _ (by omega), mup_ne _ _ _ (by omega), mup_ne _ _ _ (by omega), mup_ne _ _ _ (by omega), mup_ne _ _ _ (by omega), mup_ne _ _ _ (by omega), mup_ne _ _ _ (by omega)]; exact g6
            · refine (hR.2.2 d2 hd2).other ?_ ?_ ?_ ?_ ?_ ?_ ?_ ?_ ?_
              · rw [mup_ne _ _ _ (by omega), mup_ne _ _ _ (by omega)]
              · intro j hj; rw [mup_ne _ _ _ (by omega), mup_ne _ _ _ (by omega)]
              · rw [mup_ne _ _ _ (by omega), mup_ne _ _ _ (by omega)]
              · rw [mup_ne _ _ _ (by omega), mup_ne _ _ _ (by omega)]
              · rw [mup_ne _ _ _ (by omega), mup_ne _ _ _ (by omega)]
              · rw [mup_ne _ _ _ (by omega), mup_ne _ _ _ (by omega)]
              · intro j hj; rw [mup_eq, if_neg (by omega), mup_ne _ _ _ (by omega)]
              · rw [mup_ne _ _ _ (by omega), mup_ne _ _ _ (by omega)]
              · rw [mup_ne _ _ _ (by omega), mup_ne _ _ _ (by omega)]
          exact ⟨fun w => last _ (hu.1 w).symm, fun w => ⟨fun w2 => last _ (hu.2.1 w w2).symm, fun w2 => last _ (hu.2.2 w w2).symm⟩⟩
        unfold q_X3_putLowestBits j_X3_putLowestBits_61
        rw [h3]
        refine ⟨fun w => ⟨nI_in (by omega) (by omega), fun M1 e1 => fin _ M1 e1 ⟨fun _ => rfl, fun q => absurd w q, fun q => absurd w q⟩⟩, fun w => ⟨fun w2 => ⟨nI_in (by omega) (by omega), fun M1 e1 => fin _ M1 e1 ⟨fun q => absurd q w, fun _ _ => rfl, fun _ q => absurd w2 q⟩⟩, fun w2 => ⟨nI_in (by omega) (by omega), fun M1 e1 => fin _ M1 e1 ⟨fun q => absurd q w, fun _ q => absurd q w2, fun _ _ => rfl⟩⟩⟩⟩
    · refine m_wrongRow hd (fun w => absurd w z) (fun _ w => absurd w z2) (fun _ _ => bn (by decide) ⟨rfl, hR⟩)
