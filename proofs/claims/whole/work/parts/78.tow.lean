/-! PURE: tow -/
theorem neg_le {A : Int32} {q : Nat} (h1 : A.toInt ≤ 0) (h2 : -10000 ≤ A.toInt) (hq : q ≤ 1000) : A - nI q ≤ 0 := by
  have e := nI_toInt (n := q) (by omega)
  rw [Int32.le_iff_toInt_le, fb_subI (by omega) (by omega), e]
  have e0 : (0 : Int32).toInt = 0 := rfl
  omega
theorem FR.frC {M M1 : Mem} (h : FR M M1) : FrC M M1 := fun i a _ b c d e => h i a b c d (by omega)
theorem e_tow : lh_0 Rel := by
  intro M x hR
  obtain ⟨c, hS, hT⟩ := hR.of
  have hc := hS.1
  refine x_bytes (fun hno => bn (by decide) (m_wrongRow_no hno (bn (by decide) ⟨rfl, hR⟩))) (fun d hd e => ?_)
  obtain ⟨d1, d2, d3, ⟨n, hn, ds1, ds2⟩, d5, d6⟩ := hR.2.2 d hd
  subst e
  rw [d1, d3]
  refine ⟨fun z => bn (by decide) ?_, fun z z2 z3 => bp (by decide) ?_, fun z z2 => bn (by decide) ?_⟩
  · exact m_wrongRow hd (fun _ => bn (by decide) ⟨rfl, hR⟩) (fun u => absurd z u) (fun u => absurd z u)
  · obtain ⟨E, hE⟩ : ∃ E : Nat → Int32, E = fun i => M 65 (100 * d + i) := ⟨_, rfl⟩
    have hEm : ∀ i, M 65 (100 * d + i) = E i := fun i => by rw [hE]
    have tC : TC M (14 + d) n E := ⟨by rw [d1]; exact z2, ds2, hn, fun i hi => by rw [show 8 + (14 + d) = 22 + d by omega, d5 i (by omega), hEm], by omega⟩
    have mod : ∀ (M1 : Mem) (post : Int32 → Mem → Prop), (∀ i, 57 ≤ i → M1 i = M i) → ((okF (TX E n) n (n + 1) 0).1 = false → ∀ M2, FT M1 M2 → M2 58 = M1 58 → post (-1000 - nI (okF (TX E n) n (n + 1) 0).2) M2) → ((okF (TX E n) n (n + 1) 0).1 = true → (rnF (TX E n) n (n + 1) 0 (M 58) c).1.1 = false → ∀ M2, FT M1 M2 → M2 58 = M1 58 → post (-2000 - nI (rnF (TX E n) n (n + 1) 0 (M 58) c).1.2) M2) → ((okF (TX E n) n (n + 1) 0).1 = true → (rnF (TX E n) n (n + 1) 0 (M 58) c).1.1 = true → ∀ M2, FT M1 M2 → (∀ j, j < 54 → M2 58 j = (rnF (TX E n) n (n + 1) 0 (M 58) c).2.1 j) → post (nI (0 + cnF (TX E n) n (n + 1) 0)) M2) → q_X6_tow M1 (nI d) post := fun M1 post g h0 h1 h2 => by
      refine m_wrongRow hd (fun u => absurd u (by rw [g 62 (by omega)]; exact z)) (fun _ _ _ => b0 (fun M21 e21 => ⟨vin_d hd, fun M23 e23 M24 e24 => ?_⟩)) (fun _ u => absurd (by rw [g 63 (by omega)]; exact z3) (u (by rw [g 62 (by omega)]; exact z2)).2)
      rw [cl (by omega)] at e23
      have o24 : ∀ i, i ≠ 57 → M24 i = M1 i := fun i hi => by rw [e24, mup_ne _ _ _ hi, e23, mup_ne _ _ _ hi, e21, mup_ne _ _ _ hi]
      have p12 : M24 57 12 = nI 0 := by rw [e24, mup_eq, if_pos ⟨rfl, rfl⟩]; rfl
      have p14 : M24 57 14 = nI n := by rw [e24, mup_eq, if_neg (by omega), e23, mup_eq, if_pos ⟨rfl, rfl⟩, e21, mup_ne _ _ _ (by omega), g 64 (by omega)]; exact ds1
      have p13 : M24 57 13 = nI (100 * d) := by rw [e24, mup_eq, if_neg (by omega), e23, mup_eq, if_neg (by omega), e21, mup_eq, if_pos ⟨rfl, rfl⟩]; exact pk_mul 100 d
      have p10' : M24 57 10 = M1 57 10 := by rw [e24, mup_eq, if_neg (by omega), e23, mup_eq, if_neg (by omega), e21, mup_eq, if_neg (by omega)]
      have t24 : TM M24 d n E := ⟨p13, p14, hn, hd, fun i hi => by rw [o24 65 (by omega), g 65 (by omega)]; exact hEm i⟩
      obtain ⟨k, hk⟩ := nI_any (M24 57 15)
      have r24 : RM M24 M24 0 k := ⟨fun _ _ _ => rfl, fun _ _ _ _ => rfl, p12, hk⟩
      refine ⟨n + 1, m_p1 t24 (n + 1) 0 0 k M24 r24 (by omega) (by omega) (fun o M2 k1 r2 => h0 o M2 ⟨fun i i57 i58 i60 i68 => by rw [r2.1 i i57 i68, o24 i i57], by rw [r2.2.1 10 (by omega) (by omega) (by omega)]; exact p10'⟩ (by rw [r2.1 58 (by omega) (by omega), o24 58 (by omega)])) (fun o M2 p1 k1 r2 => ?_)⟩
      have hn0 : 0 < n := by
        rcases Nat.eq_zero_or_pos n with q | q
        · exfalso
          subst q
          rw [ok_s1] at o
          have es : (smF (TX E 0) 0).1 = false := by
            have eT : TX E 0 0 = 200 := by unfold TX; rw [if_neg (by omega)]
            unfold smF
            rw [eT]
            rfl
          rw [if_pos es] at o
          exact absurd (show false = true from o) (by decide)
        · exact q
      refine m_copies (by omega) (fun M16 f16 g16 _ M17 e17 => ⟨n + 1 + 1, ?_⟩)
      have q17 : ∀ i, i ≠ 57 → i ≠ 60 → i ≠ 68 → M17 i = M1 i := fun i i57 i60 i68 => by rw [e17, mup_ne _ _ _ i57, f16 i i60, r2.1 i i57 i68, o24 i i57]
      have q57 : ∀ j, j ≠ 12 → j ≠ 15 → j ≠ 16 → M17 57 j = M24 57 j := fun j a b cc => by rw [e17, mup_eq, if_neg (by omega), f16 57 (by omega), r2.2.1 j a b cc]
      have t17 : TM M17 d n E := ⟨by rw [q57 13 (by omega) (by omega) (by omega)]; exact p13, by rw [q57 14 (by omega) (by omega) (by omega)]; exact p14, hn, hd, fun i hi => by rw [q17 65 (by omega) (by omega) (by omega), g 65 (by omega)]; exact hEm i⟩
      refine m_p2 (M0 := M1) (n + 1) 0 (0 + cnF (TX E n) n (n + 1) 0) M17 (M 58) c t17 (by rw [e17, mup_eq, if_pos ⟨rfl, rfl⟩]; rfl) hn0 (by omega) hS (fun j hj => ?_) o ⟨fun i i57 i58 i60 i68 => q17 i i57 i60 i68, by rw [q57 10 (by omega) (by omega) (by omega)]; exact p10'⟩ (q17 58 (by omega) (by omega) (by omega)) (h1 o) (h2 o)
      rw [e17, mup_ne _ _ _ (by omega), g16 j hj, r2.1 58 (by omega) (by omega), o24 58 (by omega), g 58 (by omega)]
    have fm : ∀ M1 M2, FT M1 M2 → M2 58 = M1 58 → FrM M1 M2 := fun M1 M2 F e => ⟨fun i i57 i58 i60 i61 i68 => F.1 i i57 i58 i60 i68, F.2, fun k _ => by rw [e]⟩
    refine x_become (a := 3) (b := 1) (by omega) (by omega) (by omega) hT hc (fun M5 f5 t5 => ⟨vin_d hd, ?_⟩)
    rw [cl (by omega)]
    intro M14 e14
    refine ⟨n + 1 + 1, ?_⟩
    have F14 : FR M M14 := fun j a1 a2 a3 a4 a5 => by rw [e14, mup_ne _ _ _ a2, f5 j a1 (by omega) (by omega)]
    have hok := ok_b (T := TX E n) hn (n + 1) 0 (by omega)
    have hrn := rn_b (T := TX E n) hn (n + 1) 0 (M 58) c (by omega)
    have hcn := cn_b (T := TX E n) (n := n) (n + 1) 0
    refine x_readA tC (by omega) (n + 1) 0 0 0 M14 (M 58) c F14 (by rw [e14, mup_eq, if_pos ⟨rfl, rfl⟩]; rfl) (by omega) (Or.inl rfl) (by omega) (by omega) hS (t5.mem (by rw [e14, mup_ne _ _ _ (by omega)]) (by rw [e14, mup_ne _ _ _ (by omega)]) (fun p hp => by rw [e14, mup_ne _ _ _ (by omega)])) (fun o M1 F1 => ?_) (fun o o2 M1 F1 => ?_) (fun o o2 M1 F1 t1 s1 => ?_)
    · refine bp (neg_le (by decide) (by decide) (by omega)) (mod M1 _ (fun i hi => F1 i (by omega) (by omega) (by omega) (by omega) (by omega)) (fun _ M2 F2 e2 => ⟨rfl, (hR.frC F1.frC).frM (fm M1 M2 F2 e2)⟩) (fun q => absurd o (tr_nf q)) (fun q => absurd o (tr_nf q)))
    · refine bp (neg_le (by decide) (by decide) (by omega)) (mod M1 _ (fun i hi => F1 i (by omega) (by omega) (by omega) (by omega) (by omega)) (fun q => absurd q (tr_nf o)) (fun _ _ M2 F2 e2 => ⟨rfl, (hR.frC F1.frC).frM (fm M1 M2 F2 e2)⟩) (fun _ q => absurd o2 (tr_nf q)))
    · have hpos : 1 ≤ cnF (TX E n) n (n + 1) 0 := by rw [cn_s]; omega
      refine bn (nI_nle (by omega) (by omega)) (x_become (a := 1) (b := 3) (by omega) (by omega) (by omega) t1 s1.1 (fun M11 f11 t11 => ?_))
      have hc1 := s1.1
      have g11 : ∀ i, 57 ≤ i → M11 i = M i := fun i hi => by rw [f11 i (by omega) (by omega) (by omega), F1 i (by omega) (by omega) (by omega) (by omega) (by omega)]
      refine mod M11 _ g11 (fun q => absurd q (tr_nf o)) (fun _ q => absurd q (tr_nf o2)) (fun _ _ M2 F2 e2 => ⟨rfl, ?_⟩)
      refine hR.nows (c := (rnF (TX E n) n (n + 1) 0 (M 58) c).2.2) (fun i a1 a2 a3 a4 a5 a6 a7 a8 a9 a10 a11 a12 a13 a14 => ?_) ?_ (s1.arr e2) ?_
      · rw [F2.1 i a11 a4 a12 a14, f11 i a1 (by omega) (by omega), F1 i a5 a7 a8 a9 (by omega)]
      · rw [F2.2, g11 57 (by omega)]
      · refine (t11.arr hc1 e2).mem (F2.1 _ (by omega) (by omega) (by omega) (by omega)) (F2.1 _ (by omega) (by omega) (by omega) (by omega)) (fun p hp => F2.1 _ (by omega) (by omega) (by omega) (by omega))
  · exact m_wrongRow hd (fun u => absurd u z) (fun _ u v => absurd ⟨u, v.elim (fun q => absurd q (by decide)) id⟩ z2) (fun _ _ => bn (by decide) ⟨rfl, hR⟩)
