/-! PURE: the model's statement; what a statement's numbers are -/
def NM (M0 : Mem) (k : Nat) (M : Mem) (s : Nat × Nat × (Nat → Int32)) : Prop := (k = 97 ∧ NMa M0 M s) ∨ (k ≠ 97 ∧ MR M0 M s)
theorem zp_l {T : Nat → Nat} {c : Nat} {s : Nat × Nat × (Nat → Int32)} (h : (zpF T c s).1 = true) (hb : s.1 + 3 ≤ 900) : (zpF T c s).2.1 ≤ 900 := by
  have := (zp_b h).2.2
  omega
theorem m_statement {M0 M : Mem} {d n p k : Nat} {E : Nat → Int32} {post : Int32 → Mem → Prop} (t : TM M0 d n E) (h : RM M0 M p k) (hb : p ≤ 200) (h0 : (smF (TX E n) p).1 = false → ∀ M1 k1, RM M0 M1 (smF (TX E n) p).2.1 k1 → post 0 M1) (h1 : (smF (TX E n) p).1 = true → ∀ M1, NM M0 (TX E n p) M1 (smF (TX E n) p).2 → post 1 M1) : q_X6_readsStatement M post := by
  refine m_here t h (by omega) (fun r hr M17 e17 M18 e18 => ?_)
  have h17 : RM M0 M17 p 0 := ⟨fun i i57 i68 => by rw [e17, mup_ne _ _ _ i57, h.1 i i57 i68], fun j a b c => by rw [e17, mup_eq, if_neg (by omega), h.2.1 j a b c], by rw [e17, mup_eq, if_neg (by omega)]; exact h.2.2.1, by rw [e17, mup_eq, if_pos ⟨rfl, rfl⟩]; rfl⟩
  have h18r := (h17.mv e18).1
  have h18 : MR M0 M18 (s00 (p + 1)) := ⟨h18r, fun j hj => absurd hj (Nat.not_lt_zero _)⟩
  have st : ∀ cs, cs ≠ [] → shp (TX E n p) = cs → TX E n p ≠ 97 → GO (TX E n) (fun p => ∀ M1 k1, RM M0 M1 p k1 → post 0 M1) (fun s' => ∀ M1, MR M0 M1 s' → post 1 M1) cs (s00 (p + 1)) := fun cs hne e hk => by
    have eS : smF (TX E n) p = prF (TX E n) cs (s00 (p + 1)) := by unfold smF; rw [e, if_neg hne]
    rw [eS] at h0 h1
    exact ⟨h0, fun q M1 m1 => h1 q M1 (Or.inr ⟨hk, m1⟩)⟩
  have sp : (s00 (p + 1)).1 = p + 1 := rfl
  have l0 : (s00 (p + 1)).2.1 = 0 := rfl
  have ln : ∀ (c : Nat) (s : Nat × Nat × (Nat → Int32)), c = 68 ∨ c = 78 ∨ c = 83 → (zpF (TX E n) c s).1 = true → (zpF (TX E n) c s).2.2.1 = s.2.1 + 1 := fun c s hc e => by
    have := (zp_b e).1
    rw [if_pos hc] at this
    exact this
  refine ⟨fun z => ?_, fun z => ⟨fun z2 => ?_, fun z2 => ⟨fun z3 => ?_, fun z3 => ⟨fun z4 => ?_, fun z4 => ⟨fun z5 => ?_, fun z5 => ⟨fun z6 => ?_, fun z6 => fun M59 e59 => ?_⟩⟩⟩⟩⟩⟩
  · -- a
    have ek : TX E n p = 97 := (hr 97 (by omega)).mp z
    have eS : smF (TX E n) p = prF (TX E n) [83, 78, 59] (s00 (p + 1)) := by unfold smF; rw [ek]; rfl
    rw [eS] at h0 h1
    have g : GO (TX E n) (fun p => ∀ M1 k1, RM M0 M1 p k1 → post 0 M1) (fun s' => ∀ M1, NMa M0 M1 s' → post 1 M1) [83, 78, 59] (s00 (p + 1)) := ⟨h0, fun q M1 m1 => h1 q M1 (Or.inl ⟨ek, m1⟩)⟩
    obtain ⟨g1, g2⟩ := g.step
    have ez : zpF (TX E n) 83 (s00 (p + 1)) = if TX E n (p + 1) = 43 then (true, (p + 1 + 1, 0 + 1, upd (fun _ => 0) 0 1)) else if TX E n (p + 1) = 45 then (true, (p + 1 + 1, 0 + 1, upd (fun _ => 0) 0 (-1))) else (false, s00 (p + 1)) := rfl
    refine m_here t h18r (by omega) (fun r20 hr20 => ?_)
    have key : ∀ fl : Int32, (fl = 0 ∨ fl = 1) → (TX E n (p + 1) = 45 ↔ fl = 1) → j_X6_readsStatement_213 post M18 fl := fun fl hfl hfe => by
      refine And.intro hfl (fun M8 e8 => ?_)
      have h8 : RM M0 M8 (p + 1) 0 := ⟨fun i i57 i68 => by rw [e8, mup_ne _ _ _ i57, h18r.1 i i57 i68], fun j a b c => by rw [e8, mup_eq, if_neg (by omega), h18r.2.1 j a b c], by rw [e8, mup_eq, if_neg (by omega)]; exact h18r.2.2.1, by rw [e8, mup_eq, if_neg (by omega)]; exact h18r.2.2.2⟩
      have f8 : M8 57 16 = fl := by rw [e8, mup_eq, if_pos ⟨rfl, rfl⟩]
      refine m_takes (c := 43) t h8 (by omega) (by omega) rfl (fun w => b0 (m_takes (c := 45) t h8 (by omega) (by omega) rfl (fun w2 => b0 (f263 ?_)) (fun w2 M2 r2 q68 q16 => b1 ?_))) (fun w M2 r2 q68 q16 => b1 ?_)
      · rw [if_neg w, if_neg w2] at ez
        exact g1 (by rw [ez]) M8 _ h8
      · rw [if_neg w, if_pos w2] at ez
        have g3 := g2 (by rw [ez])
        rw [ez] at g3
        exact m_aN t r2 rfl (Or.inl ⟨by rw [q16, f8]; exact hfe.mp w2, rfl⟩) (by show p + 1 + 1 ≤ 800; omega) g3
      · rw [if_pos w] at ez
        have g3 := g2 (by rw [ez])
        rw [ez] at g3
        refine m_aN t r2 rfl (Or.inr ⟨?_, rfl⟩) (by show p + 1 + 1 ≤ 800; omega) g3
        rw [q16, f8]
        rcases hfl with q | q
        · exact q
        · have := hfe.mpr q
          omega
    have r45 := hr20 45 (by omega)
    exact ⟨fun w => key 1 (Or.inr rfl) ⟨fun _ => rfl, fun _ => r45.mp w⟩, fun w => key 0 (Or.inl rfl) ⟨fun q => absurd (r45.mpr q) w, fun q => absurd q (by decide)⟩⟩
  · -- d
    have ek : TX E n p = 100 := (hr 100 (by omega)).mp z2
    obtain ⟨g1, g2⟩ := (st [78, 59] (by decide) (by rw [ek]; rfl) (by omega)).step
    exact m_pN (f := 2) t h18 (by omega) (Or.inr ⟨rfl, rfl⟩) rfl (by omega) (fun e => f263 (g1 e M18 _ h18.1)) (fun e M1 m1 => m_end t m1 (zp_l e (by omega)) (g2 e))
  · -- p
    have ek : TX E n p = 112 := (hr 112 (by omega)).mp z3
    obtain ⟨g1, g2⟩ := (st [68, 68, 78, 59] (by decide) (by rw [ek]; rfl) (by omega)).step
    refine m_pN (f := 0) t h18 (by omega) (Or.inl ⟨rfl, rfl⟩) rfl (by omega) (fun e => b0 (f263 (g1 e M18 _ h18.1))) (fun e M1 m1 => b1 ?_)
    obtain ⟨g3, g4⟩ := (g2 e).step
    have c1 := (zp_b e).2.2
    have l1 := ln 68 _ (Or.inl rfl) e
    refine m_pN (f := 0) t m1 (by omega) (Or.inl ⟨rfl, rfl⟩) rfl (by omega) (fun e2 => b0 (f263 (g3 e2 M1 _ m1.1))) (fun e2 M2 m2 => b1 ?_)
    obtain ⟨g5, g6⟩ := (g4 e2).step
    have c2 := (zp_b e2).2.2
    have l2 := ln 68 _ (Or.inl rfl) e2
    exact m_pN (f := 2) t m2 (by omega) (Or.inr ⟨rfl, rfl⟩) rfl (by omega) (fun e3 => b0 (f263 (g5 e3 M2 _ m2.1))) (fun e3 M3 m3 => b1 (m_end t m3 (zp_l e3 (by omega)) (g6 e3)))
  · -- s
    have ek : TX E n p = 115 := (hr 115 (by omega)).mp z4
    obtain ⟨g1, g2⟩ := (st [78, 32, 78, 59] (by decide) (by rw [ek]; rfl) (by omega)).step
    refine m_pN (f := 2) t h18 (by omega) (Or.inr ⟨rfl, rfl⟩) rfl (by omega) (fun e => b0 (f263 (g1 e M18 _ h18.1))) (fun e M1 m1 => b1 ?_)
    obtain ⟨g3, g4⟩ := (g2 e).step
    have c1 := (zp_b e).2.2
    have l1 := ln 78 _ (Or.inr (Or.inl rfl)) e
    refine m_pC t m1 (Or.inr rfl) rfl (by omega) (fun e2 => b0 (f263 (g3 e2 M1 _ m1.1))) (fun e2 M2 m2 => b1 ?_)
    obtain ⟨g5, g6⟩ := (g4 e2).step
    have c2 := (zp_b e2).2.2
    have l2 := (zp_b e2).1
    rw [if_neg (by decide)] at l2
    exact m_pN (f := 2) t m2 (by omega) (Or.inr ⟨rfl, rfl⟩) rfl (by omega) (fun e3 => b0 (f263 (g5 e3 M2 _ m2.1))) (fun e3 M3 m3 => b1 (m_end t m3 (zp_l e3 (by omega)) (g6 e3)))
  · -- v
    have ek : TX E n p = 118 := (hr 118 (by omega)).mp z5
    obtain ⟨g1, g2⟩ := (st [68, 59] (by decide) (by rw [ek]; rfl) (by omega)).step
    exact m_pN (f := 0) t h18 (by omega) (Or.inl ⟨rfl, rfl⟩) rfl (by omega) (fun e => f263 (g1 e M18 _ h18.1)) (fun e M1 m1 => m_end t m1 (zp_l e (by omega)) (g2 e))
  · -- y
    have ek : TX E n p = 121 := (hr 121 (by omega)).mp z6
    obtain ⟨g1, g2⟩ := (st [68, 68, 68, 59] (by decide) (by rw [ek]; rfl) (by omega)).step
    refine m_pN (f := 0) t h18 (by omega) (Or.inl ⟨rfl, rfl⟩) rfl (by omega) (fun e => b0 (f263 (g1 e M18 _ h18.1))) (fun e M1 m1 => b1 ?_)
    obtain ⟨g3, g4⟩ := (g2 e).step
    have c1 := (zp_b e).2.2
    have l1 := ln 68 _ (Or.inl rfl) e
    refine m_pN (f := 0) t m1 (by omega) (Or.inl ⟨rfl, rfl⟩) rfl (by omega) (fun e2 => b0 (f263 (g3 e2 M1 _ m1.1))) (fun e2 M2 m2 => b1 ?_)
    obtain ⟨g5, g6⟩ := (g4 e2).step
    have c2 := (zp_b e2).2.2
    have l2 := ln 68 _ (Or.inl rfl) e2
    exact m_pN (f := 0) t m2 (by omega) (Or.inl ⟨rfl, rfl⟩) rfl (by omega) (fun e3 => b0 (f263 (g5 e3 M2 _ m2.1))) (fun e3 M3 m3 => b1 (m_end t m3 (zp_l e3 (by omega)) (g6 e3)))
  · -- none
    have en : shp (TX E n p) = [] := by
      unfold shp
      rw [if_neg (fun q => z ((hr 97 (by omega)).mpr q)), if_neg (fun q => z2 ((hr 100 (by omega)).mpr q)), if_neg (fun q => z3 ((hr 112 (by omega)).mpr q)), if_neg (fun q => z4 ((hr 115 (by omega)).mpr q)), if_neg (fun q => z5 ((hr 118 (by omega)).mpr q)), if_neg (fun q => z6 ((hr 121 (by omega)).mpr q))]
    have eS : smF (TX E n) p = (false, s00 p) := by unfold smF; rw [if_pos en]
    rw [eS] at h0
    rw [h18r.2.2.1, nI_pred] at e59
    exact h0 rfl M59 0 ⟨fun i i57 i68 => by rw [e59, mup_ne _ _ _ i57, h18r.1 i i57 i68], fun j a b c => by rw [e59, mup_eq, if_neg (by omega), h18r.2.1 j a b c], by rw [e59, mup_eq, if_pos ⟨rfl, rfl⟩]; rfl, by rw [e59, mup_eq, if_neg (by omega)]; exact h18r.2.2.2⟩
