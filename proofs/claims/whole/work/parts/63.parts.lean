/-! PURE: tenth, holds, fastest, odds -/
theorem wr_nat : ∀ k, k ≤ 7 → ∀ f, f ≤ 9 → ∃ n, n ≤ 24 ∧ wrB (nI k) (nI f) = nI n := by decide
theorem SI.ten {S : Nat → Int32} {c : Nat} (h : SI S c) (v o : Int32) : SI (tenS S c v o) c := by
  obtain ⟨a1, a2, a3, a4⟩ := h
  refine ⟨a1, by rw [tenS_lo (by omega) (by omega) (by omega)]; exact a2, fun k hk => by rw [tenS_lo (by omega) (by omega) (by omega)]; exact a3 k hk, fun p hp => ?_⟩
  obtain ⟨kd, fg, fa, hu, b1, b2, b3, b4, b5, e1, e2, e3, e4⟩ := a4 p hp
  rw [tenS_o hp (by omega), tenS_o hp (by omega), tenS_o hp (by omega), tenS_3 hp]
  by_cases w : fwN S v c < c
  · rw [if_pos w]; exact ⟨kd, fg, fa, hu, b1, b2, b3, b4, b5, e1, e2, e3, e4⟩
  · rw [if_neg w]
    by_cases z : 0 < o
    · rw [if_pos z, e1, e2, e4]
      obtain ⟨n, hn, e⟩ := wr_nat kd b1 fg b2
      unfold huF
      rw [e, nI_add]
      by_cases q : hu + n ≤ 999
      · rw [if_pos (show nI (hu + n) ≤ (999 : Int32) from nI_le (b := 999) q (by omega))]
        exact ⟨kd, fg, fa, hu + n, b1, b2, b3, b4, q, rfl, rfl, e3, rfl⟩
      · rw [if_neg (show ¬ nI (hu + n) ≤ (999 : Int32) from nI_ge (a := 999) (b := hu + n) (by omega) (by omega))]
        exact ⟨kd, fg, fa, 999, b1, b2, b3, b4, by omega, rfl, rfl, e3, rfl⟩
    · rw [if_neg z]; exact ⟨kd, fg, fa, hu, b1, b2, b3, b4, b5, e1, e2, e3, e4⟩
theorem TP.tw {M M1 : Mem} {t c : Nat} {S S1 : Nat → Int32} (h : TW M t S c) (p : TP M1 t S1 c) (e : ∀ k, 3 ≤ k → k < 12 → S1 k = S k) (e3 : M1 t 3 = M t 3) (e4 : M1 t 4 = M t 4) (e10 : M1 (10 + t) = M (10 + t)) : TW M1 t S1 c :=
  ⟨⟨p.1, by rw [e3, e 3 (by omega) (by omega)]; exact h.1.2.1, by rw [e4, e 4 (by omega) (by omega)]; exact h.1.2.2.1, p.2.1, p.2.2.1⟩, fun k hk => by rw [e10, e _ (by omega) (by omega)]; exact h.2.1 k hk, p.2.2.2.1, p.2.2.2.2⟩
theorem e_tenth : lh_6 Rel := by
  intro M hR
  obtain ⟨c, hS, hT⟩ := hR.of
  have hI := Rel.mi hS hT
  have hc := hS.1
  refine x_lnq hT hS.1 (fun hn => ?_) (fun hn M1 f1 n1 => ?_)
  · exact m_lnq hI (fun _ => ⟨rfl, hR⟩) (fun z => absurd z hn)
  · have f := FrC.of4 f1
    have hT1 : TW M1 1 (M 58) c := hT.mem (f1 _ (by omega)) (f1 _ (by omega)) (fun p hp => f1 _ (by omega))
    refine x_tenth n1 (hS.lo al) hT1.tp hn hS.1 (Or.inl rfl) (fun M2 f2 g2 t2 _ => ?_)
    have e58 : M2 58 = M 58 := (f2 58 (by omega) (by omega)).trans f.e58
    have hI2 : MI M2 c := by unfold MI; rw [e58]; exact hI
    have hT2 : TW M2 1 (tenS (M 58) c (plF (sF (M 58) al c) (sH (M 58) al c) (gvR (sG (M 58) al c)) (M 58 5) (M 58 6) (M 58 7) (M 58 1)) (ovF (sF (M 58) al c) (sH (M 58) al c) (M 58 5) (M 58 6) (M 58 7) (M 58 1))) c := TP.tw hT1 t2 (fun k h1 h2 => tenS_lo (by omega) (by omega) (by omega)) (g2 3 (by omega)) (g2 4 (by omega)) (f2 _ (by omega) (by omega))
    refine m_lnq hI2 (fun z => absurd (by rw [e58]; exact hn) z) (fun _ M3 k3 n3 => ?_)
    rw [e58] at n3
    have e3 : M3 58 = M 58 := (k3.1 58 (by omega)).trans e58
    refine m_tenth n3 (by rw [e3]; exact hS.mo) (hS.gn al) (by rw [e3]; exact hS.2.1) hS.1 (fun M4 f4 g4 h4 _ => ⟨by rw [e3], ?_⟩)
    rw [e3] at h4
    have q4 : ∀ i, i ≠ 57 → i ≠ 58 → M4 i = M2 i := fun i a b => (f4 i a b).trans (k3.1 i a)
    refine hR.nows (c := c) (fun i a1 a2 a3 a4 _ b4 _ _ _ _ b57 _ _ _ => by rw [q4 i b57 a4, f2 i a1 (by omega), f1 i b4]) ?_ (by rw [h4]; exact hS.ten _ _) ?_
    · rw [g4 10 (by omega) (by omega), k3.2 10 (by omega), f2 57 (by omega) (by omega), f1 57 (by omega)]
    · rw [h4]
      exact hT2.mem (q4 _ (by omega) (by omega)) (q4 _ (by omega) (by omega)) (fun p hp => q4 _ (by omega) (by omega))
/-- in mind: when one parts, and which -/
def pw (c : Nat) (f h g y l v : Int32) : Nat → Nat → (Nat → Int32) → Int32 × Int32
  | 0, _, _ => (-4, -4)
  | k + 1, i, S => if ptF S (plF f h g y l v (S 1)) c = -4 then pw c f h g y l v k (i + 1) (tenS S c (plF f h g y l v (S 1)) (ovF f h y l v (S 1))) else (nI i, ptF S (plF f h g y l v (S 1)) c)
theorem pw_s (c : Nat) (f h g y l v : Int32) {n i : Nat} (S : Nat → Int32) (hi : i < n) : pw c f h g y l v (n - i) i S = if ptF S (plF f h g y l v (S 1)) c = -4 then pw c f h g y l v (n - (i + 1)) (i + 1) (tenS S c (plF f h g y l v (S 1)) (ovF f h y l v (S 1))) else (nI i, ptF S (plF f h g y l v (S 1)) c) := by
  rw [show n - i = (n - (i + 1)) + 1 by omega]
  rfl
theorem pw_z (c : Nat) (f h g y l v : Int32) {n : Nat} (S : Nat → Int32) : pw c f h g y l v (n - n) n S = (-4, -4) := by
  rw [Nat.sub_self]
  rfl
theorem ptF_c {S : Nat → Int32} {v : Int32} {c : Nat} (hc : c ≤ 6) : (ptF S v c = -4 ∧ ¬ fwN S v c < c) ∨ (fwN S v c < c ∧ ptF S v c = nI (fwN S v c) ∧ ¬ ptF S v c = -4 ∧ 0 ≤ ptF S v c ∧ ¬ ptF S v c < 0) := by
  have n4 : ∀ q, q < 6 → ¬ nI q = (-4 : Int32) := by decide
  unfold ptF
  by_cases w : fwN S v c < c
  · rw [if_pos w]
    exact Or.inr ⟨w, rfl, n4 _ (by omega), nI_pos' (by omega), nI_pos (by omega)⟩
  · rw [if_neg w]; exact Or.inl ⟨rfl, w⟩
theorem fwk_cong {S S1 : Nat → Int32} {v : Int32} (e : ∀ k, 12 ≤ k → S1 k = S k) : ∀ k p, fwk S1 v k p = fwk S v k p
  | 0, _ => rfl
  | k + 1, p => by
    unfold fwk wkB
    rw [e _ (by omega), e _ (by omega), e _ (by omega), fwk_cong e k (p + 1)]
theorem tenS_cong {S S1 : Nat → Int32} {v o : Int32} {c : Nat} (e : ∀ k, (k < 3 ∨ 12 ≤ k) → S1 k = S k) : ∀ k, (k < 3 ∨ 12 ≤ k) → tenS S1 c v o k = tenS S c v o k := by
  intro k hk
  have ef : fwN S1 v c = fwN S v c := fwk_cong (fun k hk => e k (by omega)) _ _
  unfold tenS
  rw [ef, e 1 (by omega), e 2 (by omega), e k hk, e _ (by omega), e _ (by omega), e _ (by omega)]
  by_cases w : 0 < o ∧ 12 ≤ k ∧ k < 12 + 6 * c ∧ (k - 12) % 6 = 3
  · rw [if_pos w, if_pos w, e (k - 3) (by omega), e (k - 2) (by omega)]
  · rw [if_neg w, if_neg w]
theorem ptF_cong {S S1 : Nat → Int32} {v : Int32} {c : Nat} (e : ∀ k, (k < 3 ∨ 12 ≤ k) → S1 k = S k) : ptF S1 v c = ptF S v c := by
  have ef : fwN S1 v c = fwN S v c := fwk_cong (fun k hk => e k (by omega)) _ _
  unfold ptF
  rw [ef]
theorem pw_cong {c : Nat} {f h g y l v : Int32} : ∀ {k i : Nat} {S S1 : Nat → Int32}, (∀ k, (k < 3 ∨ 12 ≤ k) → S1 k = S k) → pw c f h g y l v k i S1 = pw c f h g y l v k i S
  | 0, _, _, _, _ => rfl
  | k + 1, i, S, S1, e => by
    unfold pw
    rw [e 1 (by omega), ptF_cong e, pw_cong (k := k) (i := i + 1) (tenS_cong e)]
theorem LnS.ten {S : Nat → Int32} {c : Nat} {v o : Int32} (h : LnS S c) (w : ¬ fwN S v c < c) : LnS (tenS S c v o) c := ⟨h.1, fun p hp => by rw [tenS_4 hp, if_neg (fun q => w q.1)]; exact h.2 p hp⟩
theorem x_parts {M : Mem} {S : Nat → Int32} {c n : Nat} {f h g y l v x : Int32} {post : Int32 → Mem → Prop} (hx : x = nI n) (hn : n ≤ 400) (nl : LN M f h g y l v) (lo : LO g l v) (hT : TW M 1 S c) (hc : c ≤ 6) (hL : LnS S c) (k : ∀ M1, FrC M M1 → M1 4 = M 4 → (¬ (pw c f h (gvR g) y l v (n - 0) 0 S).1 = -4 → M1 3 7 = (pw c f h (gvR g) y l v (n - 0) 0 S).2) → post (pw c f h (gvR g) y l v (n - 0) 0 S).1 M1) : q_X5_partsWithin M x post := by
  subst hx
  refine x_become (a := 3) (b := 1) (by omega) (by omega) (by omega) hT hc (fun M6 f6 t6 => ?_)
  refine pk_loop (fun m i (s : Mem) => lp_X5_partsWithin_13 post m s (nI n) (nI i)) (fun i s => FrC M s ∧ s 4 = M 4 ∧ ∃ Si, TP s 3 Si c ∧ LnS Si c ∧ pw c f h (gvR g) y l v (n - 0) 0 S = pw c f h (gvR g) y l v (n - i) i Si) n 0 M6 (by omega) ⟨FrC.tow3 f6, f6 4 (by omega) (by omega) (by omega), S, t6.tp, hL, rfl⟩ (fun m s hs => ?_) (fun m i s hi hs kk => ?_)
  · obtain ⟨s1, s2, Si, s3, s4, ev⟩ := hs
    rw [pw_z] at ev
    rw [ev] at k
    exact bp (Int32.le_refl _) (k s s1 s2 (fun q => absurd rfl q))
  · obtain ⟨s1, s2, Si, s3, s4, ev⟩ := hs
    have ns : LN s f h g y l v := by unfold LN; rw [s2]; exact nl
    refine bn (nI_ge hi (by omega)) (x_tenth ns lo s3 s4 hc (Or.inr rfl) (fun M1 q1 _ q3 q4 => ?_))
    rw [pw_s _ _ _ _ _ _ _ _ hi] at ev
    have fr : FrC M M1 := s1.tr (fun i a _ _ _ _ b => q1 i a (by omega))
    have f4 : M1 4 = M 4 := by rw [q1 4 (by omega) (by omega), s2]
    rw [q4]
    rcases ptF_c (S := Si) (v := plF f h (gvR g) y l v (Si 1)) hc with ⟨a, b⟩ | ⟨a, b, d, _⟩
    · rw [if_pos a] at ev
      rw [a, nI_1]
      exact bp rfl (kk M1 ⟨fr, f4, _, q3, s4.ten b, ev⟩)
    · rw [if_neg d] at ev
      rw [ev] at k
      exact bn d (k M1 fr f4 (fun _ => q4))
/-- what the model's tries leave -/
def FrP (M M1 : Mem) : Prop := (∀ i, i ≠ 57 → i ≠ 61 → M1 i = M i) ∧ ∀ j, j < 18 → M1 57 j = M 57 j
theorem FrP.frM {M M1 : Mem} (h : FrP M M1) : FrM M M1 := ⟨fun i a _ _ b _ => h.1 i a b, h.2 10 (by omega), fun k _ => by rw [h.1 58 (by omega) (by omega)]⟩
theorem FrP.tr {M M1 M2 : Mem} (h : FrP M M1) (h2 : FrP M1 M2) : FrP M M2 := ⟨fun i a b => (h2.1 i a b).trans (h.1 i a b), fun j hj => (h2.2 j hj).trans (h.2 j hj)⟩
theorem FrP.rf {M : Mem} : FrP M M := ⟨fun _ _ _ => rfl, fun _ _ => rfl⟩
theorem m_parts {M : Mem} {c n : Nat} {x : Int32} {post : Int32 → Mem → Prop} (hx : x = nI n) (hn : n ≤ 400) (hc : M 58 0 = nI c) (hb : c ≤ 6) (o : MO (M 58)) (hg : ¬ gvR (sG (M 58) al c) = 0) (k : ∀ M1, FrP M M1 → (0 ≤ (pw c (sF (M 58) al c) (sH (M 58) al c) (gvR (sG (M 58) al c)) (M 58 5) (M 58 6) (M 58 7) (n - 0) 0 (M 58)).1 → M1 57 22 = (pw c (sF (M 58) al c) (sH (M 58) al c) (gvR (sG (M 58) al c)) (M 58 5) (M 58 6) (M 58 7) (n - 0) 0 (M 58)).2) → post (pw c (sF (M 58) al c) (sH (M 58) al c) (gvR (sG (M 58) al c)) (M 58 5) (M 58 6) (M 58 7) (n - 0) 0 (M 58)).1 M1) : q_X6_partsIn M x post := by
  subst hx
  refine m_copies (by omega) (fun M9 f9 g9 _ => ?_)
  have e9 : M9 58 = M 58 := f9 58 (by omega)
  refine m_sumsAll (by rw [e9]; exact hc) hb (fun M3 k3 n3 => ?_)
  rw [e9] at n3
  have e3 : M3 58 = M 58 := (k3.1 58 (by omega)).trans e9
  have c61 : ∀ j, j < 54 → M3 61 j = M 58 j := fun j hj => by rw [k3.1 61 (by omega), g9 j hj]
  generalize hf : sF (M 58) al c = f at *
  generalize hh : sH (M 58) al c = h at *
  generalize hgv : gvR (sG (M 58) al c) = g at *
  have exit : ∀ (s : Mem) (a : Int32), (∀ j, j ≠ 57 → j ≠ 58 → s j = M3 j) → (∀ j, j < 18 → s 57 j = M3 57 j) → (∀ j, 54 ≤ j → s 58 j = M 58 j) → (pw c f h g (M 58 5) (M 58 6) (M 58 7) (n - 0) 0 (M 58)).1 = a → (0 ≤ a → s 57 22 = (pw c f h g (M 58 5) (M 58 6) (M 58 7) (n - 0) 0 (M 58)).2) → j_X6_partsIn_60 post s a := fun s a s1 s2 s3 ea ep => by
    refine m_copies (by omega) (fun M2 f2 g2 h2 => ?_)
    subst ea
    refine k M2 ⟨fun i a b => ?_, fun j hj => by rw [f2 57 (by omega), s2 j hj, k3.2 j hj, f9 57 (by omega)]⟩ (fun q => by rw [f2 57 (by omega)]; exact ep q)
    by_cases w : i = 58
    · subst w
      funext j
      by_cases hj : j < 54
      · rw [g2 j hj, s1 61 (by omega) (by omega), c61 j hj]
      · rw [h2 j (by omega), s3 j (by omega)]
    · rw [f2 i w, s1 i a w, k3.1 i a, f9 i b]
  refine lo2 (fun m i (s : Mem) (a : Int32) => lp_X6_partsIn_24 post m s (nI n) a (nI i)) (fun i s a => ((∀ j, j ≠ 57 → j ≠ 58 → s j = M3 j) ∧ (∀ j, j < 18 → s 57 j = M3 57 j) ∧ (∀ j, j ≠ 1 → j ≠ 2 → (j < 12 ∨ 12 + 6 * c ≤ j) → s 58 j = M 58 j) ∧ LM s f h g) ∧ ((a = -4 ∧ pw c f h g (M 58 5) (M 58 6) (M 58 7) (n - 0) 0 (M 58) = pw c f h g (M 58 5) (M 58 6) (M 58 7) (n - i) i (s 58)) ∨ (0 ≤ a ∧ pw c f h g (M 58 5) (M 58 6) (M 58 7) (n - 0) 0 (M 58) = (a, s 57 22)))) n 0 M3 (-4) (by omega) ⟨⟨fun _ _ _ => rfl, fun _ _ => rfl, fun j _ _ _ => by rw [e3], n3⟩, Or.inl ⟨rfl, by rw [e3]⟩⟩ (fun m s a hs => ?_) (fun m i s a hi hs kk => ?_)
  · obtain ⟨⟨s1, s2, s3, s4⟩, s5⟩ := hs
    refine bp (Int32.le_refl _) (exit s a s1 s2 (fun j hj => s3 j (by omega) (by omega) (by omega)) ?_ ?_)
    · rcases s5 with ⟨ea, ev⟩ | ⟨_, ev⟩
      · rw [ev, pw_z, ea]
      · rw [ev]
    · rcases s5 with ⟨ea, ev⟩ | ⟨_, ev⟩
      · intro q; rw [ea] at q; exact absurd q (by decide)
      · intro _; rw [ev]
  · obtain ⟨⟨s1, s2, s3, s4⟩, s5⟩ := hs
    refine bn (nI_ge hi (by omega)) ?_
    rcases s5 with ⟨ea, ev⟩ | ⟨ha, ev⟩
    · subst ea
      have q5 : s 58 5 = M 58 5 := s3 5 (by omega) (by omega) (by omega)
      have q6 : s 58 6 = M 58 6 := s3 6 (by omega) (by omega) (by omega)
      have q7 : s 58 7 = M 58 7 := s3 7 (by omega) (by omega) (by omega)
      have q0 : s 58 0 = M 58 0 := s3 0 (by omega) (by omega) (by omega)
      refine bn (by decide) (m_tenth s4 (by unfold MO; rw [q6, q7]; exact o) hg (by rw [q0]; exact hc) hb (fun M6 f6 g6 h6 p6 => ?_))
      rw [q5, q6, q7] at h6 p6
      rw [pw_s _ _ _ _ _ _ _ _ hi] at ev
      have base : (∀ j, j ≠ 57 → j ≠ 58 → M6 j = M3 j) ∧ (∀ j, j < 18 → M6 57 j = M3 57 j) ∧ (∀ j, j ≠ 1 → j ≠ 2 → (j < 12 ∨ 12 + 6 * c ≤ j) → M6 58 j = M 58 j) ∧ LM M6 f h g := ⟨fun j a b => (f6 j a b).trans (s1 j a b), fun j hj => by rw [g6 j (by omega) (by omega), s2 j hj], fun j a b d => by rw [h6, tenS_lo a b d, s3 j a b d], by rw [LM, g6 18 (by omega) (by omega), g6 19 (by omega) (by omega), g6 20 (by omega) (by omega)]; exact s4⟩
      unfold j_X6_partsIn_54
      rw [nI_1, p6]
      rcases ptF_c (S := s 58) (v := plF f h g (M 58 5) (M 58 6) (M 58 7) (s 58 1)) hb with ⟨a, b⟩ | ⟨a, b, d, d2, d3⟩
      · rw [if_pos a] at ev
        rw [a]
        exact bp (by decide) (kk M6 _ ⟨base, Or.inl ⟨rfl, by rw [ev, h6]⟩⟩)
      · rw [if_neg d] at ev
        exact bn d3 (kk M6 _ ⟨base, Or.inr ⟨nI_pos' (by omega), by rw [ev, p6]⟩⟩)
    · refine bp ha (exit s a s1 s2 (fun j hj => s3 j (by omega) (by omega) (by omega)) (by rw [ev]) (fun _ => by rw [ev]))
theorem pw_neg {c : Nat} {f h g y l v : Int32} (hc : c ≤ 6) : ∀ {k i : Nat} {S : Nat → Int32}, i + k ≤ 400 → (pw c f h g y l v k i S).1 = -4 ∨ (0 ≤ (pw c f h g y l v k i S).1 ∧ ¬ (pw c f h g y l v k i S).1 = -4)
  | 0, _, _, _ => Or.inl rfl
  | k + 1, i, S, hk => by
    unfold pw
    by_cases w : ptF S (plF f h g y l v (S 1)) c = -4
    · rw [if_pos w]; exact pw_neg hc (by omega)
    · rw [if_neg w]
      have n4 : ¬ nI i = (-4 : Int32) := fun q => by
        have h0 := nI_pos' (n := i) (by omega)
        rw [q] at h0
        exact absurd h0 (by decide)
      exact Or.inr ⟨nI_pos' (by omega), n4⟩
theorem e_holds : lh_8 Rel := by
  intro M x y hR
  obtain ⟨c, hS, hT⟩ := hR.of
  have hI := Rel.mi hS hT
  have hc := hS.1
  refine x_in 0 400 rfl rfl (by omega) (by omega) (fun hno => b0 ?_) (fun n h1 h2 e => b1 (x_in 0 2 rfl rfl (by omega) (by omega) (fun hno => b0 ?_) (fun w _ hw ew => b1 (x_lnq hT hS.1 (fun hn => ?_) (fun hn M1 f1 n1 => ?_)))))
  · exact m_no 0 400 rfl rfl (by omega) (by omega) hno (b0 ⟨rfl, hR⟩)
  · exact m_yes 0 400 n e rfl rfl ⟨h1, h2⟩ (by omega) (b1 (m_no 0 2 rfl rfl (by omega) (by omega) hno (b0 ⟨rfl, hR⟩)))
  · exact m_yes 0 400 n e rfl rfl ⟨h1, h2⟩ (by omega) (b1 (m_yes 0 2 w ew rfl rfl (by omega) (by omega) (b1 (m_isLine hI.1.2.1 hI.1.1 hI.2 (fun _ => b0 ⟨rfl, hR⟩) (fun z => absurd z hn)))))
  · have f := FrC.of4 f1
    have hT1 : TW M1 1 (M 58) c := hT.mem (f1 _ (by omega)) (f1 _ (by omega)) (fun p hp => f1 _ (by omega))
    refine x_parts e h2 n1 (hS.lo al) hT1 hS.1 hn (fun M2 f2 _ p2 => ?_)
    have F := f.tr f2
    have hI2 := hI.frC F
    have e2 := F.e58
    have mm : ∀ r, (∀ M3, (0 ≤ (pw c (sF (M 58) al c) (sH (M 58) al c) (gvR (sG (M 58) al c)) (M 58 5) (M 58 6) (M 58 7) (n - 0) 0 (M 58)).1 → M3 57 22 = (pw c (sF (M 58) al c) (sH (M 58) al c) (gvR (sG (M 58) al c)) (M 58 5) (M 58 6) (M 58 7) (n - 0) 0 (M 58)).2) → Rel M3 → (fun r10 M11 => (y = 0 → ((0 ≤ r10 → (r = 0 ∧ Rel M11)) ∧ (¬ (0 ≤ r10) → (r = 1 ∧ Rel M11)))) ∧ (¬ (y = 0) → ((r10 < 0 → (r = r10 ∧ Rel M11)) ∧ (¬ (r10 < 0) → ((y = 1 → (r = r10 ∧ Rel M11)) ∧ (¬ (y = 1) → (r = M11 57 22 ∧ Rel M11))))))) (pw c (sF (M 58) al c) (sH (M 58) al c) (gvR (sG (M 58) al c)) (M 58 5) (M 58 6) (M 58 7) (n - 0) 0 (M 58)).1 M3) → q_X6_holds M2 x y (fun r2 M3 => r = r2 ∧ Rel M3) := fun r hr => by
      refine m_yes 0 400 n e rfl rfl ⟨h1, h2⟩ (by omega) (b1 (m_yes 0 2 w ew rfl rfl (by omega) (by omega) (b1 (m_isLine hI2.1.2.1 hI2.1.1 hI2.2 (fun z => absurd (by rw [e2]; exact hn) z) (fun _ => b1 (m_parts e h2 hI2.1.2.1 hI2.1.1 hI2.1.mo (by rw [e2]; exact hS.gn al) (fun M3 f3 p3 => ?_)))))))
      rw [e2] at p3
      rw [e2]
      exact hr M3 p3 ((hR.frC F).frM f3.frM)
    rcases pw_neg (c := c) (f := sF (M 58) al c) (h := sH (M 58) al c) (g := gvR (sG (M 58) al c)) (y := M 58 5) (l := M 58 6) (v := M 58 7) hc (k := n - 0) (i := 0) (S := M 58) (by omega) with a | ⟨a, b⟩
    · rw [a]
      refine ⟨fun z => bp rfl (mm _ (fun M3 _ q => ?_)), fun z => ⟨fun z1 => mm _ (fun M3 _ q => ?_), fun z1 => bp rfl (mm _ (fun M3 _ q => ?_))⟩⟩
      · rw [a]; exact ⟨fun _ => bn (by decide) ⟨rfl, q⟩, fun u => absurd z u⟩
      · rw [a]; exact ⟨fun u => absurd u z, fun _ => bp (by decide) ⟨rfl, q⟩⟩
      · rw [a]; exact ⟨fun u => absurd u z, fun _ => bp (by decide) ⟨rfl, q⟩⟩
    · have hlt : ¬ (pw c (sF (M 58) al c) (sH (M 58) al c) (gvR (sG (M 58) al c)) (M 58 5) (M 58 6) (M 58 7) (n - 0) 0 (M 58)).1 < 0 := nlt_le.mpr a
      refine ⟨fun z => bn b (mm _ (fun M3 _ q => ⟨fun _ => bp a ⟨rfl, q⟩, fun u => absurd z u⟩)), fun z => ⟨fun z1 => mm _ (fun M3 _ q => ⟨fun u => absurd u z, fun _ => bn hlt (bp z1 ⟨rfl, q⟩)⟩), fun z1 => bn b (mm _ (fun M3 q3 q => ⟨fun u => absurd u z, fun _ => bn hlt (bn z1 ⟨?_, q⟩)⟩))⟩⟩
      rw [q3 a, p2 b]
