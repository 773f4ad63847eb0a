/-! PURE: questions of a line -/
theorem lo2 {A B : Type} (W : Nat → Nat → A → B → Prop) (I : Nat → A → B → Prop) (e i0 : Nat) (a : A) (b : B) (hi : i0 ≤ e) (h0 : I i0 a b) (hx : ∀ n a b, I e a b → W (n + 1) e a b) (hs : ∀ n i a b, i < e → I i a b → (∀ a' b', I (i + 1) a' b' → W n (i + 1) a' b') → W (n + 1) i a b) : ∃ n, W n i0 a b :=
  pk_loop (fun n i (s : A × B) => W n i s.1 s.2) (fun i s => I i s.1 s.2) e i0 (a, b) hi h0 (fun n s h => hx n s.1 s.2 h) (fun n i s h1 h2 h3 => hs n i s.1 s.2 h1 h2 (fun a' b' h => h3 (a', b') h))
theorem lo3 {A B C : Type} (W : Nat → Nat → A → B → C → Prop) (I : Nat → A → B → C → Prop) (e i0 : Nat) (a : A) (b : B) (c : C) (hi : i0 ≤ e) (h0 : I i0 a b c) (hx : ∀ n a b c, I e a b c → W (n + 1) e a b c) (hs : ∀ n i a b c, i < e → I i a b c → (∀ a' b' c', I (i + 1) a' b' c' → W n (i + 1) a' b' c') → W (n + 1) i a b c) : ∃ n, W n i0 a b c :=
  pk_loop (fun n i (s : A × B × C) => W n i s.1 s.2.1 s.2.2) (fun i s => I i s.1 s.2.1 s.2.2) e i0 (a, b, c) hi h0 (fun n s h => hx n s.1 s.2.1 s.2.2 h) (fun n i s h1 h2 h3 => hs n i s.1 s.2.1 s.2.2 h1 h2 (fun a' b' c' h => h3 (a', b', c') h))
theorem lo4 {A B C D : Type} (W : Nat → Nat → A → B → C → D → Prop) (I : Nat → A → B → C → D → Prop) (e i0 : Nat) (a : A) (b : B) (c : C) (d : D) (hi : i0 ≤ e) (h0 : I i0 a b c d) (hx : ∀ n a b c d, I e a b c d → W (n + 1) e a b c d) (hs : ∀ n i a b c d, i < e → I i a b c d → (∀ a' b' c' d', I (i + 1) a' b' c' d' → W n (i + 1) a' b' c' d') → W (n + 1) i a b c d) : ∃ n, W n i0 a b c d :=
  pk_loop (fun n i (s : A × B × C × D) => W n i s.1 s.2.1 s.2.2.1 s.2.2.2) (fun i s => I i s.1 s.2.1 s.2.2.1 s.2.2.2) e i0 (a, b, c, d) hi h0 (fun n s h => hx n s.1 s.2.1 s.2.2.1 s.2.2.2 h) (fun n i s h1 h2 h3 => hs n i s.1 s.2.1 s.2.2.1 s.2.2.2 h1 h2 (fun a' b' c' d' h => h3 (a', b', c', d') h))
def MI (M : Mem) (c : Nat) : Prop := SI (M 58) c ∧ ∀ p, p < c → M 58 (12 + 6 * p + 4) = 0 ∨ M 58 (12 + 6 * p + 4) = 1
theorem FrC.e58 {M M1 : Mem} (f : FrC M M1) : M1 58 = M 58 := f 58 (by omega) (by omega) (by omega) (by omega) (by omega) (by omega)
theorem MI.frC {M M1 : Mem} {c : Nat} (h : MI M c) (f : FrC M M1) : MI M1 c := by unfold MI; rw [f.e58]; exact h
theorem MI.kq {M M1 : Mem} {c : Nat} (h : MI M c) (f : Kq M M1) : MI M1 c := by unfold MI; rw [f.1 58 (by omega)]; exact h
theorem FrC.of4 {M M1 : Mem} (e : ∀ j, j ≠ 4 → M1 j = M j) : FrC M M1 := fun i _ h _ _ _ _ => e i h
theorem x_lnq {M : Mem} {S : Nat → Int32} {c : Nat} {A B : Mem → Prop} (hT : TW M 1 S c) (hc : c ≤ 6) (h0 : ¬ LnS S c → A M) (h1 : LnS S c → ∀ M1, (∀ j, j ≠ 4 → M1 j = M j) → LN M1 (sF S al c) (sH S al c) (sG S al c) (S 5) (S 6) (S 7) → B M1) : q_X5_layLine M (fun r M1 => (r = 0 → A M1) ∧ (¬ r = 0 → B M1)) :=
  x_lay hT hc (fun z => b0 (h0 z)) (fun z M1 e n => b1 (h1 z M1 e n))
theorem m_lnq {M : Mem} {c : Nat} {A B : Mem → Prop} (hI : MI M c) (h0 : ¬ LnS (M 58) c → A M) (h1 : LnS (M 58) c → ∀ M1, Kq M M1 → LM M1 (sF (M 58) al c) (sH (M 58) al c) (gvR (sG (M 58) al c)) → B M1) : q_X6_isLine M (fun r M5 => (r = 0 → A M5) ∧ (¬ r = 0 → q_X6_allPieces M5 (fun r7 M8 => q_X6_sumsUp M8 r7 (fun M10 => B M10)))) :=
  m_isLine hI.1.2.1 hI.1.1 hI.2 (fun z => b0 (h0 z)) (fun z => b1 (m_sumsAll hI.1.2.1 hI.1.1 (fun M1 k1 l1 => h1 z M1 k1 l1)))
theorem Rel.mi {M : Mem} {c : Nat} (hS : SI (M 58) c) (hT : TW M 1 (M 58) c) : MI M c := ⟨hS, hT.2.2.2.bit⟩
theorem LM.kq {M M1 : Mem} {f h g : Int32} (l : LM M1 f h g) (hk : Kq M M1) : True := trivial
/-- the line of all pieces as it is: its parts are numbers -/
theorem SI.gn {S : Nat → Int32} {c : Nat} (h : SI S c) (b : Nat → Bool) : ¬ gvR (sG S b c) = 0 := gvR_ne (h.lo b).1
def PLS (S : Nat → Int32) (b : Nat → Bool) (c t : Nat) : Int32 := plF (sF S b c) (sH S b c) (gvR (sG S b c)) (S 5) (S 6) (S 7) (nI t)
-- the greatest
def mxP (P : Nat → Int32) : Nat → Int32
  | 0 => 0
  | n + 1 => if mxP P n < P n then P n else mxP P n
def amP (P : Nat → Int32) : Nat → Nat
  | 0 => 0
  | n + 1 => if mxP P n < P n ∨ n = 0 then n else amP P n
def nA (P : Nat → Int32) (x : Int32) : Nat → Int32
  | 0 => 0
  | n + 1 => if P n ≤ x then nA P x n else nA P x n + 1
theorem mxP_s (P : Nat → Int32) (n : Nat) : mxP P (n + 1) = if mxP P n < P n then P n else mxP P n := rfl
theorem mxP_z (P : Nat → Int32) : mxP P 0 = 0 := rfl
theorem amP_s (P : Nat → Int32) (n : Nat) : amP P (n + 1) = if mxP P n < P n ∨ n = 0 then n else amP P n := rfl
theorem nA_s (P : Nat → Int32) (x : Int32) (n : Nat) : nA P x (n + 1) = if P n ≤ x then nA P x n else nA P x n + 1 := rfl
theorem lt_no (x : Int32) : ¬ x < x := fun h => by rw [Int32.lt_iff_toInt_lt] at h; omega
theorem mxP_ge {P : Nat → Int32} : ∀ {n : Nat}, ∀ t, t < n → P t ≤ mxP P n
  | 0, t, h => by omega
  | n + 1, t, h => by
    rw [mxP_s]
    by_cases e : t = n
    · subst e
      by_cases c : mxP P t < P t
      · rw [if_pos c]; exact Int32.le_refl _
      · rw [if_neg c]; exact nlt_le.mp c
    · have ih := mxP_ge (P := P) (n := n) t (by omega)
      by_cases c : mxP P n < P n
      · rw [if_pos c]
        rw [Int32.le_iff_toInt_le] at ih ⊢
        rw [Int32.lt_iff_toInt_lt] at c
        omega
      · rw [if_neg c]; exact ih
theorem mxP_0 {P : Nat → Int32} : ∀ n, 0 ≤ mxP P n
  | 0 => Int32.le_refl _
  | n + 1 => by
    rw [mxP_s]
    have ih := mxP_0 (P := P) n
    by_cases c : mxP P n < P n
    · rw [if_pos c]
      rw [Int32.le_iff_toInt_le] at ih ⊢
      rw [Int32.lt_iff_toInt_lt] at c
      omega
    · rw [if_neg c]; exact ih
theorem amP_spec {P : Nat → Int32} : ∀ n, (∀ t, t < n → 0 ≤ P t) → 0 < n → amP P n < n ∧ P (amP P n) = mxP P n ∧ ∀ t, t < amP P n → P t < mxP P n
  | 0, _, h => by omega
  | n + 1, h0, _ => by
    by_cases z : n = 0
    · subst z
      rw [amP_s, mxP_s, mxP_z, if_pos (Or.inr rfl)]
      refine ⟨by omega, ?_, fun t ht => by omega⟩
      have := h0 0 (by omega)
      by_cases c : (0 : Int32) < P 0
      · rw [if_pos c]
      · rw [if_neg c]
        rw [nlt_le] at c
        exact Int32.le_antisymm c this
    · obtain ⟨a, b, d⟩ := amP_spec n (fun t ht => h0 t (by omega)) (by omega)
      rw [amP_s, mxP_s]
      by_cases c : mxP P n < P n
      · rw [if_pos (Or.inl c), if_pos c]
        refine ⟨by omega, rfl, fun t ht => ?_⟩
        have := mxP_ge (P := P) (n := n) t ht
        rw [Int32.le_iff_toInt_le] at this
        rw [Int32.lt_iff_toInt_lt] at c ⊢
        omega
      · rw [if_neg (fun w => w.elim c z), if_neg c]
        exact ⟨by omega, b, d⟩
section LCL2
variable {M : Mem} {f h g y v : Int32} {L : Nat} {post : Int32 → Mem → Prop}
abbrev PL (f h g y l v : Int32) : Nat → Int32 := fun t => plF f h g y l v (nI t)
theorem l_great (n : LN M f h g y (nI L) v) (o : LO g (nI L) v) (hL : L ≤ 40) (k : post (mxP (PL f h (gvR g) y (nI L) v) L) M) : q_X0_greatestPull M post := by
  refine lo2 (fun m i (s : Mem) (a : Int32) => lp_X0_greatestPull_4 post m s a (nI i)) (fun i s a => s = M ∧ a = mxP (PL f h (gvR g) y (nI L) v) i) L 0 M 0 (by omega) ⟨rfl, rfl⟩ (fun m M1 a hs => ?_) (fun m i M1 a hi hs kk => ?_)
  · obtain ⟨rfl, rfl⟩ := hs
    unfold lp_X0_greatestPull_4 b_X0_greatestPull_4
    rw [n.2.2.2.2.1]
    exact bp (nI_le (Nat.le_refl _) (by omega)) k
  · obtain ⟨rfl, rfl⟩ := hs
    unfold lp_X0_greatestPull_4 b_X0_greatestPull_4
    rw [n.2.2.2.2.1]
    refine bn (nI_ge hi (by omega)) (l_over n o (l_pullOver n o ?_))
    rw [nI_1]
    exact kk M1 _ ⟨rfl, (mxP_s _ _).symm⟩
theorem l_when (n : LN M f h g y (nI L) v) (o : LO g (nI L) v) (h4 : 0 < L) (hL : L ≤ 40) (h0 : ∀ t, t < L → 0 ≤ PL f h (gvR g) y (nI L) v t) (k : post (nI (amP (PL f h (gvR g) y (nI L) v) L)) M) : q_X0_whenGreatest M post := by
  obtain ⟨a1, a2, a3⟩ := amP_spec L h0 h4
  unfold q_X0_whenGreatest
  refine l_great n o hL ?_
  refine pk_loop (fun m i (s : Mem) => lp_X0_whenGreatest_7 post m s (mxP (PL f h (gvR g) y (nI L) v) L) (nI i)) (fun i s => s = M ∧ i ≤ amP (PL f h (gvR g) y (nI L) v) L) L 0 M (by omega) ⟨rfl, by omega⟩ (fun m s hs => ?_) (fun m i s hi hs kk => ?_)
  · omega
  · obtain ⟨rfl, hs⟩ := hs
    unfold lp_X0_whenGreatest_7 b_X0_whenGreatest_7
    rw [n.2.2.2.2.1]
    refine bn (nI_ge hi (by omega)) (l_pull n o ⟨fun e => ?_, fun e => ?_⟩)
    · have : i = amP (PL f h (gvR g) y (nI L) v) L := by
        apply Nat.le_antisymm hs
        apply Nat.not_lt.mp
        intro z
        have := a3 i z
        rw [show PL f h (gvR g) y (nI L) v i = _ from e] at this
        exact absurd this (lt_no _)
      rw [this]
      exact k
    · rw [nI_1]
      refine kk s ⟨rfl, ?_⟩
      apply Nat.lt_of_le_of_ne hs
      intro z
      rw [← z] at a2
      exact e a2
theorem l_above {x : Int32} (n : LN M f h g y (nI L) v) (o : LO g (nI L) v) (hL : L ≤ 40) (k : post (nA (PL f h (gvR g) y (nI L) v) x L) M) : q_X0_pullsAbove M x post := by
  refine lo2 (fun m i (s : Mem) (a : Int32) => lp_X0_pullsAbove_4 post m s x a (nI i)) (fun i s a => s = M ∧ a = nA (PL f h (gvR g) y (nI L) v) x i) L 0 M 0 (by omega) ⟨rfl, rfl⟩ (fun m M1 a hs => ?_) (fun m i M1 a hi hs kk => ?_)
  · obtain ⟨rfl, rfl⟩ := hs
    unfold lp_X0_pullsAbove_4 b_X0_pullsAbove_4
    rw [n.2.2.2.2.1]
    exact bp (nI_le (Nat.le_refl _) (by omega)) k
  · obtain ⟨rfl, rfl⟩ := hs
    unfold lp_X0_pullsAbove_4 b_X0_pullsAbove_4 j_X0_pullsAbove_24
    rw [n.2.2.2.2.1]
    refine bn (nI_ge hi (by omega)) (l_pull n o ⟨fun e => ?_, fun e => ?_⟩)
    · rw [nI_1]
      exact kk M1 _ ⟨rfl, by rw [nA_s, if_pos (show PL f h (gvR g) y (nI L) v i ≤ x from e)]⟩
    · rw [nI_1]
      exact kk M1 _ ⟨rfl, by rw [nA_s, if_neg (show ¬ PL f h (gvR g) y (nI L) v i ≤ x from e)]⟩
end LCL2
section LMD2
variable {M : Mem} {f h g : Int32} {L : Nat} {post : Int32 → Mem → Prop}
theorem m_great (n : LM M f h g) (o : MO (M 58)) (hg : ¬ g = 0) (eL : M 58 6 = nI L) (hL : L ≤ 40) (h0 : ∀ t, t < L → 0 ≤ PL f h g (M 58 5) (nI L) (M 58 7) t) (h4 : 0 < L) (k : ∀ M1, Kq M M1 → LM M1 f h g → M1 57 23 = nI (amP (PL f h g (M 58 5) (nI L) (M 58 7)) L) → M1 57 22 = M 57 22 → post (mxP (PL f h g (M 58 5) (nI L) (M 58 7)) L) M1) : q_X6_greatestOf M post := by
  refine lo2 (fun m i (s : Mem) (a : Int32) => lp_X6_greatestOf_4 post m s a (nI i)) (fun i s a => Kq M s ∧ LM s f h g ∧ s 57 22 = M 57 22 ∧ (i = 0 → a = -1) ∧ (0 < i → a = mxP (PL f h g (M 58 5) (nI L) (M 58 7)) i ∧ s 57 23 = nI (amP (PL f h g (M 58 5) (nI L) (M 58 7)) i))) L 0 M (-1) (by omega) ⟨Kq.rf, n, rfl, fun _ => rfl, fun z => by omega⟩ (fun m M1 a hs => ?_) (fun m i M1 a hi hs kk => ?_)
  · skip
    obtain ⟨k1, n1, q1, -, h2⟩ := hs
    obtain ⟨e1, e2⟩ := h2 h4
    subst e1
    unfold lp_X6_greatestOf_4 b_X6_greatestOf_4
    rw [k1.1 58 (by omega), eL]
    exact bp (nI_le (Nat.le_refl _) (by omega)) (k M1 k1 n1 e2 q1)
  · skip
    obtain ⟨k1, n1, q1, h1, h2⟩ := hs
    unfold lp_X6_greatestOf_4 b_X6_greatestOf_4 j_X6_greatestOf_42
    have e58 := k1.1 58 (by omega)
    rw [e58, eL]
    refine bn (nI_ge hi (by omega)) (m_pullK n1 (by rw [e58]; exact o) hg (fun M2 k2 n2 q2 q3 => ?_))
    rw [e58, eL]
    have hP := h0 i hi
    rw [nI_1]
    by_cases z : i = 0
    · subst z
      rw [h1 rfl]
      have hneg : (-1 : Int32) < PL f h g (M 58 5) (nI L) (M 58 7) 0 := by
        rw [Int32.le_iff_toInt_le] at hP
        rw [Int32.lt_iff_toInt_lt]
        have e0 : (0 : Int32).toInt = 0 := rfl
        have e1 : (-1 : Int32).toInt = -1 := by decide
        omega
      refine bp hneg (fun M5 e5 => ?_)
      subst e5
      refine kk _ _ ⟨(k1.tr k2).tr (Kq.up (by omega)), ?_, ?_, fun z => by omega, fun _ => ⟨?_, ?_⟩⟩
      · exact ⟨by rw [mup_eq, if_neg (by omega)]; exact n2.1, by rw [mup_eq, if_neg (by omega)]; exact n2.2.1, by rw [mup_eq, if_neg (by omega)]; exact n2.2.2⟩
      · show mup M2 57 23 _ 57 22 = _
        rw [mup_eq, if_neg (by omega), q2, q1]
      · rw [mxP_s, mxP_z]
        by_cases c : (0 : Int32) < PL f h g (M 58 5) (nI L) (M 58 7) 0
        · rw [if_pos c]
        · rw [if_neg c]
          rw [nlt_le] at c
          exact Int32.le_antisymm c hP
      · show mup M2 57 23 _ 57 23 = _
        rw [mup_eq, if_pos ⟨rfl, rfl⟩]
        rw [amP_s, if_pos (Or.inr rfl)]
    · obtain ⟨e1, e2⟩ := h2 (by omega)
      subst e1
      refine ⟨fun c => fun M5 e5 => ?_, fun c => ?_⟩
      · subst e5
        refine kk _ _ ⟨(k1.tr k2).tr (Kq.up (by omega)), ?_, ?_, fun z => by omega, fun _ => ⟨?_, ?_⟩⟩
        · exact ⟨by rw [mup_eq, if_neg (by omega)]; exact n2.1, by rw [mup_eq, if_neg (by omega)]; exact n2.2.1, by rw [mup_eq, if_neg (by omega)]; exact n2.2.2⟩
        · show mup M2 57 23 _ 57 22 = _
          rw [mup_eq, if_neg (by omega), q2, q1]
        · rw [mxP_s, if_pos c]
        · show mup M2 57 23 _ 57 23 = _
          rw [mup_eq, if_pos ⟨rfl, rfl⟩, amP_s, if_pos (Or.inl c)]
      · refine kk M2 _ ⟨k1.tr k2, n2, q2.trans q1, fun z => by omega, fun _ => ⟨?_, ?_⟩⟩
        · rw [mxP_s, if_neg c]
        · show M2 57 23 = _
          rw [q3, e2, amP_s, if_neg (fun w => w.elim c z)]
theorem m_above {x : Int32} (n : LM M f h g) (o : MO (M 58)) (hg : ¬ g = 0) (eL : M 58 6 = nI L) (hL : L ≤ 40) (k : ∀ M1, Kq M M1 → LM M1 f h g → post (nA (PL f h g (M 58 5) (nI L) (M 58 7)) x L) M1) : q_X6_above M x post := by
  refine lo2 (fun m i (s : Mem) (a : Int32) => lp_X6_above_4 post m s x a (nI i)) (fun i s a => Kq M s ∧ LM s f h g ∧ a = nA (PL f h g (M 58 5) (nI L) (M 58 7)) x i) L 0 M 0 (by omega) ⟨Kq.rf, n, rfl⟩ (fun m M1 a hs => ?_) (fun m i M1 a hi hs kk => ?_)
  · skip
    obtain ⟨k1, n1, e1⟩ := hs
    subst e1
    unfold lp_X6_above_4 b_X6_above_4
    rw [k1.1 58 (by omega), eL]
    exact bp (nI_le (Nat.le_refl _) (by omega)) (k M1 k1 n1)
  · skip
    obtain ⟨k1, n1, e1⟩ := hs
    subst e1
    unfold lp_X6_above_4 b_X6_above_4 j_X6_above_36
    have e58 := k1.1 58 (by omega)
    rw [e58, eL]
    refine bn (nI_ge hi (by omega)) (m_pullK n1 (by rw [e58]; exact o) hg (fun M2 k2 n2 q2 q3 => ?_))
    rw [e58, eL, nI_1]
    refine ⟨fun c => ?_, fun c => ?_⟩
    · exact kk M2 _ ⟨k1.tr k2, n2, by rw [nA_s, if_pos (show PL f h g (M 58 5) (nI L) (M 58 7) i ≤ x from c), Int32.add_zero]⟩
    · exact kk M2 _ ⟨k1.tr k2, n2, by rw [nA_s, if_neg (show ¬ PL f h g (M 58 5) (nI L) (M 58 7) i ≤ x from c)]⟩
end LMD2
