/-! PURE: lines: sums over pieces, how a line hangs and pulls -/
def sB (b : Nat → Bool) (g : Nat → Int32) : Nat → Int32
  | 0 => 0
  | p + 1 => if b p then sB b g p + g p else sB b g p
def sF (S : Nat → Int32) (b : Nat → Bool) (c : Nat) : Int32 := sB b (fun p => S (12 + 6 * p + 2)) c
def sH (S : Nat → Int32) (b : Nat → Bool) (c : Nat) : Int32 := sB b (fun p => S (12 + 6 * p + 2) * hfB (S (12 + 6 * p + 0)) (S (12 + 6 * p + 1))) c
def sG (S : Nat → Int32) (b : Nat → Bool) (c : Nat) : Int32 := sB b (fun p => S (12 + 6 * p + 2) * gvB (S (12 + 6 * p + 0)) (S (12 + 6 * p + 1))) c
abbrev al : Nat → Bool := fun _ => true
def LnS (S : Nat → Int32) (c : Nat) : Prop := 0 < c ∧ ∀ p, p < c → S (12 + 6 * p + 4) = 0
def LN (M : Mem) (f h g y l v : Int32) : Prop := M 4 0 = f ∧ M 4 1 = h ∧ M 4 2 = g ∧ M 4 3 = y ∧ M 4 4 = l ∧ M 4 5 = v
theorem PTs.ln {pt pl : Int32} {S : Nat → Int32} {c : Nat} (h : PTs pt pl S c) (hc : c ≤ 6) : (0 < c ∧ pt = -4) ↔ LnS S c := by
  have n4 : ∀ q, q < 6 → nI q ≠ (-4 : Int32) := by decide
  rcases h with ⟨a, b⟩ | ⟨q, a1, a2, a3, a4, a5⟩
  · exact ⟨fun z => ⟨z.1, b⟩, fun z => ⟨z.1, a⟩⟩
  · constructor
    · intro z
      rw [a2] at z
      exact absurd z.2 (n4 q (by omega))
    · intro z
      have := z.2 q a1
      rw [a3] at this
      exact absurd this (by decide)
theorem PTs.bit {pt pl : Int32} {S : Nat → Int32} {c : Nat} (h : PTs pt pl S c) : ∀ p, p < c → S (12 + 6 * p + 4) = 0 ∨ S (12 + 6 * p + 4) = 1 := by
  intro p hp
  rcases h with ⟨a, b⟩ | ⟨q, a1, a2, a3, a4, a5⟩
  · exact Or.inl (b p hp)
  · by_cases e : p = q
    · subst e; exact Or.inr a3
    · exact Or.inl (a4 p hp e)
theorem x_add {M : Mem} {i : Nat} {n f h g y l v : Int32} {post : Mem → Prop} (hL : LN M f h g y l v) (hi : i ≠ 4) (k : ∀ M1, (∀ j, j ≠ 4 → M1 j = M j) → LN M1 (f + n) (h + n * M i 5) (g + n * M i 6) y l v → post M1) : q_X0_add M i n post := by
  obtain ⟨a0, a1, a2, a3, a4, a5⟩ := hL
  intro M1 e1 M2 e2 M3 e3
  subst e1 e2 e3
  refine k _ (fun j hj => by rw [mup_ne _ _ _ hj, mup_ne _ _ _ hj, mup_ne _ _ _ hj]) ?_
  simp [LN, mup_eq, hi, a0, a1, a2, a3, a4, a5]
theorem x_begin {M : Mem} {S : Nat → Int32} {c : Nat} {post : Mem → Prop} (hT : TW M 1 S c) (k : ∀ M1, (∀ j, j ≠ 4 → M1 j = M j) → LN M1 0 0 0 (S 5) (S 6) (S 7) → post M1) : q_X0_begin M 1 post := by
  obtain ⟨h1, h2, h3, h4⟩ := hT
  intro M1 e1 M2 e2 M3 e3 M4 e4 M5 e5 M6 e6
  subst e1 e2 e3 e4 e5 e6
  refine k _ (fun j hj => by rw [mup_ne _ _ _ hj, mup_ne _ _ _ hj, mup_ne _ _ _ hj, mup_ne _ _ _ hj, mup_ne _ _ _ hj, mup_ne _ _ _ hj]) ?_
  have e0 := h2 0 (by omega)
  have e1 := h2 1 (by omega)
  have e2 := h2 2 (by omega)
  simp [LN, mup_eq, e0, e1, e2]
theorem x_lay {M : Mem} {S : Nat → Int32} {c : Nat} {post : Int32 → Mem → Prop} (hT : TW M 1 S c) (hc : c ≤ 6) (h0 : ¬ LnS S c → post 0 M) (h1 : LnS S c → ∀ M1, (∀ j, j ≠ 4 → M1 j = M j) → LN M1 (sF S al c) (sH S al c) (sG S al c) (S 5) (S 6) (S 7) → post 1 M1) : q_X5_layLine M post := by
  have hl := PTs.ln hT.2.2.2 hc
  unfold q_X5_layLine q_X4_hasLine j_X4_hasLine_20 j_X4_hasLine_21
  rw [hT.1.1]
  refine ⟨fun z => ⟨Or.inl rfl, b0 (h0 (fun w => ?_))⟩, fun z => ⟨fun z2 => ⟨Or.inr rfl, b1 ?_⟩, fun z2 => ⟨Or.inl rfl, b0 (h0 (fun w => z2 (hl.mpr w).2))⟩⟩⟩
  · exact absurd z (nI_nle w.1 (by omega))
  have hp : 0 < c := by
    cases c with
    | zero => exact absurd (show (nI 0 : Int32) ≤ 0 by decide) z
    | succ c => omega
  have hL := hl.mp ⟨hp, z2⟩
  refine x_begin hT (fun M1 e1 l1 => ?_)
  refine pk_loop (fun n i (s : Mem) => lp_X5_layLine_25 post n s (nI i)) (fun i s => (∀ j, j ≠ 4 → s j = M j) ∧ LN s (sF S al i) (sH S al i) (sG S al i) (S 5) (S 6) (S 7)) c 0 M1 (by omega) ⟨e1, l1⟩ (fun n s hs => ?_) (fun n i s hi hs kk => ?_)
  · unfold lp_X5_layLine_25 b_X5_layLine_25
    rw [hs.1 1 (by omega), hT.1.1]
    exact bp (nI_le (Nat.le_refl _) (by omega)) (h1 hL s hs.1 hs.2)
  · unfold lp_X5_layLine_25 b_X5_layLine_25
    rw [hs.1 1 (by omega), hT.1.1]
    refine bn (nI_ge hi (by omega)) ⟨nI_in (by omega) (by omega), ?_⟩
    rw [nI_clamp (by omega), hs.1 (38 + i) (by omega)]
    have hp := hT.2.2.1 i hi
    unfold PCs at hp
    rw [show 32 + 6 * 1 + i = 38 + i by omega] at hp
    refine x_add hs.2 (by omega) (fun M2 e2 l2 => ?_)
    rw [nI_1]
    refine kk M2 ⟨fun j hj => (e2 j hj).trans (hs.1 j hj), ?_⟩
    rw [hs.1 (38 + i) (by omega), hp.2.2.1, hp.2.2.2.2.2.1, hp.2.2.2.2.2.2.1] at l2
    exact l2
/-- what a phase of the model's line leaves: all but its numbers from the 18th on -/
def Kq (M M1 : Mem) : Prop := (∀ i, i ≠ 57 → M1 i = M i) ∧ ∀ k, k < 18 → M1 57 k = M 57 k
theorem Kq.rf {M : Mem} : Kq M M := ⟨fun _ _ => rfl, fun _ _ => rfl⟩
theorem Kq.tr {M M1 M2 : Mem} (h : Kq M M1) (h2 : Kq M1 M2) : Kq M M2 := ⟨fun i hi => (h2.1 i hi).trans (h.1 i hi), fun k hk => (h2.2 k hk).trans (h.2 k hk)⟩
theorem Kq.frM {M M1 : Mem} (h : Kq M M1) : FrM M M1 := ⟨fun i hi _ _ _ _ => h.1 i hi, h.2 10 (by omega), fun k _ => by rw [h.1 58 (by omega)]⟩
theorem Kq.up {M : Mem} {k : Nat} {v : Int32} (hk : 18 ≤ k) : Kq M (mup M 57 k v) := ⟨fun i hi => mup_ne _ _ _ hi, fun j hj => by rw [mup_eq, if_neg (by omega)]⟩
def LM (M : Mem) (f h g : Int32) : Prop := M 57 18 = f ∧ M 57 19 = h ∧ M 57 20 = g
theorem m_isLine {M : Mem} {c : Nat} {post : Int32 → Mem → Prop} (hc : M 58 0 = nI c) (hb : c ≤ 6) (hbit : ∀ p, p < c → M 58 (12 + 6 * p + 4) = 0 ∨ M 58 (12 + 6 * p + 4) = 1) (h0 : ¬ LnS (M 58) c → post 0 M) (h1 : LnS (M 58) c → post 1 M) : q_X6_isLine M post := by
  refine pk_loop (fun n i (s : Mem) => lp_X6_isLine_2 post n s (nI i)) (fun i s => s = M ∧ ∀ p, p < i → M 58 (12 + 6 * p + 4) = 0) c 0 M (by omega) ⟨rfl, fun p hp => by omega⟩ (fun n s hs => ?_) (fun n i s hi hs kk => ?_)
  · obtain ⟨rfl, hs⟩ := hs
    unfold lp_X6_isLine_2 b_X6_isLine_2 j_X6_isLine_44
    rw [hc]
    refine bp (nI_le (Nat.le_refl _) (by omega)) ?_
    by_cases hp : 0 < c
    · exact bn (nI_nle hp (by omega)) ⟨Or.inr rfl, h1 ⟨hp, hs⟩⟩
    · have : c = 0 := by omega
      subst this
      exact bp (by decide) ⟨Or.inl rfl, h0 (fun z => by have := z.1; omega)⟩
  · obtain ⟨rfl, hs⟩ := hs
    unfold lp_X6_isLine_2 b_X6_isLine_2
    rw [hc]
    refine bn (nI_ge hi (by omega)) (m_get i 4 rfl rfl (by omega) (by omega) ?_)
    rcases hbit i hi with e | e
    · rw [e]
      refine bn (by decide) ?_
      rw [nI_1]
      refine kk s ⟨rfl, fun p hp => ?_⟩
      by_cases hq : p = i
      · subst hq; exact e
      · exact hs p (by omega)
    · rw [e]
      exact bp rfl (h0 (fun z => by have := z.2 i hi; rw [e] at this; exact absurd this (by decide)))
def bt (x : Int32) (p : Nat) : Bool := !decide ((x >>> (nI p &&& 31)) &&& 1 = 0)
def gvR (g : Int32) : Int32 := if 100 ≤ g then g / 100 else 1
theorem m_rounds {M : Mem} {f h g : Int32} {post : Mem → Prop} (l : LM M f h g) (k : ∀ M1, Kq M M1 → LM M1 f h (gvR g) → post M1) : q_X6_rounds M post := by
  obtain ⟨l1, l2, l3⟩ := l
  unfold q_X6_rounds j_X6_rounds_21
  rw [l3]
  have k2 : ∀ v, v = gvR g → ∀ M1, M1 = mup M 57 20 v → post M1 := fun v e M1 e1 => by
    subst e1 e
    refine k _ (Kq.up (by omega)) ⟨?_, ?_, ?_⟩
    · rw [mup_eq, if_neg (by omega)]; exact l1
    · rw [mup_eq, if_neg (by omega)]; exact l2
    · rw [mup_eq, if_pos ⟨rfl, rfl⟩]
  exact ⟨fun c => k2 _ (by unfold gvR; rw [if_pos c]), fun c => k2 _ (by unfold gvR; rw [if_neg c])⟩
theorem m_sums {M : Mem} {c : Nat} {x : Int32} {post : Mem → Prop} (hc : M 58 0 = nI c) (hb : c ≤ 6) (k : ∀ M1, Kq M M1 → LM M1 (sF (M 58) (bt x) c) (sH (M 58) (bt x) c) (gvR (sG (M 58) (bt x) c)) → post M1) : q_X6_sumsUp M x post := by
  intro M1 e1 M2 e2 M3 e3
  have k3 : Kq M M3 := by subst e1 e2 e3; exact (Kq.up (by omega)).tr ((Kq.up (by omega)).tr (Kq.up (by omega)))
  have l3 : LM M3 0 0 0 := by subst e1 e2 e3; simp [LM, mup_eq]
  clear e1 e2 e3
  refine pk_loop (fun n i (s : Mem) => lp_X6_sumsUp_17 post n s x (nI i)) (fun i s => Kq M s ∧ LM s (sF (M 58) (bt x) i) (sH (M 58) (bt x) i) (sG (M 58) (bt x) i)) c 0 M3 (by omega) ⟨k3, l3⟩ (fun n s hs => ?_) (fun n i s hi hs kk => ?_)
  · unfold lp_X6_sumsUp_17 b_X6_sumsUp_17
    rw [hs.1.1 58 (by omega), hc]
    exact bp (nI_le (Nat.le_refl _) (by omega)) (m_rounds hs.2 (fun M1 q1 q2 => k M1 (hs.1.tr q1) q2))
  · unfold lp_X6_sumsUp_17 b_X6_sumsUp_17 j_X6_sumsUp_107
    obtain ⟨hk, l1, l2, l3⟩ := hs
    rw [hk.1 58 (by omega), hc]
    refine bn (nI_ge hi (by omega)) ⟨fun z => ?_, fun z => ?_⟩
    · rw [nI_1]
      refine kk s ⟨hk, ?_⟩
      have : bt x i = false := by unfold bt; rw [decide_eq_true z]; rfl
      unfold sF sH sG sB
      rw [this]
      exact ⟨l1, l2, l3⟩
    · have hbt : bt x i = true := by unfold bt; rw [decide_eq_false z]; rfl
      refine m_get i 2 rfl rfl (by omega) (by omega) (fun M7 e7 => ?_)
      have k7 : Kq s M7 := by subst e7; exact Kq.up (by omega)
      refine m_get i 0 rfl rfl (by omega) (by omega) (m_get i 1 rfl rfl (by omega) (by omega) (m_heftBy (fun M14 e14 => ?_)))
      have k14 : Kq M7 M14 := by subst e14; exact Kq.up (by omega)
      refine m_get i 0 rfl rfl (by omega) (by omega) (m_get i 1 rfl rfl (by omega) (by omega) (m_giveBy (fun M21 e21 => ?_)))
      have k21 : Kq M14 M21 := by subst e21; exact Kq.up (by omega)
      rw [nI_1]
      refine kk M21 ⟨hk.tr (k7.tr (k14.tr k21)), ?_⟩
      have q7 := k7.1 58 (by omega)
      have q14 := k14.1 58 (by omega)
      have qs := hk.1 58 (by omega)
      rw [q14, q7, qs] at e21
      rw [q7, qs] at e14
      rw [qs] at e7
      unfold sF sH sG sB
      rw [hbt]
      simp only [if_true]
      unfold sF at l1
      unfold sH at l2
      unfold sG at l3
      subst e21 e14 e7
      simp [LM, mup_eq, l1, l2, l3]
theorem al_bits : ∀ c, c ≤ 6 → ∀ p, p < c → bt (((1 : Int32) <<< (nI c &&& 31)) - 1) p = true := by decide
theorem sB_cong {b b2 : Nat → Bool} {g g2 : Nat → Int32} : ∀ {n : Nat}, (∀ p, p < n → b p = b2 p ∧ g p = g2 p) → sB b g n = sB b2 g2 n
  | 0, _ => rfl
  | n + 1, h => by
    unfold sB
    rw [sB_cong (n := n) (fun p hp => h p (by omega)), (h n (by omega)).1, (h n (by omega)).2]
theorem m_sumsAll {M : Mem} {c : Nat} {post : Mem → Prop} (hc : M 58 0 = nI c) (hb : c ≤ 6) (k : ∀ M1, Kq M M1 → LM M1 (sF (M 58) al c) (sH (M 58) al c) (gvR (sG (M 58) al c)) → post M1) : q_X6_allPieces M (fun r M1 => q_X6_sumsUp M1 r post) := by
  unfold q_X6_allPieces
  rw [hc]
  refine m_sums hc hb (fun M1 k1 l1 => k M1 k1 ?_)
  have e : ∀ g, sB (bt (((1 : Int32) <<< (nI c &&& 31)) - 1)) g c = sB al g c := fun g => sB_cong (fun p hp => ⟨al_bits c hb p hp, rfl⟩)
  unfold sF sH sG at l1
  rw [e, e, e] at l1
  exact l1
