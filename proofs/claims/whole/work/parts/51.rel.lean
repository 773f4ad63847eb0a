/-! PURE: the relation between the class's cells and the model's -/
def whF (hu st pl : Int32) : Int32 := if hu = 0 then 0 else if pl ≤ st then 1 else 2
def PCs (M : Mem) (i : Nat) (S : Nat → Int32) (p : Nat) : Prop := M i 0 = S (12 + 6 * p + 0) ∧ M i 1 = S (12 + 6 * p + 1) ∧ M i 2 = S (12 + 6 * p + 2) ∧ M i 3 = nI p ∧ M i 4 = S (12 + 6 * p + 3) ∧ M i 5 = hfB (S (12 + 6 * p + 0)) (S (12 + 6 * p + 1)) ∧ M i 6 = gvB (S (12 + 6 * p + 0)) (S (12 + 6 * p + 1)) ∧ M i 7 = stB (S (12 + 6 * p + 0)) (S (12 + 6 * p + 1)) ∧ M i 8 = wrB (S (12 + 6 * p + 0)) (S (12 + 6 * p + 1))
def PTs (pt pl : Int32) (S : Nat → Int32) (c : Nat) : Prop := (pt = -4 ∧ ∀ p, p < c → S (12 + 6 * p + 4) = 0) ∨ ∃ q, q < c ∧ pt = nI q ∧ S (12 + 6 * q + 4) = 1 ∧ (∀ p, p < c → p ≠ q → S (12 + 6 * p + 4) = 0) ∧ S (12 + 6 * q + 5) = whF (S (12 + 6 * q + 3)) (stB (S (12 + 6 * q + 0)) (S (12 + 6 * q + 1))) pl
def TW (M : Mem) (t : Nat) (S : Nat → Int32) (c : Nat) : Prop := (M t 1 = nI c ∧ M t 3 = S 3 ∧ M t 4 = S 4 ∧ M t 5 = S 1 ∧ M t 6 = S 2) ∧ (∀ k, k < 7 → M (10 + t) k = S (5 + k)) ∧ (∀ p, p < c → PCs M (32 + 6 * t + p) S p) ∧ PTs (M t 7) (M t 8) S c
def loS (k : Nat) : Nat := ([0, 4, 0, 1, 0, 0, 0] : List Nat).getD k 0
def hiS (k : Nat) : Nat := ([60, 40, 9, 999, 9, 9, 9] : List Nat).getD k 0
def SI (S : Nat → Int32) (c : Nat) : Prop := c ≤ 6 ∧ S 0 = nI c ∧ (∀ k, k < 7 → ∃ n, loS k ≤ n ∧ n ≤ hiS k ∧ S (5 + k) = nI n) ∧ ∀ p, p < c → ∃ kd fg fa hu : Nat, kd ≤ 7 ∧ fg ≤ 9 ∧ 1 ≤ fa ∧ fa ≤ 99 ∧ hu ≤ 999 ∧ S (12 + 6 * p + 0) = nI kd ∧ S (12 + 6 * p + 1) = nI fg ∧ S (12 + 6 * p + 2) = nI fa ∧ S (12 + 6 * p + 3) = nI hu
def SH (M : Mem) (d : Nat) : Prop := M (14 + d) 0 = M 62 d ∧ (M 62 d = 0 ∨ M 62 d = 1 ∨ M 62 d = 2) ∧ M (14 + d) 2 = M 63 d ∧ (∃ n, n ≤ 100 ∧ M 64 d = nI n ∧ M (14 + d) 3 = nI n) ∧ (∀ i, i < 100 → M (22 + d) i = M 65 (100 * d + i)) ∧ (M 62 d = 1 → M 66 d = coB (M (30 + d) 0) (M (30 + d) 1) (M (30 + d) 2) ∧ M 67 d = toB (M (30 + d) 0) (M (30 + d) 1) (M (30 + d) 3) (M (30 + d) 8))
def IMG (M : Mem) : Prop := (M 0 7 = 0 ∧ M 57 10 = 0) ∨ (M 0 7 = 1 ∧ M 57 10 = 1 ∧ ∃ c, SI (M 59) c ∧ TW M 2 (M 59) c)
def Rel (M : Mem) : Prop := (∃ c, SI (M 58) c ∧ TW M 1 (M 58) c) ∧ IMG M ∧ ∀ d, d < 8 → SH M d
/-- what a question of the class leaves; what one of the model leaves -/
def FrC (M M1 : Mem) : Prop := ∀ i, i ≠ 3 → i ≠ 4 → i ≠ 5 → i ≠ 7 → i ≠ 13 → (i < 50 ∨ 57 ≤ i) → M1 i = M i
def FrM (M M1 : Mem) : Prop := (∀ i, i ≠ 57 → i ≠ 58 → i ≠ 60 → i ≠ 61 → i ≠ 68 → M1 i = M i) ∧ M1 57 10 = M 57 10 ∧ ∀ k, k < 54 → M1 58 k = M 58 k
theorem FrC.rf {M : Mem} : FrC M M := fun _ _ _ _ _ _ _ => rfl
theorem FrC.tr {M M1 M2 : Mem} (h : FrC M M1) (h2 : FrC M1 M2) : FrC M M2 := fun i a b c d e f => (h2 i a b c d e f).trans (h i a b c d e f)
theorem FrM.rf {M : Mem} : FrM M M := ⟨fun _ _ _ _ _ _ => rfl, rfl, fun _ _ => rfl⟩
theorem FrM.tr {M M1 M2 : Mem} (h : FrM M M1) (h2 : FrM M1 M2) : FrM M M2 := ⟨fun i a b c d e => (h2.1 i a b c d e).trans (h.1 i a b c d e), h2.2.1.trans h.2.1, fun k hk => (h2.2.2 k hk).trans (h.2.2 k hk)⟩
theorem TW.mem {M M1 : Mem} {t c : Nat} {S : Nat → Int32} (h : TW M t S c) (e1 : M1 t = M t) (e2 : M1 (10 + t) = M (10 + t)) (e3 : ∀ p, p < c → M1 (32 + 6 * t + p) = M (32 + 6 * t + p)) : TW M1 t S c := by
  obtain ⟨h1, h2, h3, h4⟩ := h
  refine ⟨by rw [e1]; exact h1, fun k hk => by rw [e2]; exact h2 k hk, fun p hp => ?_, by rw [e1]; exact h4⟩
  unfold PCs
  rw [e3 p hp]
  exact h3 p hp
theorem TW.arr {M : Mem} {t c : Nat} {S S1 : Nat → Int32} (h : TW M t S c) (hc : c ≤ 6) (e : ∀ k, k < 54 → S1 k = S k) : TW M t S1 c := by
  obtain ⟨h1, h2, h3, h4⟩ := h
  have e9 : ∀ p, p < c → ∀ j, j < 6 → S1 (12 + 6 * p + j) = S (12 + 6 * p + j) := fun p hp j hj => e _ (by omega)
  refine ⟨by rw [e 3 (by omega), e 4 (by omega), e 1 (by omega), e 2 (by omega)]; exact h1, fun k hk => by rw [e _ (by omega)]; exact h2 k hk, fun p hp => ?_, ?_⟩
  · unfold PCs
    rw [e9 p hp 0 (by omega), e9 p hp 1 (by omega), e9 p hp 2 (by omega), e9 p hp 3 (by omega)]
    exact h3 p hp
  · rcases h4 with ⟨a, b⟩ | ⟨q, a1, a2, a3, a4, a5⟩
    · exact Or.inl ⟨a, fun p hp => by rw [e9 p hp 4 (by omega)]; exact b p hp⟩
    · refine Or.inr ⟨q, a1, a2, by rw [e9 q a1 4 (by omega)]; exact a3, fun p hp hq => by rw [e9 p hp 4 (by omega)]; exact a4 p hp hq, ?_⟩
      rw [e9 q a1 5 (by omega), e9 q a1 3 (by omega), e9 q a1 0 (by omega), e9 q a1 1 (by omega)]
      exact a5
theorem SI.arr {c : Nat} {S S1 : Nat → Int32} (h : SI S c) (e : ∀ k, k < 54 → S1 k = S k) : SI S1 c := by
  obtain ⟨h1, h2, h3, h4⟩ := h
  have e9 : ∀ p, p < c → ∀ j, j < 6 → S1 (12 + 6 * p + j) = S (12 + 6 * p + j) := fun p hp j hj => e _ (by omega)
  refine ⟨h1, by rw [e 0 (by omega)]; exact h2, fun k hk => by rw [e _ (by omega)]; exact h3 k hk, fun p hp => ?_⟩
  rw [e9 p hp 0 (by omega), e9 p hp 1 (by omega), e9 p hp 2 (by omega), e9 p hp 3 (by omega)]
  exact h4 p hp
theorem SH.mem {M M1 : Mem} {d : Nat} (h : SH M d) (e1 : M1 (14 + d) = M (14 + d)) (e2 : M1 (22 + d) = M (22 + d)) (e3 : M1 (30 + d) = M (30 + d)) (e4 : M1 62 = M 62) (e5 : M1 63 = M 63) (e6 : M1 64 = M 64) (e7 : M1 65 = M 65) (e8 : M1 66 = M 66) (e9 : M1 67 = M 67) : SH M1 d := by
  unfold SH
  rw [e1, e2, e3, e4, e5, e6, e7, e8, e9]
  exact h
theorem IMG.mem {M M1 : Mem} (h : IMG M) (e0 : M1 0 7 = M 0 7) (e1 : M1 57 10 = M 57 10) (e2 : M1 2 = M 2) (e3 : M1 12 = M 12) (e4 : ∀ i, 44 ≤ i → i < 50 → M1 i = M i) (e5 : M1 59 = M 59) : IMG M1 := by
  rcases h with ⟨a, b⟩ | ⟨a, b, c, h1, h2⟩
  · exact Or.inl ⟨e0.trans a, e1.trans b⟩
  · refine Or.inr ⟨e0.trans a, e1.trans b, c, by rw [e5]; exact h1, by rw [e5]; exact h2.mem e2 e3 (fun p hp => e4 _ (by omega) (by have := h1.1; omega))⟩
theorem Rel.frC {M M1 : Mem} (h : Rel M) (f : FrC M M1) : Rel M1 := by
  obtain ⟨⟨c, h1, h2⟩, h3, h4⟩ := h
  have g : ∀ i, i ≠ 3 → i ≠ 4 → i ≠ 5 → i ≠ 7 → i ≠ 13 → (i < 50 ∨ 57 ≤ i) → M1 i = M i := f
  have e58 : M1 58 = M 58 := (g _ (by omega) (by omega) (by omega) (by omega) (by omega) (by omega))
  have hc := h1.1
  have hT : TW M1 1 (M 58) c := h2.mem (g _ (by omega) (by omega) (by omega) (by omega) (by omega) (by omega)) (g _ (by omega) (by omega) (by omega) (by omega) (by omega) (by omega)) (fun p hp => (g _ (by omega) (by omega) (by omega) (by omega) (by omega) (by omega)))
  have hI : IMG M1 := h3.mem (by rw [show M1 0 = M 0 from (g _ (by omega) (by omega) (by omega) (by omega) (by omega) (by omega))]) (by rw [show M1 57 = M 57 from (g _ (by omega) (by omega) (by omega) (by omega) (by omega) (by omega))]) (g _ (by omega) (by omega) (by omega) (by omega) (by omega) (by omega)) (g _ (by omega) (by omega) (by omega) (by omega) (by omega) (by omega)) (fun i h5 h6 => (g _ (by omega) (by omega) (by omega) (by omega) (by omega) (by omega))) (g _ (by omega) (by omega) (by omega) (by omega) (by omega) (by omega))
  exact ⟨⟨c, by rw [e58]; exact h1, by rw [e58]; exact hT⟩, hI, fun d hd => (h4 d hd).mem (g _ (by omega) (by omega) (by omega) (by omega) (by omega) (by omega)) (g _ (by omega) (by omega) (by omega) (by omega) (by omega) (by omega)) (g _ (by omega) (by omega) (by omega) (by omega) (by omega) (by omega)) (g _ (by omega) (by omega) (by omega) (by omega) (by omega) (by omega)) (g _ (by omega) (by omega) (by omega) (by omega) (by omega) (by omega)) (g _ (by omega) (by omega) (by omega) (by omega) (by omega) (by omega)) (g _ (by omega) (by omega) (by omega) (by omega) (by omega) (by omega)) (g _ (by omega) (by omega) (by omega) (by omega) (by omega) (by omega)) (g _ (by omega) (by omega) (by omega) (by omega) (by omega) (by omega))⟩
theorem Rel.frM {M M1 : Mem} (h : Rel M) (f : FrM M M1) : Rel M1 := by
  obtain ⟨⟨c, h1, h2⟩, h3, h4⟩ := h
  obtain ⟨g, g10, g58⟩ := f
  have hc := h1.1
  have hT : TW M1 1 (M1 58) c := (h2.arr h1.1 g58).mem (g _ (by omega) (by omega) (by omega) (by omega) (by omega)) (g _ (by omega) (by omega) (by omega) (by omega) (by omega)) (fun p hp => (g _ (by omega) (by omega) (by omega) (by omega) (by omega)))
  have hI : IMG M1 := h3.mem (by rw [show M1 0 = M 0 from (g _ (by omega) (by omega) (by omega) (by omega) (by omega))]) g10 (g _ (by omega) (by omega) (by omega) (by omega) (by omega)) (g _ (by omega) (by omega) (by omega) (by omega) (by omega)) (fun i h5 h6 => (g _ (by omega) (by omega) (by omega) (by omega) (by omega))) (g _ (by omega) (by omega) (by omega) (by omega) (by omega))
  exact ⟨⟨c, h1.arr g58, hT⟩, hI, fun d hd => (h4 d hd).mem (g _ (by omega) (by omega) (by omega) (by omega) (by omega)) (g _ (by omega) (by omega) (by omega) (by omega) (by omega)) (g _ (by omega) (by omega) (by omega) (by omega) (by omega)) (g _ (by omega) (by omega) (by omega) (by omega) (by omega)) (g _ (by omega) (by omega) (by omega) (by omega) (by omega)) (g _ (by omega) (by omega) (by omega) (by omega) (by omega)) (g _ (by omega) (by omega) (by omega) (by omega) (by omega)) (g _ (by omega) (by omega) (by omega) (by omega) (by omega)) (g _ (by omega) (by omega) (by omega) (by omega) (by omega))⟩
/-- the start -/
theorem Rel_M00 : Rel M00 := by
  refine ⟨⟨0, ⟨by omega, by decide, fun k hk => ?_, fun p hp => by omega⟩, ⟨by decide, fun k hk => ?_, fun p hp => by omega, Or.inl ⟨by decide, fun p hp => by omega⟩⟩⟩, Or.inl ⟨by decide, by decide⟩, fun d hd => ?_⟩
  · rcases (show k = 0 ∨ k = 1 ∨ k = 2 ∨ k = 3 ∨ k = 4 ∨ k = 5 ∨ k = 6 by omega) with rfl | rfl | rfl | rfl | rfl | rfl | rfl
    · exact ⟨0, by decide⟩
    · exact ⟨20, by decide⟩
    · exact ⟨4, by decide⟩
    · exact ⟨300, by decide⟩
    · exact ⟨3, by decide⟩
    · exact ⟨0, by decide⟩
    · exact ⟨0, by decide⟩
  · rcases (show k = 0 ∨ k = 1 ∨ k = 2 ∨ k = 3 ∨ k = 4 ∨ k = 5 ∨ k = 6 by omega) with rfl | rfl | rfl | rfl | rfl | rfl | rfl <;> decide
  · have z : ∀ i, (14 ≤ i ∧ i < 30 ∨ 62 ≤ i) → M00 i = fun _ => 0 := fun i hi => by
      unfold M00
      rw [if_neg (by omega), if_neg (by omega), if_neg (by omega), if_neg (by omega)]
    unfold SH
    rw [z (14 + d) (by omega), z (22 + d) (by omega), z 62 (by omega), z 63 (by omega), z 64 (by omega), z 65 (by omega)]
    exact ⟨rfl, Or.inl rfl, rfl, ⟨0, by omega, rfl, rfl⟩, fun _ _ => rfl, fun h => absurd (show (0 : Int32) = 1 from h) (by decide)⟩
theorem Rel.of {M : Mem} (h : Rel M) : ∃ c, SI (M 58) c ∧ TW M 1 (M 58) c := h.1
/-- a piece's place in the model's row -/
theorem m_get (p k : Nat) {M : Mem} {x y : Int32} {post : Int32 → Mem → Prop} (hx : x = nI p) (hy : y = nI k) (hp : p ≤ 6) (hk : k < 6) (h : post (M 58 (12 + 6 * p + k)) M) : q_X6_get M x y post := by
  subst hx hy
  have e : (12 : Int32) + 6 * nI p + nI k = nI (12 + 6 * p + k) := by
    rw [show (6 : Int32) = nI 6 from rfl, pk_mul, show (12 : Int32) = nI 12 from rfl, nI_add, nI_add]
  unfold q_X6_get
  rw [e]
  exact ⟨nI_in (by omega) (by omega), by rw [nI_clamp (by omega)]; exact h⟩
theorem m_puts (p k : Nat) {M : Mem} {x y v : Int32} {post : Mem → Prop} (hx : x = nI p) (hy : y = nI k) (hp : p ≤ 6) (hk : k < 6) (h : post (mup M 58 (12 + 6 * p + k) v)) : q_X6_puts M x y v post := by
  subst hx hy
  have e : (12 : Int32) + 6 * nI p + nI k = nI (12 + 6 * p + k) := by
    rw [show (6 : Int32) = nI 6 from rfl, pk_mul, show (12 : Int32) = nI 12 from rfl, nI_add, nI_add]
  unfold q_X6_puts
  rw [e]
  refine ⟨nI_in (by omega) (by omega), ?_⟩
  rw [nI_clamp (by omega)]
  exact fun M2 e2 => by rw [e2]; exact h
