/-! PURE: how the class scans a statement -/
def shI (r : Nat) : List Nat := ([[68, 68, 78, 59], [78, 32, 78, 59], [68, 59], [78, 59], [68, 68, 68, 59], [83, 78, 59], []] : List (List Nat)).getD r []
def cntP : List Nat → Nat
  | [] => 0
  | c :: cs => (if c = 68 ∨ c = 78 ∨ c = 83 then 1 else 0) + cntP cs
theorem sh_len : ∀ r, r < 7 → sLn r >>> ((0 : Int32) &&& 31) = nI (shI r).length ∧ (sLn r = 0 ↔ r = 6) ∧ (shI r).length ≤ 4 ∧ cntP (shI r) ≤ 3 ∧ (r < 6 → shI r ≠ []) := by decide
theorem sh_chr : ∀ r, r < 7 → ∀ i, i < (shI r).length → ¬ (nI i < 0 ∨ sLen.getD r 0 ≤ (nI i).toNatClampNeg) ∧ ¬ nI i < 0 ∧ nI i < sLn r ∧ (((sBy r (nI i).toNatClampNeg) &&& (255 : Int32)).toUInt32 % 65536).toInt32 = nI ((shI r).getD i 0) := by decide
theorem sh_code : ∀ r, r < 7 → ∀ i, i < (shI r).length → (shI r).getD i 0 = 68 ∨ (shI r).getD i 0 = 78 ∨ (shI r).getD i 0 = 32 ∨ (shI r).getD i 0 = 59 ∨ (shI r).getD i 0 = 83 := by decide
theorem x_chr {M : Mem} {r i : Nat} {post : Int32 → Mem → Prop} (hr : r < 7) (hi : i < (shI r).length) (k : post (nI ((shI r).getD i 0)) M) : q_J0_charAt_5068e M r (nI i) post := by
  obtain ⟨a1, a2, a3, a4⟩ := sh_chr r hr i hi
  have hn : narrow .char (.int (nI ((shI r).getD i 0))) = .int (nI ((shI r).getD i 0)) := by
    rcases sh_code r hr i hi with e | e | e | e | e <;> rw [e] <;> rfl
  refine b1 (b0 ⟨Or.inr rfl, b1 (fun fv => bn a2 (bp a3 ⟨a1, ?_⟩))⟩)
  rw [a4]
  exact ⟨hn, hn, k⟩
theorem x_len {M : Mem} {r : Nat} {post : Int32 → Mem → Prop} (hr : r < 7) (k : post (nI (shI r).length) M) : q_J0_length_8abf5 M r post := by
  refine b1 ⟨rfl, ?_⟩
  dsimp only
  rw [(sh_len r hr).1]
  exact k
theorem zp_b {T : Nat → Nat} {c : Nat} {s : Nat × Nat × (Nat → Int32)} (h : (zpF T c s).1 = true) : (zpF T c s).2.2.1 = s.2.1 + (if c = 68 ∨ c = 78 ∨ c = 83 then 1 else 0) ∧ s.1 + 1 ≤ (zpF T c s).2.1 ∧ (zpF T c s).2.1 ≤ s.1 + 3 := by
  unfold zpF at h ⊢
  by_cases z1 : c = 68
  · rw [if_pos z1] at h ⊢
    by_cases d : 48 ≤ T s.1 ∧ T s.1 ≤ 57
    · rw [if_pos d, if_pos (Or.inl z1)]
      exact ⟨rfl, Nat.le_refl _, Nat.add_le_add_left (show 1 ≤ 3 by omega) _⟩
    · rw [if_neg d] at h; exact absurd (show false = true from h) (by decide)
  · rw [if_neg z1] at h ⊢
    by_cases z2 : c = 78
    · rw [if_pos z2] at h ⊢
      by_cases d : 48 ≤ T s.1 ∧ T s.1 ≤ 57
      · rw [if_pos d, if_pos (Or.inr (Or.inl z2))]
        obtain ⟨b1, b2, b3⟩ := nm_b T s.1 2 (T s.1 - 48) 1 (by omega) (by omega)
        exact ⟨rfl, Nat.add_le_add_left b2 _, Nat.add_le_add_left b3 _⟩
      · rw [if_neg d] at h; exact absurd (show false = true from h) (by decide)
    · rw [if_neg z2] at h ⊢
      by_cases z3 : c = 83
      · rw [if_pos z3] at h ⊢
        rw [if_pos (Or.inr (Or.inr z3))]
        by_cases d : T s.1 = 43
        · rw [if_pos d]
          exact ⟨rfl, Nat.le_refl _, Nat.add_le_add_left (show 1 ≤ 3 by omega) _⟩
        · rw [if_neg d] at h ⊢
          by_cases d2 : T s.1 = 45
          · rw [if_pos d2]
            exact ⟨rfl, Nat.le_refl _, Nat.add_le_add_left (show 1 ≤ 3 by omega) _⟩
          · rw [if_neg d2] at h; exact absurd (show false = true from h) (by decide)
      · rw [if_neg z3] at h ⊢
        rw [if_neg (show ¬ (c = 68 ∨ c = 78 ∨ c = 83) from fun q => q.elim z1 (fun q => q.elim z2 z3))]
        by_cases d : T s.1 = c
        · rw [if_pos d]
          exact ⟨rfl, Nat.le_refl _, Nat.add_le_add_left (show 1 ≤ 3 by omega) _⟩
        · rw [if_neg d] at h; exact absurd (show false = true from h) (by decide)
theorem pr_b {T : Nat → Nat} : ∀ (cs : List Nat) (s : Nat × Nat × (Nat → Int32)), s.1 ≤ (prF T cs s).2.1 ∧ (prF T cs s).2.1 ≤ s.1 + 3 * cs.length
  | [], s => ⟨Nat.le_refl _, Nat.le_refl _⟩
  | c :: cs, s => by
    rw [pr_s]
    by_cases h : (zpF T c s).1 = true
    · rw [if_pos h]
      obtain ⟨-, b1, b2⟩ := zp_b h
      obtain ⟨i1, i2⟩ := pr_b (T := T) cs (zpF T c s).2
      rw [List.length_cons]
      exact ⟨by omega, by omega⟩
    · rw [if_neg h, List.length_cons]
      exact ⟨Nat.le_refl _, by show s.1 ≤ _; omega⟩
theorem shp_len (k : Nat) : (shp k).length ≤ 4 := by
  unfold shp
  repeat' split
  all_goals decide
theorem sm_b {T : Nat → Nat} {p : Nat} : p ≤ (smF T p).2.1 ∧ (smF T p).2.1 ≤ p + 13 ∧ ((smF T p).1 = true → p + 1 ≤ (smF T p).2.1) := by
  unfold smF
  by_cases h : shp (T p) = []
  · rw [if_pos h]
    exact ⟨Nat.le_refl _, by show p ≤ p + 13; omega, fun q => absurd (show false = true from q) (by decide)⟩
  · rw [if_neg h]
    obtain ⟨i1, i2⟩ := pr_b (T := T) (shp (T p)) (s00 (p + 1))
    have hl := shp_len (T p)
    have e : (s00 (p + 1)).1 = p + 1 := rfl
    rw [e] at i1 i2
    exact ⟨by omega, by omega, fun _ => i1⟩
theorem x_prt {M0 : Mem} {a n r : Nat} {E : Nat → Int32} {post : Int32 → Mem → Prop} (t : TC M0 a n E) (hr : r < 7) : ∀ (cs : List Nat) (i : Nat) (s : Nat × Nat × (Nat → Int32)) (M : Mem), RC M0 M s → (∀ j, j < cs.length → (shI r).getD (i + j) 0 = cs.getD j 0) → i + cs.length = (shI r).length → s.2.1 + cntP cs ≤ 3 → s.1 + 3 * cs.length ≤ 1000 → GO (TX E n) (fun p => ∀ M1 : Mem, (∀ j, j ≠ 5 → j ≠ 7 → M1 j = M0 j) → M1 5 0 = nI p → post 0 M1) (fun s' => ∀ M1, RC M0 M1 s' → post 1 M1) cs s → lp_X2_scanStatement_38 post (cs.length + 1) M a r (nI i)
  | [], i, s, M, h, hc, hi, hl, hb, g => by
    unfold lp_X2_scanStatement_38 b_X2_scanStatement_38
    have hi2 : i = (shI r).length := hi
    have h4 := (sh_len r hr).2.2.1
    refine x_len hr (bp ?_ (g.2 rfl M h))
    rw [← hi2]
    exact Int32.le_refl _
  | c :: cs, i, s, M, h, hc, hi, hl, hb, g => by
    have h4 := (sh_len r hr).2.2.1
    rw [List.length_cons] at hi hb
    have hc0 : (shI r).getD i 0 = c := hc 0 (by rw [List.length_cons]; omega)
    have hlt : i < (shI r).length := by omega
    obtain ⟨g1, g2⟩ := g.step
    unfold cntP at hl
    unfold lp_X2_scanStatement_38 b_X2_scanStatement_38
    refine x_len hr (bn (nI_ge hlt (by omega)) (x_chr hr hlt ?_))
    have h128 : c < 128 := by
      rcases sh_code r hr i hlt with e | e | e | e | e <;> omega
    rw [hc0]
    refine x_part t h h128 (fun q => ?_) (by omega) (fun e => b0 (g1 e M h.1 h.2.1)) (fun e M1 r1 => b1 ?_)
    · rw [if_pos q] at hl
      omega
    · rw [nI_1]
      obtain ⟨b1, b2, b3⟩ := zp_b e
      refine x_prt t hr cs (i + 1) _ M1 r1 (fun j hj => ?_) (by omega) (by rw [b1]; omega) (by omega) (g2 e)
      have := hc (j + 1) (by rw [List.length_cons]; omega)
      rw [show i + (j + 1) = i + 1 + j by omega] at this
      exact this
theorem x_shape {M : Mem} {r9 : Int32} {k : Nat} {post : Nat → Mem → Prop} (hr : RV r9 k) (h0 : shp k = [] → post 6 M) (h1 : ∀ r, r < 6 → shI r = shp k → post r M) : q_X2_shapeBehind M r9 post := by
  have e1 := hr 97 (by omega)
  have e2 := hr 100 (by omega)
  have e3 := hr 112 (by omega)
  have e4 := hr 115 (by omega)
  have e5 := hr 118 (by omega)
  have e6 := hr 121 (by omega)
  refine ⟨fun z => h1 5 (by omega) ?_, fun z => ⟨fun z2 => h1 3 (by omega) ?_, fun z2 => ⟨fun z3 => h1 0 (by omega) ?_, fun z3 => ⟨fun z4 => h1 1 (by omega) ?_, fun z4 => ⟨fun z5 => h1 2 (by omega) ?_, fun z5 => ⟨fun z6 => h1 4 (by omega) ?_, fun z6 => h0 ?_⟩⟩⟩⟩⟩⟩
  · rw [e1.mp z]; rfl
  · rw [e2.mp z2]; rfl
  · rw [e3.mp z3]; rfl
  · rw [e4.mp z4]; rfl
  · rw [e5.mp z5]; rfl
  · rw [e6.mp z6]; rfl
  · unfold shp
    rw [if_neg (fun q => z (e1.mpr q)), if_neg (fun q => z2 (e2.mpr q)), if_neg (fun q => z3 (e3.mpr q)), if_neg (fun q => z4 (e4.mpr q)), if_neg (fun q => z5 (e5.mpr q)), if_neg (fun q => z6 (e6.mpr q))]
theorem x_statement {M0 M : Mem} {a n p : Nat} {E : Nat → Int32} {post : Int32 → Mem → Prop} (t : TC M0 a n E) (hM : ∀ j, j ≠ 5 → j ≠ 7 → M j = M0 j) (hp : M 5 0 = nI p) (hb : p ≤ 200) (h0 : (smF (TX E n) p).1 = false → ∀ M1 : Mem, (∀ j, j ≠ 5 → j ≠ 7 → M1 j = M0 j) → M1 5 0 = nI (smF (TX E n) p).2.1 → post 0 M1) (h1 : (smF (TX E n) p).1 = true → ∀ M1, RC M0 M1 (smF (TX E n) p).2 → post 1 M1) : q_X2_scanStatement M a post := by
  have tM := t.rc hM
  unfold q_X2_scanStatement
  rw [hp]
  refine x_byteAt tM (by omega) (fun r9 hr9 => x_shape hr9 (fun e => ?_) (fun r hr e => ?_))
  · have eS : smF (TX E n) p = (false, s00 p) := by unfold smF; rw [if_pos e]
    rw [eS] at h0
    exact bp (by decide) ⟨Or.inr rfl, b1 (h0 rfl M hM hp)⟩
  · obtain ⟨-, l2, l3, l4, l5⟩ := sh_len r (by omega)
    refine bn (fun q => by have := l2.mp q; omega) ⟨Or.inl rfl, b0 (fun M16 e16 M17 e17 => ⟨(shI r).length + 1, ?_⟩)⟩
    have hne : ¬ shp (TX E n p) = [] := by rw [← e]; exact l5 hr
    have eS : smF (TX E n) p = prF (TX E n) (shI r) (s00 (p + 1)) := by unfold smF; rw [if_neg hne, e]
    rw [eS] at h0 h1
    refine x_prt t (by omega) (shI r) 0 (s00 (p + 1)) M17 ⟨fun j h5 h7 => ?_, ?_, ?_, fun j hj => ?_⟩ (fun j hj => by rw [Nat.zero_add]) (by omega) ?_ ?_ ⟨h0, h1⟩
    · rw [e17, mup_ne _ _ _ h5, e16, mup_ne _ _ _ h5, hM j h5 h7]
    · rw [e17, mup_eq, if_neg (by omega), e16, mup_eq, if_pos ⟨rfl, rfl⟩, hp, nI_1]; rfl
    · rw [e17, mup_eq, if_pos ⟨rfl, rfl⟩]; rfl
    · exact absurd hj (Nat.not_lt_zero _)
    · show 0 + cntP (shI r) ≤ 3
      omega
    · show p + 1 + 3 * (shI r).length ≤ 1000
      omega
