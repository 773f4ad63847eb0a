/-! PURE: what both systems reckon; branches and tests -/
theorem bp {c A B : Prop} (hc : c) (h : A) : (c → A) ∧ (¬ c → B) := ⟨fun _ => h, fun z => absurd hc z⟩
theorem bn {c A B : Prop} (hc : ¬ c) (h : B) : (c → A) ∧ (¬ c → B) := ⟨fun z => absurd z hc, fun _ => h⟩
theorem b0 {A B : Prop} (h : A) : ((0 : Int32) = 0 → A) ∧ (¬ (0 : Int32) = 0 → B) := bp rfl h
theorem b1 {A B : Prop} (h : B) : ((1 : Int32) = 0 → A) ∧ (¬ (1 : Int32) = 0 → B) := bn (by decide) h
theorem rng_of {x : Int32} {a b : Nat} (hab : a ≤ b) (hb : b < 2 ^ 31) (h : nI a ≤ x ∧ x ≤ nI b) : ∃ n, a ≤ n ∧ n ≤ b ∧ x = nI n := by
  obtain ⟨h1, h2⟩ := h
  have h0 : ¬ x < 0 := fun z => by
    have h3 : (0 : Int32) ≤ nI a := nI_pos' (by omega)
    rw [Int32.lt_iff_toInt_lt] at z
    rw [Int32.le_iff_toInt_le] at h3 h1
    omega
  obtain ⟨n, hn, rfl⟩ := nI_of h0
  rw [nI_leI (by omega) hn] at h1
  rw [nI_leI hn hb] at h2
  exact ⟨n, h1, h2, rfl⟩
theorem nlt_le {x y : Int32} : ¬ x < y ↔ y ≤ x := by
  rw [Int32.lt_iff_toInt_lt, Int32.le_iff_toInt_le]; omega
theorem nle_lt {x y : Int32} : ¬ x ≤ y ↔ y < x := by
  rw [Int32.lt_iff_toInt_lt, Int32.le_iff_toInt_le]; omega
theorem x_within {M : Mem} {x A B : Int32} {post : Int32 → Mem → Prop} (h0 : ¬ (A ≤ x ∧ x ≤ B) → post 0 M) (h1 : A ≤ x ∧ x ≤ B → post 1 M) : q_X5_isWithin M x A B post := by
  unfold q_X5_isWithin j_X5_isWithin_14 j_X5_isWithin_15
  refine ⟨fun c => ⟨Or.inl rfl, h0 (fun z => ?_)⟩, fun c => ⟨fun c2 => ⟨Or.inl rfl, h0 (fun z => ?_)⟩, fun c2 => ⟨Or.inr rfl, h1 ⟨nlt_le.mp c, nlt_le.mp c2⟩⟩⟩⟩
  · exact absurd c (nlt_le.mpr z.1)
  · exact absurd c2 (nlt_le.mpr z.2)
theorem x_in (a b : Nat) {M : Mem} {x A B : Int32} {post : Int32 → Mem → Prop} (hA : A = nI a) (hB : B = nI b) (hab : a ≤ b) (hb : b < 2 ^ 31) (h0 : (∀ n, a ≤ n → n ≤ b → x ≠ nI n) → post 0 M) (h1 : ∀ n, a ≤ n → n ≤ b → x = nI n → post 1 M) : q_X5_isWithin M x A B post := by
  subst hA hB
  refine x_within (fun z => h0 (fun n h2 h3 e => z ?_)) (fun z => ?_)
  · rw [e, nI_leI (by omega) (by omega), nI_leI (by omega) (by omega)]; exact ⟨h2, h3⟩
  · obtain ⟨n, h2, h3, e⟩ := rng_of hab hb z
    exact h1 n h2 h3 e
theorem lg_lt (x y : Int64) : lg_cmp x y < 0 ↔ x < y := by
  unfold lg_cmp
  by_cases h1 : y < x
  · rw [if_pos h1]
    simp only [show ¬ ((1 : Int32) < 0) by decide, false_iff]
    rw [Int64.lt_iff_toInt_lt] at h1 ⊢
    omega
  · rw [if_neg h1]
    by_cases h2 : x = y
    · rw [if_pos h2, h2]
      simp only [show ¬ ((0 : Int32) < 0) by decide, false_iff]
      rw [Int64.lt_iff_toInt_lt]; omega
    · rw [if_neg h2]
      simp only [show ((-1 : Int32) < 0) by decide, true_iff]
      rw [Int64.lt_iff_toInt_lt] at h1 ⊢
      have : x.toInt ≠ y.toInt := fun e => h2 (Int64.toInt_inj.mp e)
      omega
theorem lg_gt (x y : Int64) : 0 < lg_cmp x y ↔ y < x := by
  unfold lg_cmp
  by_cases h1 : y < x
  · rw [if_pos h1]
    simp only [show ((0 : Int32) < 1) by decide, h1]
  · rw [if_neg h1]
    by_cases h2 : x = y
    · rw [if_pos h2]
      simp only [show ¬ ((0 : Int32) < 0) by decide, h1]
    · rw [if_neg h2]
      simp only [show ¬ ((0 : Int32) < -1) by decide, h1]
theorem m_within {M : Mem} {x A B : Int32} {A6 B6 : Int64} {post : Int32 → Mem → Prop} (hA : A6 = A.toInt64) (hB : B6 = B.toInt64) (h0 : ¬ (A ≤ x ∧ x ≤ B) → post 0 M) (h1 : A ≤ x ∧ x ≤ B → post 1 M) : q_X6_isIn M x.toInt64 A6 B6 post := by
  subst hA hB
  unfold q_X6_isIn j_X6_isIn_17 j_X6_isIn_18
  rw [lg_lt, lg_gt, fa_wide_lt, fa_wide_lt]
  refine ⟨fun c => ⟨Or.inl rfl, h0 (fun z => ?_)⟩, fun c => ⟨fun c2 => ⟨Or.inl rfl, h0 (fun z => ?_)⟩, fun c2 => ⟨Or.inr rfl, h1 ⟨nlt_le.mp c, nlt_le.mp c2⟩⟩⟩⟩
  · exact absurd c (nlt_le.mpr z.1)
  · exact absurd c2 (nlt_le.mpr z.2)
/-- the model's test of a range: where it holds, where it doesn't -/
theorem m_yes (a b n : Nat) {M : Mem} {x : Int32} {A6 B6 : Int64} {post : Int32 → Mem → Prop} (hx : x = nI n) (hA : A6 = (nI a).toInt64) (hB : B6 = (nI b).toInt64) (hn : a ≤ n ∧ n ≤ b) (hb : b < 2 ^ 31) (h1 : post 1 M) : q_X6_isIn M x.toInt64 A6 B6 post := by
  subst hx
  refine m_within hA hB (fun z => absurd ?_ z) (fun _ => h1)
  rw [nI_leI (by omega) (by omega), nI_leI (by omega) (by omega)]; exact hn
theorem m_no (a b : Nat) {M : Mem} {x : Int32} {A6 B6 : Int64} {post : Int32 → Mem → Prop} (hA : A6 = (nI a).toInt64) (hB : B6 = (nI b).toInt64) (hab : a ≤ b) (hb : b < 2 ^ 31) (h : ∀ n, a ≤ n → n ≤ b → x ≠ nI n) (h0 : post 0 M) : q_X6_isIn M x.toInt64 A6 B6 post := by
  refine m_within hA hB (fun _ => h0) (fun z => ?_)
  obtain ⟨n, h2, h3, e⟩ := rng_of hab hb z
  exact absurd e (h n h2 h3)
/-- a number of a piece -/
theorem pc_iff {x : Int32} {c : Nat} (hc : c < 2 ^ 31) : (0 ≤ x ∧ x ≤ nI c - 1) → ∃ p, p < c ∧ x = nI p := by
  intro ⟨h1, h2⟩
  have h0 : ¬ x < 0 := nlt_le.mpr h1
  obtain ⟨n, hn, rfl⟩ := nI_of h0
  refine ⟨n, ?_, rfl⟩
  cases c with
  | zero =>
    exfalso
    have : (nI 0 - 1) = -1 := by decide
    rw [this, Int32.le_iff_toInt_le, nI_toInt hn] at h2
    have h3 : (-1 : Int32).toInt = -1 := by decide
    omega
  | succ c =>
    rw [nI_pred, nI_leI hn (by omega)] at h2
    omega
theorem pc_le {p c : Nat} (h : p < c) (hc : c < 2 ^ 31) : (0 : Int32) ≤ nI p ∧ nI p ≤ nI c - 1 := by
  refine ⟨nI_pos' (by omega), ?_⟩
  cases c with
  | zero => omega
  | succ c => rw [nI_pred, nI_leI (by omega) (by omega)]; omega
theorem x_has {M : Mem} {t c : Nat} {x : Int32} {post : Int32 → Mem → Prop} (hc : M t 1 = nI c) (hb : c ≤ 6) (h0 : (∀ p, p < c → x ≠ nI p) → post 0 M) (h1 : ∀ p, p < c → x = nI p → post 1 M) : q_X4_has M t x post := by
  unfold q_X4_has j_X4_has_16 j_X4_has_17
  rw [hc]
  refine ⟨fun c1 => ⟨Or.inl rfl, h0 (fun p hp e => ?_)⟩, fun c1 => ⟨fun c2 => ⟨Or.inl rfl, h0 (fun p hp e => ?_)⟩, fun c2 => ?_⟩⟩
  · rw [e] at c1; exact absurd c1 (nI_pos (by omega))
  · rw [e, nI_leI (by omega) (by omega)] at c2; omega
  · obtain ⟨n, hn, rfl⟩ := nI_of c1
    rw [nI_leI (by omega) hn] at c2
    exact ⟨Or.inr rfl, h1 n (by omega) rfl⟩
theorem m_pc_yes {M : Mem} {c p : Nat} {x : Int32} {post : Int32 → Mem → Prop} (hc : M 58 0 = nI c) (hb : c ≤ 6) (hp : p < c) (hx : x = nI p) (h1 : post 1 M) : q_X6_isPiece M x post := by
  subst hx
  unfold q_X6_isPiece
  rw [hc]
  exact m_within (A := 0) rfl rfl (fun z => absurd (pc_le hp (by omega)) z) (fun _ => ⟨Or.inr rfl, h1⟩)
theorem m_pc_no {M : Mem} {c : Nat} {x : Int32} {post : Int32 → Mem → Prop} (hc : M 58 0 = nI c) (hb : c ≤ 6) (h : ∀ p, p < c → x ≠ nI p) (h0 : post 0 M) : q_X6_isPiece M x post := by
  unfold q_X6_isPiece
  rw [hc]
  refine m_within (A := 0) rfl rfl (fun _ => ⟨Or.inl rfl, h0⟩) (fun z => ?_)
  obtain ⟨p, hp, e⟩ := pc_iff (by omega) z
  exact absurd e (h p hp)
theorem x_shelf {M : Mem} {x : Int32} {post : Int32 → Mem → Prop} (h0 : (∀ d, d < 8 → x ≠ nI d) → post 0 M) (h1 : ∀ d, d < 8 → x = nI d → post 1 M) : q_X5_isShelf M x post :=
  x_in 0 7 rfl rfl (by omega) (by omega) (fun h => ⟨Or.inl rfl, h0 (fun d hd => h d (by omega) (by omega))⟩) (fun n _ hn e => ⟨Or.inr rfl, h1 n (by omega) e⟩)
theorem m_shelf_yes {M : Mem} {x : Int32} {d : Nat} {post : Int32 → Mem → Prop} (hd : d < 8) (hx : x = nI d) (h1 : post 1 M) : q_X6_isShelf M x post := m_yes 0 7 d hx rfl rfl (by omega) (by omega) ⟨Or.inr rfl, h1⟩
theorem m_shelf_no {M : Mem} {x : Int32} {post : Int32 → Mem → Prop} (h : ∀ d, d < 8 → x ≠ nI d) (h0 : post 0 M) : q_X6_isShelf M x post := m_no 0 7 rfl rfl (by omega) (by omega) (fun n _ hn => h n (by omega)) ⟨Or.inl rfl, h0⟩
theorem vin {x : Int32} {N : Nat} (n : Nat) (hx : x = nI n) (h : n < N) (hN : N < 2 ^ 31) : vp_in x N := by
  subst hx; exact nI_in h hN
theorem vin_d {d : Nat} (h : d < 8) : vp_in (nI d) 8 := nI_in h (by omega)
theorem cl {n : Nat} (h : n < 2 ^ 31) : (nI n).toNatClampNeg = n := nI_clamp h
-- the tables of kinds
def hfB (k f : Int32) : Int32 := if k = 1 then 4 else if k = 2 then 6 + f else if k = 3 then 1 else if k = 4 then 4 else if k = 5 then 5 + f else 2
def gvB (k f : Int32) : Int32 := if k = 1 then 2 else if k = 2 then 1 else if k = 3 then 40 + f else if k = 4 then 2 else if k = 5 then 2 else if k = 6 then (40 + f) / 2 else if k = 7 then (40 + f) / 2 - 5 else 4
def stB (k f : Int32) : Int32 := if k = 1 then 500 else if k = 2 then 600 else if k = 3 then 250 else if k = 4 then 500 - 20 * f else if k = 5 then 600 - 10 * f else if k = 6 then 250 - 5 * f else if k = 7 then (250 - 5 * f) / 2 else 300
def wrB (k f : Int32) : Int32 := if k = 2 then 0 else if k = 3 then 3 else if k = 4 then 3 else if k = 6 then 3 + f else if k = 7 then 2 * (3 + f) else 1
def coB (k f n : Int32) : Int32 := if k = 1 then 3 * n else if k = 2 then n + 50 else if k = 3 then 2 * n + f else if k = 4 then 2 * n else if k = 5 then (n + 50) / 2 else if k = 6 then (2 * n + f) / 3 else if k = 7 then (2 * n + f) / 3 - 1 else n
def toB (k f p w : Int32) : Int32 := if k = 5 ∨ f = 0 then -15 else if k = 4 then 100 + p else if k = 7 then 200 + w else p
theorem m_heftBy {M : Mem} {k f : Int32} {post : Int32 → Mem → Prop} (h : post (hfB k f) M) : q_X6_heftBy M k f post := by
  unfold hfB at h; unfold q_X6_heftBy j_X6_heftBy_36; grind
theorem m_giveBy {M : Mem} {k f : Int32} {post : Int32 → Mem → Prop} (h : post (gvB k f) M) : q_X6_giveBy M k f post := by
  unfold gvB at h; unfold q_X6_giveBy j_X6_giveBy_44; grind
theorem m_strengthBy {M : Mem} {k f : Int32} {post : Int32 → Mem → Prop} (h : post (stB k f) M) : q_X6_strengthBy M k f post := by
  unfold stB at h; unfold q_X6_strengthBy; grind
theorem m_wearBy {M : Mem} {k f : Int32} {post : Int32 → Mem → Prop} (h : post (wrB k f) M) : q_X6_wearBy M k f post := by
  unfold wrB at h; unfold q_X6_wearBy j_X6_wearBy_42 j_X6_wearBy_54; grind
theorem x_heftOf {M : Mem} {k f : Int32} {post : Int32 → Mem → Prop} (h : post (hfB k f) M) : q_X1_heftOf 4 M k f post := by
  have e : (6 : Int32) + f - 1 = 5 + f := by grind
  unfold hfB at h; simp only [q_X1_heftOf]; grind
theorem x_giveOf {M : Mem} {k f : Int32} {post : Int32 → Mem → Prop} (h : post (gvB k f) M) : q_X1_giveOf 4 M k f post := by
  unfold gvB at h; simp only [q_X1_giveOf]; grind
theorem x_strengthOf {M : Mem} {k f : Int32} {post : Int32 → Mem → Prop} (h : post (stB k f) M) : q_X1_strengthOf 4 M k f post := by
  unfold stB at h; simp only [q_X1_strengthOf]; grind
theorem x_wearOf {M : Mem} {k f : Int32} {post : Int32 → Mem → Prop} (h : post (wrB k f) M) : q_X1_wearOf 4 M k f post := by
  unfold wrB at h; simp only [q_X1_wearOf]; grind
theorem x_costOf {M : Mem} {k f n : Int32} {post : Int32 → Mem → Prop} (h : post (coB k f n) M) : q_X1_costOf 4 M k f n post := by
  have e : (3 : Int32) * n - n = 2 * n := by grind
  unfold coB at h; simp only [q_X1_costOf]; grind
