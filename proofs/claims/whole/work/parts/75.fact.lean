/-! PURE: what a statement's numbers are; what it does to a tow -/
def FA (k l : Nat) (f : Nat → Int32) : Prop :=
  (k = 97 ∧ l = 2 ∧ (f 0 = 1 ∨ f 0 = -1) ∧ ∃ v, v ≤ 999 ∧ f 1 = nI v) ∨
  (k = 100 ∧ l = 1 ∧ ∃ v, v ≤ 999 ∧ f 0 = nI v) ∨
  (k = 112 ∧ l = 3 ∧ ∃ a b v, a ≤ 9 ∧ b ≤ 9 ∧ v ≤ 999 ∧ f 0 = nI a ∧ f 1 = nI b ∧ f 2 = nI v) ∨
  (k = 115 ∧ l = 2 ∧ ∃ a b, a ≤ 999 ∧ b ≤ 999 ∧ f 0 = nI a ∧ f 1 = nI b) ∨
  (k = 118 ∧ l = 1 ∧ ∃ a, a ≤ 9 ∧ f 0 = nI a) ∨
  (k = 121 ∧ l = 3 ∧ ∃ a b v, a ≤ 9 ∧ b ≤ 9 ∧ v ≤ 9 ∧ f 0 = nI a ∧ f 1 = nI b ∧ f 2 = nI v)
theorem pr_ok {T : Nat → Nat} {c : Nat} {cs : List Nat} {s : Nat × Nat × (Nat → Int32)} (h : (prF T (c :: cs) s).1 = true) : (zpF T c s).1 = true ∧ prF T (c :: cs) s = prF T cs (zpF T c s).2 := by
  rw [pr_s] at h ⊢
  by_cases e : (zpF T c s).1 = true
  · rw [if_pos e]; exact ⟨e, rfl⟩
  · rw [if_neg e] at h
    exact absurd (show false = true from h) (by decide)
theorem z_D {T : Nat → Nat} {s : Nat × Nat × (Nat → Int32)} (h : (zpF T 68 s).1 = true) : ∃ q v, v ≤ 9 ∧ zpF T 68 s = (true, (q, s.2.1 + 1, upd s.2.2 s.2.1 (nI v))) := by
  rw [zp_n (c := 68) (f := 0) (Or.inl ⟨rfl, rfl⟩)] at h ⊢
  by_cases d : 48 ≤ T s.1 ∧ T s.1 ≤ 57
  · rw [if_pos d]
    exact ⟨_, T s.1 - 48, by omega, rfl⟩
  · rw [if_neg d] at h
    exact absurd (show false = true from h) (by decide)
theorem z_N {T : Nat → Nat} {s : Nat × Nat × (Nat → Int32)} (h : (zpF T 78 s).1 = true) : ∃ q v, v ≤ 999 ∧ zpF T 78 s = (true, (q, s.2.1 + 1, upd s.2.2 s.2.1 (nI v))) := by
  rw [zp_n (c := 78) (f := 2) (Or.inr ⟨rfl, rfl⟩)] at h ⊢
  by_cases d : 48 ≤ T s.1 ∧ T s.1 ≤ 57
  · rw [if_pos d]
    have hb := (nm_b T s.1 2 (T s.1 - 48) 1 (by omega) (by omega)).1
    exact ⟨_, (nmF T s.1 2 (T s.1 - 48) 1).1, by omega, rfl⟩
  · rw [if_neg d] at h
    exact absurd (show false = true from h) (by decide)
theorem z_C {T : Nat → Nat} {c : Nat} {s : Nat × Nat × (Nat → Int32)} (hc : c = 59 ∨ c = 32) (h : (zpF T c s).1 = true) : zpF T c s = (true, (s.1 + 1, s.2)) := by
  rw [zp_c hc] at h ⊢
  by_cases d : T s.1 = c
  · rw [if_pos d]
  · rw [if_neg d] at h
    exact absurd (show false = true from h) (by decide)
theorem z_S {T : Nat → Nat} {s : Nat × Nat × (Nat → Int32)} (h : (zpF T 83 s).1 = true) : ∃ x : Int32, (x = 1 ∨ x = -1) ∧ zpF T 83 s = (true, (s.1 + 1, s.2.1 + 1, upd s.2.2 s.2.1 x)) := by
  have e : zpF T 83 s = if T s.1 = 43 then (true, (s.1 + 1, s.2.1 + 1, upd s.2.2 s.2.1 1)) else if T s.1 = 45 then (true, (s.1 + 1, s.2.1 + 1, upd s.2.2 s.2.1 (-1))) else (false, s) := rfl
  rw [e] at h ⊢
  by_cases d : T s.1 = 43
  · rw [if_pos d]; exact ⟨1, Or.inl rfl, rfl⟩
  · rw [if_neg d] at h ⊢
    by_cases d2 : T s.1 = 45
    · rw [if_pos d2]; exact ⟨-1, Or.inr rfl, rfl⟩
    · rw [if_neg d2] at h
      exact absurd (show false = true from h) (by decide)
theorem sm_fa {T : Nat → Nat} {p : Nat} (h : (smF T p).1 = true) : FA (T p) (smF T p).2.2.1 (smF T p).2.2.2 := by
  have eS : ∀ cs, cs ≠ [] → shp (T p) = cs → smF T p = prF T cs (s00 (p + 1)) := fun cs hne e => by unfold smF; rw [e, if_neg hne]
  by_cases k1 : T p = 97
  · rw [eS [83, 78, 59] (by decide) (by rw [k1]; rfl)] at h ⊢
    obtain ⟨o1, e1⟩ := pr_ok h
    obtain ⟨x, hx, z1⟩ := z_S o1
    rw [e1, z1] at h ⊢
    obtain ⟨o2, e2⟩ := pr_ok h
    obtain ⟨q2, v2, b2, z2⟩ := z_N o2
    rw [e2, z2] at h ⊢
    obtain ⟨o3, e3⟩ := pr_ok h
    rw [e3, z_C (Or.inl rfl) o3]
    exact Or.inl ⟨k1, rfl, hx, v2, b2, rfl⟩
  by_cases k2 : T p = 100
  · rw [eS [78, 59] (by decide) (by rw [k2]; rfl)] at h ⊢
    obtain ⟨o2, e2⟩ := pr_ok h
    obtain ⟨q2, v2, b2, z2⟩ := z_N o2
    rw [e2, z2] at h ⊢
    obtain ⟨o3, e3⟩ := pr_ok h
    rw [e3, z_C (Or.inl rfl) o3]
    exact Or.inr (Or.inl ⟨k2, rfl, v2, b2, rfl⟩)
  by_cases k3 : T p = 112
  · rw [eS [68, 68, 78, 59] (by decide) (by rw [k3]; rfl)] at h ⊢
    obtain ⟨o1, e1⟩ := pr_ok h
    obtain ⟨q1, v1, b1, z1⟩ := z_D o1
    rw [e1, z1] at h ⊢
    obtain ⟨o2, e2⟩ := pr_ok h
    obtain ⟨q2, v2, b2, z2⟩ := z_D o2
    rw [e2, z2] at h ⊢
    obtain ⟨o4, e4⟩ := pr_ok h
    obtain ⟨q4, v4, b4, z4⟩ := z_N o4
    rw [e4, z4] at h ⊢
    obtain ⟨o3, e3⟩ := pr_ok h
    rw [e3, z_C (Or.inl rfl) o3]
    exact Or.inr (Or.inr (Or.inl ⟨k3, rfl, v1, v2, v4, b1, b2, b4, rfl, rfl, rfl⟩))
  by_cases k4 : T p = 115
  · rw [eS [78, 32, 78, 59] (by decide) (by rw [k4]; rfl)] at h ⊢
    obtain ⟨o1, e1⟩ := pr_ok h
    obtain ⟨q1, v1, b1, z1⟩ := z_N o1
    rw [e1, z1] at h ⊢
    obtain ⟨o2, e2⟩ := pr_ok h
    rw [e2, z_C (Or.inr rfl) o2] at h ⊢
    obtain ⟨o4, e4⟩ := pr_ok h
    obtain ⟨q4, v4, b4, z4⟩ := z_N o4
    rw [e4, z4] at h ⊢
    obtain ⟨o3, e3⟩ := pr_ok h
    rw [e3, z_C (Or.inl rfl) o3]
    exact Or.inr (Or.inr (Or.inr (Or.inl ⟨k4, rfl, v1, v4, b1, b4, rfl, rfl⟩)))
  by_cases k5 : T p = 118
  · rw [eS [68, 59] (by decide) (by rw [k5]; rfl)] at h ⊢
    obtain ⟨o2, e2⟩ := pr_ok h
    obtain ⟨q2, v2, b2, z2⟩ := z_D o2
    rw [e2, z2] at h ⊢
    obtain ⟨o3, e3⟩ := pr_ok h
    rw [e3, z_C (Or.inl rfl) o3]
    exact Or.inr (Or.inr (Or.inr (Or.inr (Or.inl ⟨k5, rfl, v2, b2, rfl⟩))))
  by_cases k6 : T p = 121
  · rw [eS [68, 68, 68, 59] (by decide) (by rw [k6]; rfl)] at h ⊢
    obtain ⟨o1, e1⟩ := pr_ok h
    obtain ⟨q1, v1, b1, z1⟩ := z_D o1
    rw [e1, z1] at h ⊢
    obtain ⟨o2, e2⟩ := pr_ok h
    obtain ⟨q2, v2, b2, z2⟩ := z_D o2
    rw [e2, z2] at h ⊢
    obtain ⟨o4, e4⟩ := pr_ok h
    obtain ⟨q4, v4, b4, z4⟩ := z_D o4
    rw [e4, z4] at h ⊢
    obtain ⟨o3, e3⟩ := pr_ok h
    rw [e3, z_C (Or.inl rfl) o3]
    exact Or.inr (Or.inr (Or.inr (Or.inr (Or.inr ⟨k6, rfl, v1, v2, v4, b1, b2, b4, rfl, rfl, rfl⟩))))
  · exfalso
    have en : shp (T p) = [] := by
      unfold shp
      rw [if_neg k1, if_neg k2, if_neg k3, if_neg k4, if_neg k5, if_neg k6]
    unfold smF at h
    rw [if_pos en] at h
    exact absurd (show false = true from h) (by decide)
/-- a piece more -/
def pcS (S : Nat → Int32) (c : Nat) (f : Nat → Int32) : Nat → Int32 := fun k => if k = 0 then nI (c + 1) else if 12 + 6 * c ≤ k ∧ k < 12 + 6 * c + 6 then (if k < 12 + 6 * c + 3 then f (k - (12 + 6 * c)) else 0) else S k
def obF (k : Nat) (f S : Nat → Int32) (c : Nat) : Bool × ((Nat → Int32) × Nat) :=
  if k = 100 then (decide (1 ≤ f 0), (upd S 8 (f 0), c))
  else if k = 112 then (decide (f 0 ≤ 7 ∧ (1 ≤ f 2 ∧ f 2 ≤ 99) ∧ c < 6), (pcS S c f, c + 1))
  else if k = 115 then (decide (f 0 ≤ 60 ∧ 4 ≤ f 1 ∧ f 1 ≤ 40), (upd (upd S 5 (f 0)) 6 (f 1), c))
  else if k = 118 then (true, (upd S 7 (f 0), c))
  else if k = 121 then (true, (upd (upd (upd S 9 (f 0)) 10 (f 1)) 11 (f 2), c))
  else (true, (upd S 3 (f 0 * f 1), c))
theorem pc_0 (S : Nat → Int32) (c : Nat) (f : Nat → Int32) : pcS S c f 0 = nI (c + 1) := rfl
theorem pc_o {S : Nat → Int32} {c k : Nat} {f : Nat → Int32} (h0 : k ≠ 0) (h : k < 12 + 6 * c ∨ 12 + 6 * c + 6 ≤ k) : pcS S c f k = S k := by
  unfold pcS
  rw [if_neg h0, if_neg (by omega)]
theorem pc_n {S : Nat → Int32} {c j : Nat} {f : Nat → Int32} (hj : j < 3) : pcS S c f (12 + 6 * c + j) = f j := by
  unfold pcS
  rw [if_neg (by omega), if_pos (by omega), if_pos (by omega), show 12 + 6 * c + j - (12 + 6 * c) = j by omega]
theorem pc_z {S : Nat → Int32} {c j : Nat} {f : Nat → Int32} (h3 : 3 ≤ j) (hj : j < 6) : pcS S c f (12 + 6 * c + j) = 0 := by
  unfold pcS
  rw [if_neg (by omega), if_pos (by omega), if_neg (by omega)]
theorem SI.ang {S : Nat → Int32} {c : Nat} {x : Int32} (h : SI S c) : SI (upd S 3 x) c := by
  obtain ⟨a1, a2, a3, a4⟩ := h
  have u : ∀ j, j ≠ 3 → upd S 3 x j = S j := fun j hj => by unfold upd; rw [if_neg hj]
  refine ⟨a1, by rw [u 0 (by omega)]; exact a2, fun k hk => by rw [u _ (by omega)]; exact a3 k hk, fun p hp => ?_⟩
  rw [u _ (by omega), u _ (by omega), u _ (by omega), u _ (by omega)]
  exact a4 p hp
theorem SI.more {S : Nat → Int32} {c a b v : Nat} {f : Nat → Int32} (h : SI S c) (hc : c < 6) (ha : a ≤ 7) (hb : b ≤ 9) (h1 : 1 ≤ v) (h9 : v ≤ 99) (e0 : f 0 = nI a) (e1 : f 1 = nI b) (e2 : f 2 = nI v) : SI (pcS S c f) (c + 1) := by
  obtain ⟨a1, a2, a3, a4⟩ := h
  refine ⟨by omega, rfl, fun k hk => by rw [pc_o (by omega) (by omega)]; exact a3 k hk, fun p hp => ?_⟩
  by_cases w : p = c
  · subst w
    rw [pc_n (by omega), pc_n (by omega), pc_n (by omega), pc_z (by omega) (by omega)]
    exact ⟨a, b, v, 0, ha, hb, h1, h9, by omega, e0, e1, e2, rfl⟩
  · rw [pc_o (by omega) (by omega), pc_o (by omega) (by omega), pc_o (by omega) (by omega), pc_o (by omega) (by omega)]
    exact a4 p (by omega)
theorem ob_si {k l c : Nat} {f S : Nat → Int32} (h : SI S c) (hf : FA k l f) (ho : (obF k f S c).1 = true) : SI (obF k f S c).2.1 (obF k f S c).2.2 := by
  rcases hf with ⟨rfl, rfl, -, -⟩ | ⟨rfl, rfl, v, hv, e⟩ | ⟨rfl, rfl, a, b, v, ha, hb, hv, e0, e1, e2⟩ | ⟨rfl, rfl, a, b, ha, hb, e0, e1⟩ | ⟨rfl, rfl, a, ha, e0⟩ | ⟨rfl, rfl, a, b, v, ha, hb, hv, e0, e1, e2⟩
  · exact h.ang
  · have hd := of_decide_eq_true (show decide (1 ≤ f 0) = true from ho)
    rw [e] at hd
    have h1 : 1 ≤ v := (nI_leI (a := 1) (by omega) (by omega)).mp hd
    show SI (upd S 8 (f 0)) c
    rw [e]
    exact h.set (k := 3) (by omega) h1 hv
  · have hd := of_decide_eq_true (show decide (f 0 ≤ 7 ∧ (1 ≤ f 2 ∧ f 2 ≤ 99) ∧ c < 6) = true from ho)
    rw [e0, e2] at hd
    obtain ⟨d1, ⟨d2, d3⟩, d4⟩ := hd
    exact h.more d4 ((nI_leI (b := 7) (by omega) (by omega)).mp d1) hb ((nI_leI (a := 1) (by omega) (by omega)).mp d2) ((nI_leI (b := 99) (by omega) (by omega)).mp d3) e0 e1 e2
  · have hd := of_decide_eq_true (show decide (f 0 ≤ 60 ∧ 4 ≤ f 1 ∧ f 1 ≤ 40) = true from ho)
    rw [e0, e1] at hd
    obtain ⟨d1, d2, d3⟩ := hd
    show SI (upd (upd S 5 (f 0)) 6 (f 1)) c
    rw [e0, e1]
    exact (h.set (k := 0) (by omega) (Nat.zero_le _) ((nI_leI (b := 60) (by omega) (by omega)).mp d1)).set (k := 1) (by omega) ((nI_leI (a := 4) (by omega) (by omega)).mp d2) ((nI_leI (b := 40) (by omega) (by omega)).mp d3)
  · show SI (upd S 7 (f 0)) c
    rw [e0]
    exact h.set (k := 2) (by omega) (Nat.zero_le _) ha
  · show SI (upd (upd (upd S 9 (f 0)) 10 (f 1)) 11 (f 2)) c
    rw [e0, e1, e2]
    exact ((h.set (k := 4) (by omega) (Nat.zero_le _) ha).set (k := 5) (by omega) (Nat.zero_le _) hb).set (k := 6) (by omega) (Nat.zero_le _) hv
