/-! PURE: how the model scans a statement -/
def TM (M : Mem) (d n : Nat) (E : Nat → Int32) : Prop := M 57 13 = nI (100 * d) ∧ M 57 14 = nI n ∧ n ≤ 100 ∧ d < 8 ∧ ∀ i, i < n → M 65 (100 * d + i) = E i
def RM (M0 M : Mem) (p k : Nat) : Prop := (∀ i, i ≠ 57 → i ≠ 68 → M i = M0 i) ∧ (∀ j, j ≠ 12 → j ≠ 15 → j ≠ 16 → M 57 j = M0 57 j) ∧ M 57 12 = nI p ∧ M 57 15 = nI k
theorem RM.mv {M0 M M1 : Mem} {p k : Nat} (h : RM M0 M p k) (e : M1 = mup M 57 12 (M 57 12 + 1)) : RM M0 M1 (p + 1) k ∧ M1 68 = M 68 ∧ M1 57 16 = M 57 16 := by
  refine ⟨⟨fun i h57 h68 => by rw [e, mup_ne _ _ _ h57, h.1 i h57 h68], fun j a b c => by rw [e, mup_eq, if_neg (by omega), h.2.1 j a b c], ?_, ?_⟩, ?_, ?_⟩
  · rw [e, mup_eq, if_pos ⟨rfl, rfl⟩, h.2.2.1, nI_1]
  · rw [e, mup_eq, if_neg (by omega)]; exact h.2.2.2
  · rw [e, mup_ne _ _ _ (by omega)]
  · rw [e, mup_eq, if_neg (by omega)]
section MSC
variable {M0 M : Mem} {d n p l : Nat} {E : Nat → Int32} {post : Int32 → Mem → Prop}
theorem m_here (t : TM M0 d n E) (h : RM M0 M p l) (hp : p ≤ 1000) (kk : ∀ r, RV r (TX E n p) → post r M) : q_X6_here M post := by
  obtain ⟨t1, t2, t3, t4, t5⟩ := t
  obtain ⟨r1, r2, r3, r4⟩ := h
  unfold q_X6_here j_X6_here_31
  rw [r2 14 (by omega) (by omega) (by omega), r2 13 (by omega) (by omega) (by omega), t1, t2, r3, nI_add]
  refine ⟨fun z => kk _ (TX_out (fun q => ?_) no1000), fun z => ?_⟩
  · rw [nI_leI (by omega) (by omega)] at z
    omega
  · have hlt : p < n := by
      apply Nat.not_le.mp
      intro q
      exact z (nI_le q (by omega))
    rw [cl (by omega), r1 65 (by omega) (by omega), t5 p hlt]
    exact ⟨nI_in (by omega) (by omega), kk _ (TX_in hlt)⟩
theorem m_isDigit (t : TM M0 d n E) (h : RM M0 M p l) (hp : p ≤ 1000) (h0 : ¬ dg (TX E n p) → post 0 M) (h1 : dg (TX E n p) → post 1 M) : q_X6_isDigit M post := by
  refine m_here t h hp (fun r hr => m_in 48 57 rfl rfl (by omega) (by omega) (fun hno => ⟨Or.inl rfl, h0 (fun q => hno _ q.1 q.2 ((hr _ (by have := q.2; omega)).mpr rfl))⟩) (fun v a b e => ⟨Or.inr rfl, ?_⟩))
  have : TX E n p = v := (hr v (by omega)).mp e
  exact h1 (by rw [this]; exact ⟨a, b⟩)
theorem m_takes {c : Nat} {x : Int32} (t : TM M0 d n E) (h : RM M0 M p l) (hp : p ≤ 1000) (hc : c < 128) (hx : x = nI c) (h0 : ¬ TX E n p = c → post 0 M) (h1 : TX E n p = c → ∀ M1, RM M0 M1 (p + 1) l → M1 68 = M 68 → M1 57 16 = M 57 16 → post 1 M1) : q_X6_takes M x post := by
  subst hx
  refine m_here t h hp (fun r hr => ⟨fun z M4 e4 => ?_, fun z => h0 (fun q => z ((hr c hc).mpr q))⟩)
  obtain ⟨a, b, e⟩ := h.mv e4
  exact h1 ((hr c hc).mp z) M4 a b e
end MSC
theorem m_numL {M0 : Mem} {d n p l most : Nat} {E : Nat → Int32} {post : Int32 → Mem → Prop} (t : TM M0 d n E) (hpb : p ≤ 900) (hm : most ≤ 3) : ∀ (f v k : Nat) (M : Mem), v < 10 ^ k → k + f = most → RM M0 M (p + k) l → (∀ M1, RM M0 M1 (p + (nmF (TX E n) p f v k).2) l → M1 68 = M 68 → M1 57 16 = M 57 16 → j_X6_readsNumber_74 post M1 (nI (nmF (TX E n) p f v k).1)) → lp_X6_readsNumber_29 post (f + 1) M (nI most) (nI v) (nI k)
  | 0, v, k, M, hv, hk, h, hj => by
    unfold lp_X6_readsNumber_29 b_X6_readsNumber_29
    exact bp (nI_le (by omega) (by omega)) (hj M h rfl rfl)
  | f + 1, v, k, M, hv, hk, h, hj => by
    have hv3 := p10 hv (by omega)
    rw [nm_s] at hj
    unfold lp_X6_readsNumber_29 b_X6_readsNumber_29
    refine bn (nI_ge (by omega) (by omega)) ⟨fun z => ?_, fun z => m_isDigit t h (by omega) (fun hd => b0 ?_) (fun hd => b1 (m_here t h (by omega) (fun r hr v11 e11 M12 e12 => ?_)))⟩
    · have : v = 0 := by
        rcases Nat.eq_zero_or_pos v with q | q
        · exact q
        · exact absurd z (nI_nle q (by omega))
      rw [if_neg (fun q => q.1 this)] at hj
      exact hj M h rfl rfl
    · rw [if_neg (fun q => hd q.2)] at hj
      exact hj M h rfl rfl
    · have hvne : v ≠ 0 := fun q => z (by rw [q]; exact Int32.le_refl _)
      rw [if_pos ⟨hvne, hd⟩] at hj
      have hd1 := hd.1
      have hd2 := hd.2
      have er2 := (hr (TX E n (p + k)) (by omega)).mpr rfl
      have e : v11 = nI (10 * v + (TX E n (p + k) - 48)) := by
        rw [e11, er2, show (10 : Int32) * nI v = nI (10 * v) from pk_mul 10 v, nI_add, show (48 : Int32) = nI 48 from rfl, nsub (by omega)]
        congr 1
        omega
      subst e
      obtain ⟨r12, a, b⟩ := h.mv e12
      rw [nI_1]
      exact m_numL t hpb hm f _ (k + 1) M12 (p10s hv (by omega)) (by omega) r12 (fun M1 r1 q1 q2 => hj M1 r1 (q1.trans a) (q2.trans b))
theorem m_number {M0 M : Mem} {d n p l f : Nat} {E : Nat → Int32} {y : Int32} {post : Int32 → Mem → Prop} (t : TM M0 d n E) (h : RM M0 M p l) (hl : l < 3) (hf : f ≤ 2) (hy : y = nI (f + 1)) (hb : p ≤ 900) (h0 : ¬ dg (TX E n p) → post 0 M) (h1 : dg (TX E n p) → ∀ M1, RM M0 M1 (p + (nmF (TX E n) p f (TX E n p - 48) 1).2) (l + 1) → (∀ j, M1 68 j = upd (M 68) l (nI (nmF (TX E n) p f (TX E n p - 48) 1).1) j) → M1 57 16 = M 57 16 → post 1 M1) : q_X6_readsNumber M y post := by
  subst hy
  refine m_isDigit t h (by omega) (fun hd => b0 (h0 hd)) (fun hd => b1 (m_here t h (by omega) (fun r hr M18 e18 => ⟨f + 1, ?_⟩)))
  obtain ⟨r18, q68, q16⟩ := h.mv e18
  have hd1 := hd.1
  have hd2 := hd.2
  have er := (hr (TX E n p) (by omega)).mpr rfl
  have e : r - 48 = nI (TX E n p - 48) := by rw [er, show (48 : Int32) = nI 48 from rfl, nsub (by omega)]
  rw [e]
  refine m_numL t hb (by omega) f _ 1 M18 (by omega) (by omega) r18 (fun M1 r1 a b => ?_)
  unfold j_X6_readsNumber_74
  rw [r1.2.2.2]
  refine ⟨nI_in hl (by omega), fun M2 e2 M3 e3 => ?_⟩
  rw [cl (by omega)] at e2
  have q2 : M2 57 = M1 57 := by rw [e2, mup_ne _ _ _ (by omega)]
  rw [q2, r1.2.2.2, nI_1] at e3
  refine h1 hd M3 ⟨fun i i57 i68 => ?_, fun j a b c => ?_, ?_, ?_⟩ (fun j => ?_) ?_
  · rw [e3, mup_ne _ _ _ i57, e2, mup_ne _ _ _ i68, r1.1 i i57 i68]
  · rw [e3, mup_eq, if_neg (by omega), q2, r1.2.1 j a b c]
  · rw [e3, mup_eq, if_neg (by omega), q2]; exact r1.2.2.1
  · rw [e3, mup_eq, if_pos ⟨rfl, rfl⟩]
  · rw [e3, mup_ne _ _ _ (by omega), e2, mup_at, a, q68]
  · rw [e3, mup_eq, if_neg (by omega), q2, b, q16]
def MR (M0 M : Mem) (s : Nat × Nat × (Nat → Int32)) : Prop := RM M0 M s.1 s.2.1 ∧ ∀ j, j < s.2.1 → M 68 j = s.2.2 j
theorem zp_n {T : Nat → Nat} {c f : Nat} {s : Nat × Nat × (Nat → Int32)} (hc : (c = 68 ∧ f = 0) ∨ (c = 78 ∧ f = 2)) : zpF T c s = if 48 ≤ T s.1 ∧ T s.1 ≤ 57 then (true, nuF T f s) else (false, s) := by
  unfold zpF
  rcases hc with ⟨rfl, rfl⟩ | ⟨rfl, rfl⟩
  · rw [if_pos rfl]
  · rw [if_neg (by decide), if_pos rfl]
theorem zp_c {T : Nat → Nat} {c : Nat} {s : Nat × Nat × (Nat → Int32)} (hc : c = 59 ∨ c = 32) : zpF T c s = if T s.1 = c then (true, (s.1 + 1, s.2)) else (false, s) := by
  unfold zpF
  rw [if_neg (by omega), if_neg (by omega), if_neg (by omega)]
section MST
variable {M0 M : Mem} {d n c f : Nat} {E : Nat → Int32} {s : Nat × Nat × (Nat → Int32)} {post : Int32 → Mem → Prop} {y : Int32}
theorem m_pN (t : TM M0 d n E) (h : MR M0 M s) (hl : s.2.1 < 3) (hc : (c = 68 ∧ f = 0) ∨ (c = 78 ∧ f = 2)) (hy : y = nI (f + 1)) (hb : s.1 ≤ 900) (h0 : (zpF (TX E n) c s).1 = false → post 0 M) (h1 : (zpF (TX E n) c s).1 = true → ∀ M1, MR M0 M1 (zpF (TX E n) c s).2 → post 1 M1) : q_X6_readsNumber M y post := by
  rw [zp_n hc] at h0 h1
  refine m_number t h.1 hl (by omega) hy hb (fun hd => ?_) (fun hd M1 r1 q68 q16 => ?_)
  · rw [if_neg hd] at h0; exact h0 rfl
  · rw [if_pos hd] at h1
    refine h1 rfl M1 ⟨r1, fun j hj => ?_⟩
    have hj2 : j < s.2.1 + 1 := hj
    show M1 68 j = upd s.2.2 s.2.1 _ j
    rw [q68]
    unfold upd
    by_cases w : j = s.2.1
    · rw [if_pos w, if_pos w]
    · rw [if_neg w, if_neg w]; exact h.2 j (by omega)
theorem m_pC (t : TM M0 d n E) (h : MR M0 M s) (hc : c = 59 ∨ c = 32) (hy : y = nI c) (hb : s.1 ≤ 900) (h0 : (zpF (TX E n) c s).1 = false → post 0 M) (h1 : (zpF (TX E n) c s).1 = true → ∀ M1, MR M0 M1 (zpF (TX E n) c s).2 → post 1 M1) : q_X6_takes M y post := by
  rw [zp_c hc] at h0 h1
  refine m_takes t h.1 (by omega) (by omega) hy (fun hd => ?_) (fun hd M1 r1 q68 q16 => ?_)
  · rw [if_neg hd] at h0; exact h0 rfl
  · rw [if_pos hd] at h1
    exact h1 rfl M1 ⟨r1, fun j hj => by rw [q68]; exact h.2 j hj⟩
theorem f263 (h : post 0 M) : j_X6_readsStatement_263 post M 0 := b0 (And.intro (Or.inl rfl) h)
theorem m_end (t : TM M0 d n E) (h : MR M0 M s) (hb : s.1 ≤ 900) (g : GO (TX E n) (fun p => ∀ M1 k1, RM M0 M1 p k1 → post 0 M1) (fun s' => ∀ M1, MR M0 M1 s' → post 1 M1) [59] s) : j_X6_readsStatement_263 post M 1 := by
  obtain ⟨g1, g2⟩ := g.step
  exact b1 (m_pC t h (Or.inl rfl) rfl hb (fun e => b0 (And.intro (Or.inl rfl) (g1 e M _ h.1))) (fun e M1 h1 => b1 (And.intro (Or.inr rfl) ((g2 e).2 rfl M1 h1))))
def NMa (M0 M : Mem) (s : Nat × Nat × (Nat → Int32)) : Prop := RM M0 M s.1 1 ∧ M 68 0 = s.2.2 1 ∧ ((M 57 16 = 1 ∧ s.2.2 0 = -1) ∨ (M 57 16 = 0 ∧ s.2.2 0 = 1))
theorem m_aN (t : TM M0 d n E) (h : RM M0 M s.1 0) (hs : s.2.1 = 1) (hf : (M 57 16 = 1 ∧ s.2.2 0 = -1) ∨ (M 57 16 = 0 ∧ s.2.2 0 = 1)) (hb : s.1 ≤ 800) (g : GO (TX E n) (fun p => ∀ M1 k1, RM M0 M1 p k1 → post 0 M1) (fun s' => ∀ M1, NMa M0 M1 s' → post 1 M1) [78, 59] s) : j_X6_readsStatement_234 post M := by
  obtain ⟨g1, g2⟩ := g.step
  have ez := zp_n (T := TX E n) (s := s) (c := 78) (f := 2) (Or.inr ⟨rfl, rfl⟩)
  refine m_number (f := 2) t h (by omega) (by omega) rfl (by omega) (fun hd => b0 (f263 ?_)) (fun hd M1 r1 q68 q16 => b1 ?_)
  · rw [if_neg hd] at ez
    exact g1 (by rw [ez]) M _ h
  · rw [if_pos hd] at ez
    have ok : (zpF (TX E n) 78 s).1 = true := by rw [ez]
    have hb2 := (zp_b ok).2.2
    have g3 := g2 ok
    rw [ez] at g3 hb2
    obtain ⟨g4, g5⟩ := g3.step
    have ez2 := zp_c (T := TX E n) (s := nuF (TX E n) 2 s) (c := 59) (Or.inl rfl)
    refine b1 (m_takes (c := 59) t r1 ?_ (by omega) rfl (fun hd2 => b0 (And.intro (Or.inl rfl) ?_)) (fun hd2 M2 r2 p68 p16 => b1 (And.intro (Or.inr rfl) ?_)))
    · have : s.1 + (nmF (TX E n) s.1 2 (TX E n s.1 - 48) 1).2 ≤ s.1 + 3 := hb2
      omega
    · have hd3 : ¬ TX E n (nuF (TX E n) 2 s).1 = 59 := hd2
      rw [if_neg hd3] at ez2
      exact g4 (by rw [ez2]) M1 _ r1
    · have hd3 : TX E n (nuF (TX E n) 2 s).1 = 59 := hd2
      rw [if_pos hd3] at ez2
      have g6 := (g5 (by rw [ez2])).2 rfl
      rw [ez2] at g6
      have u0 : upd s.2.2 s.2.1 (nI (nmF (TX E n) s.1 2 (TX E n s.1 - 48) 1).1) 0 = s.2.2 0 := by unfold upd; rw [if_neg (by omega)]
      have u1 : upd s.2.2 s.2.1 (nI (nmF (TX E n) s.1 2 (TX E n s.1 - 48) 1).1) 1 = nI (nmF (TX E n) s.1 2 (TX E n s.1 - 48) 1).1 := by unfold upd; rw [if_pos hs.symm]
      refine g6 M2 ⟨r2, ?_, ?_⟩
      · show M2 68 0 = upd s.2.2 s.2.1 _ 1
        rw [p68, q68, u1]
        unfold upd
        rw [if_pos rfl]
      · show (_ ∧ upd s.2.2 s.2.1 _ 0 = -1) ∨ (_ ∧ upd s.2.2 s.2.1 _ 0 = 1)
        rw [p16, q16, u0]
        exact hf
end MST
