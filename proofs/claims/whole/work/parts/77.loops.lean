/-! PURE: a text read whole: by the class in one pass, by the model in two -/
def okF (T : Nat → Nat) (n : Nat) : Nat → Nat → Bool × Nat
  | 0, p => (true, p)
  | f + 1, p => if (smF T p).1 = false then (false, (smF T p).2.1) else if (smF T p).2.1 < n then okF T n f (smF T p).2.1 else (true, (smF T p).2.1)
def cnF (T : Nat → Nat) (n : Nat) : Nat → Nat → Nat
  | 0, _ => 0
  | f + 1, p => 1 + (if (smF T p).2.1 < n then cnF T n f (smF T p).2.1 else 0)
def rnF (T : Nat → Nat) (n : Nat) : Nat → Nat → (Nat → Int32) → Nat → (Bool × Nat) × ((Nat → Int32) × Nat)
  | 0, p, S, c => ((true, p), (S, c))
  | f + 1, p, S, c => if (obF (T p) (smF T p).2.2.2 S c).1 = false then ((false, p), (S, c)) else if (smF T p).2.1 < n then rnF T n f (smF T p).2.1 (obF (T p) (smF T p).2.2.2 S c).2.1 (obF (T p) (smF T p).2.2.2 S c).2.2 else ((true, (smF T p).2.1), (obF (T p) (smF T p).2.2.2 S c).2)
theorem ok_s1 (T : Nat → Nat) (n f p : Nat) : okF T n (f + 1) p = if (smF T p).1 = false then (false, (smF T p).2.1) else if (smF T p).2.1 < n then okF T n f (smF T p).2.1 else (true, (smF T p).2.1) := rfl
theorem cn_s (T : Nat → Nat) (n f p : Nat) : cnF T n (f + 1) p = 1 + (if (smF T p).2.1 < n then cnF T n f (smF T p).2.1 else 0) := rfl
theorem rn_s (T : Nat → Nat) (n f p : Nat) (S : Nat → Int32) (c : Nat) : rnF T n (f + 1) p S c = if (obF (T p) (smF T p).2.2.2 S c).1 = false then ((false, p), (S, c)) else if (smF T p).2.1 < n then rnF T n f (smF T p).2.1 (obF (T p) (smF T p).2.2.2 S c).2.1 (obF (T p) (smF T p).2.2.2 S c).2.2 else ((true, (smF T p).2.1), (obF (T p) (smF T p).2.2.2 S c).2) := rfl
theorem tr_nf {b : Bool} (h : b = true) : ¬ b = false := by rw [h]; decide
theorem ok_b {T : Nat → Nat} {n : Nat} (hn : n ≤ 100) : ∀ f p, p ≤ 100 → (okF T n f p).2 ≤ 200
  | 0, p, h => by show p ≤ 200; omega
  | f + 1, p, h => by
    rw [ok_s1]
    have hb := (sm_b (T := T) (p := p)).2.1
    by_cases e : (smF T p).1 = false
    · rw [if_pos e]; show (smF T p).2.1 ≤ 200; omega
    · rw [if_neg e]
      by_cases w : (smF T p).2.1 < n
      · rw [if_pos w]; exact ok_b hn f _ (by omega)
      · rw [if_neg w]; show (smF T p).2.1 ≤ 200; omega
theorem cn_b {T : Nat → Nat} {n : Nat} : ∀ f p, cnF T n f p ≤ f
  | 0, p => Nat.le_refl _
  | f + 1, p => by
    rw [cn_s]
    have := cn_b (T := T) (n := n) f (smF T p).2.1
    split <;> omega
theorem rn_b {T : Nat → Nat} {n : Nat} (hn : n ≤ 100) : ∀ f p S c, p ≤ 100 → (rnF T n f p S c).1.2 ≤ 200
  | 0, p, S, c, h => by show p ≤ 200; omega
  | f + 1, p, S, c, h => by
    rw [rn_s]
    have hb := (sm_b (T := T) (p := p)).2.1
    by_cases e : (obF (T p) (smF T p).2.2.2 S c).1 = false
    · rw [if_pos e]; show p ≤ 200; omega
    · rw [if_neg e]
      by_cases w : (smF T p).2.1 < n
      · rw [if_pos w]; exact rn_b hn f _ _ _ (by omega)
      · rw [if_neg w]; show (smF T p).2.1 ≤ 200; omega
theorem bool_t {b : Bool} (h : ¬ b = false) : b = true := by
  cases b
  · exact absurd rfl h
  · rfl
/-- what reading leaves -/
def FR (M0 M : Mem) : Prop := ∀ j, j ≠ 3 → j ≠ 5 → j ≠ 7 → j ≠ 13 → (j < 50 ∨ 56 ≤ j) → M j = M0 j
theorem TC.fr {M0 M : Mem} {a n : Nat} {E : Nat → Int32} (t : TC M0 a n E) (ha : 14 ≤ a ∧ a < 22) (h : FR M0 M) : TC M a n E := by
  obtain ⟨h2, hs, hn, hE, h7⟩ := t
  unfold TC
  rw [h a (by omega) (by omega) (by omega) (by omega) (by omega), h (8 + a) (by omega) (by omega) (by omega) (by omega) (by omega)]
  exact ⟨h2, hs, hn, hE, h7⟩
theorem x_exit {M : Mem} {a n p i f : Nat} {u x : Int32} {post : Int32 → Mem → Prop} (hs : M a 3 = nI n) (hp : M 5 0 = nI p) (hpn : n ≤ p) (hp1 : p ≤ 1000) (hi : 1 ≤ i) (hi2 : i ≤ 1000) (h : j_X2_read_92 post M u x) : lp_X2_read_14 post (f + 1) M a 3 u x (nI i) := by
  unfold lp_X2_read_14 b_X2_read_14
  rw [hs, hp]
  exact ⟨fun _ => h, fun _ => ⟨fun q => absurd q (nI_ne0 hi (by omega)), fun _ => bp (nI_le hpn (by omega)) h⟩⟩
theorem x_readB {M0 : Mem} {a n u : Nat} {E : Nat → Int32} {post : Int32 → Mem → Prop} (t : TC M0 a n E) (ha : 14 ≤ a ∧ a < 22) (hu : u ≤ 1000) : ∀ (f p cnt i : Nat) (M : Mem), FR M0 M → M 5 0 = nI p → p < n → n < p + f → 1 ≤ i → i ≤ p → ((okF (TX E n) n f p).1 = false → ∀ M1, FR M0 M1 → post (-1000 - nI (okF (TX E n) n f p).2) M1) → ((okF (TX E n) n f p).1 = true → ∀ M1, FR M0 M1 → post (-2000 - nI u) M1) → lp_X2_read_14 post (f + 1) M a 3 (nI u) (nI cnt) (nI i)
  | 0, p, cnt, i, M, hF, hp, hpn, hf, hi, hip, h0, h1 => by omega
  | f + 1, p, cnt, i, M, hF, hp, hpn, hf, hi, hip, h0, h1 => by
    have tM := t.fr ha hF
    have hn := t.2.2.1
    have hne : ¬ nI u = (-4 : Int32) := fun q => by
      have h9 := nI_pos' (n := u) (by omega)
      rw [q] at h9
      exact absurd h9 (by decide)
    have hb := (sm_b (T := TX E n) (p := p))
    unfold lp_X2_read_14 b_X2_read_14 j_X2_read_37 j_X2_read_83
    rw [tM.2.1, hp]
    refine bn (nI_nlt (a := 100) (by omega) (by omega)) ⟨fun q => absurd q (nI_ne0 hi (by omega)), fun _ => bn (nI_ge hpn (by omega)) (x_statement tM (fun _ _ _ => rfl) hp (by omega) (fun e M1 f1 q1 => b0 ?_) (fun e M1 r1 => b1 (bn hne ?_)))⟩
    · rw [ok_s1, if_pos e] at h0
      rw [q1]
      exact h0 rfl M1 (fun j a1 a2 a3 a4 a5 => by rw [f1 j a2 a3, hF j a1 a2 a3 a4 a5])
    · have F1 : FR M0 M1 := fun j a1 a2 a3 a4 a5 => by rw [r1.1 j a2 a3, hF j a1 a2 a3 a4 a5]
      have t1 := t.fr ha F1
      have hb3 := hb.2.2 e
      rw [ok_s1, if_neg (tr_nf e)] at h0 h1
      rw [nI_1, nI_1]
      by_cases w : (smF (TX E n) p).2.1 < n
      · rw [if_pos w] at h0 h1
        exact x_readB t ha hu f _ (cnt + 1) (i + 1) M1 F1 r1.2.1 w (by omega) (by omega) (by omega) h0 h1
      · rw [if_neg w] at h1
        exact x_exit t1.2.1 r1.2.1 (by omega) (by omega) (by omega) (by omega) (bn hne (h1 rfl M1 F1))
theorem x_readA {M0 : Mem} {a n : Nat} {E : Nat → Int32} {post : Int32 → Mem → Prop} (t : TC M0 a n E) (ha : 14 ≤ a ∧ a < 22) : ∀ (f p cnt i : Nat) (M : Mem) (S : Nat → Int32) (c : Nat), FR M0 M → M 5 0 = nI p → p ≤ n → (i = 0 ∨ p < n) → n < p + f → i ≤ p → SI S c → TW M 3 S c → ((okF (TX E n) n f p).1 = false → ∀ M1, FR M0 M1 → post (-1000 - nI (okF (TX E n) n f p).2) M1) → ((okF (TX E n) n f p).1 = true → (rnF (TX E n) n f p S c).1.1 = false → ∀ M1, FR M0 M1 → post (-2000 - nI (rnF (TX E n) n f p S c).1.2) M1) → ((okF (TX E n) n f p).1 = true → (rnF (TX E n) n f p S c).1.1 = true → ∀ M1, FR M0 M1 → TW M1 3 (rnF (TX E n) n f p S c).2.1 (rnF (TX E n) n f p S c).2.2 → SI (rnF (TX E n) n f p S c).2.1 (rnF (TX E n) n f p S c).2.2 → post (nI (cnt + cnF (TX E n) n f p)) M1) → lp_X2_read_14 post (f + 1) M a 3 (-4) (nI cnt) (nI i)
  | 0, p, cnt, i, M, S, c, hF, hp, hpn, hin, hf, hip, hS, hT, h0, h1, h2 => by omega
  | f + 1, p, cnt, i, M, S, c, hF, hp, hpn, hin, hf, hip, hS, hT, h0, h1, h2 => by
    have tM := t.fr ha hF
    have hn := t.2.2.1
    have hc := hS.1
    have hb := (sm_b (T := TX E n) (p := p))
    have body : j_X2_read_37 (lp_X2_read_14 post (f + 1)) post M a 3 (-4) (nI cnt) (nI i) := by
      unfold j_X2_read_37 j_X2_read_83
      rw [hp]
      refine x_statement tM (fun _ _ _ => rfl) hp (by omega) (fun e M1 f1 q1 => b0 ?_) (fun e M1 r1 => b1 (bp rfl ?_))
      · rw [ok_s1, if_pos e] at h0
        rw [q1]
        exact h0 rfl M1 (fun j a1 a2 a3 a4 a5 => by rw [f1 j a2 a3, hF j a1 a2 a3 a4 a5])
      · have hb3 := hb.2.2 e
        have hT1 : TW M1 3 S c := hT.mem (r1.1 3 (by omega) (by omega)) (r1.1 _ (by omega) (by omega)) (fun q hq => r1.1 _ (by omega) (by omega))
        have t1 := tM.rc r1.1
        have fa := sm_fa e
        rw [ok_s1, if_neg (tr_nf e)] at h0 h1 h2
        rw [nI_1, nI_1]
        refine x_byteAt t1 (by omega) (fun r6 hr6 => x_obey hT1 hc fa hr6 r1.2.2.2 (fun o M2 f2 => b0 ?_) (fun o M2 f2 t2 => b1 ?_))
        · have F2 : FR M0 M2 := fun j a1 a2 a3 a4 a5 => by rw [f2 j a1 a4 a5, r1.1 j a2 a3, hF j a1 a2 a3 a4 a5]
          have p2 : M2 5 0 = nI (smF (TX E n) p).2.1 := by rw [f2 5 (by omega) (by omega) (by omega)]; exact r1.2.1
          rw [rn_s, if_pos o] at h1
          by_cases w : (smF (TX E n) p).2.1 < n
          · rw [if_pos w] at h0 h1
            exact x_readB t ha (by omega) f _ (cnt + 1) (i + 1) M2 F2 p2 w (by omega) (by omega) (by omega) h0 (fun q => h1 q rfl)
          · rw [if_neg w] at h1
            have hne : ¬ nI p = (-4 : Int32) := fun q => by
              have h9 := nI_pos' (n := p) (by omega)
              rw [q] at h9
              exact absurd h9 (by decide)
            exact x_exit (t.fr ha F2).2.1 p2 (by omega) (by omega) (by omega) (by omega) (bn hne (h1 rfl rfl M2 F2))
        · have F2 : FR M0 M2 := fun j a1 a2 a3 a4 a5 => by rw [f2 j a1 a4 a5, r1.1 j a2 a3, hF j a1 a2 a3 a4 a5]
          have p2 : M2 5 0 = nI (smF (TX E n) p).2.1 := by rw [f2 5 (by omega) (by omega) (by omega)]; exact r1.2.1
          have hS2 := ob_si hS fa o
          rw [rn_s, if_neg (tr_nf o)] at h1 h2
          rw [cn_s] at h2
          by_cases w : (smF (TX E n) p).2.1 < n
          · rw [if_pos w] at h0
            rw [if_pos w, if_pos w] at h1
            rw [if_pos w, if_pos w, if_pos w] at h2
            rw [← Nat.add_assoc] at h2
            exact x_readA t ha f _ (cnt + 1) (i + 1) M2 _ _ F2 p2 (by omega) (Or.inr w) (by omega) (by omega) hS2 t2 h0 h1 h2
          · rw [if_neg w, if_neg w, if_neg w, Nat.add_zero] at h2
            exact x_exit (t.fr ha F2).2.1 p2 (by omega) (by omega) (by omega) (by omega) (bp rfl (h2 rfl rfl M2 F2 t2 hS2))
    unfold lp_X2_read_14 b_X2_read_14
    rw [tM.2.1, hp]
    refine bn (nI_nlt (a := 100) (by omega) (by omega)) ⟨fun _ => body, fun z => bn (nI_ge ?_ (by omega)) body⟩
    rcases hin with q | q
    · exact absurd (by rw [q]; rfl) z
    · exact q
theorem nI_any (x : Int32) : ∃ k, x = nI k := ⟨x.toBitVec.toNat, Int32.toBitVec_inj.mp (by show x.toBitVec = BitVec.ofNat 32 x.toBitVec.toNat; simp)⟩
theorem NM.rm {M0 M : Mem} {k : Nat} {s : Nat × Nat × (Nat → Int32)} (h : NM M0 k M s) : ∃ l, RM M0 M s.1 l := by
  rcases h with ⟨-, w⟩ | ⟨-, w⟩
  · exact ⟨1, w.1⟩
  · exact ⟨_, w.1⟩
/-- what the model's reading leaves -/
def FT (M0 M : Mem) : Prop := (∀ i, i ≠ 57 → i ≠ 58 → i ≠ 60 → i ≠ 68 → M i = M0 i) ∧ M 57 10 = M0 57 10
theorem m_p1 {M0 : Mem} {d n : Nat} {E : Nat → Int32} {post : Int32 → Mem → Prop} (t : TM M0 d n E) : ∀ (f p cnt k : Nat) (M : Mem), RM M0 M p k → p ≤ n → n < p + f → ((okF (TX E n) n f p).1 = false → ∀ M1 k1, RM M0 M1 (okF (TX E n) n f p).2 k1 → post (-1000 - nI (okF (TX E n) n f p).2) M1) → ((okF (TX E n) n f p).1 = true → ∀ M1 p1 k1, RM M0 M1 p1 k1 → q_X6_copies M1 58 60 (fun M16 => ∀ M17 : Mem, M17 = mup M16 57 12 0 → ∃ m, lp_X6_tow_84 post m M17 (nI (cnt + cnF (TX E n) n f p)))) → lp_X6_tow_38 post f M (nI cnt)
  | 0, p, cnt, k, M, h, hp, hf, h0, h1 => by omega
  | f + 1, p, cnt, k, M, h, hp, hf, h0, h1 => by
    have hn := t.2.2.1
    have hb := (sm_b (T := TX E n) (p := p))
    unfold lp_X6_tow_38 b_X6_tow_38
    refine m_statement t h (by omega) (fun e M1 k1 r1 => b0 ?_) (fun e M1 nm => b1 ?_)
    · rw [ok_s1, if_pos e] at h0
      rw [r1.2.2.1]
      exact h0 rfl M1 k1 r1
    · obtain ⟨l, r1⟩ := nm.rm
      have hb3 := hb.2.2 e
      rw [ok_s1, if_neg (tr_nf e)] at h0 h1
      rw [cn_s] at h1
      rw [r1.2.2.1, r1.2.1 14 (by omega) (by omega) (by omega), t.2.1, nI_1]
      refine ⟨fun z => ?_, fun z => ?_⟩
      · have w : (smF (TX E n) p).2.1 < n := (nI_ltI (by omega) (by omega)).mp z
        rw [if_pos w] at h0
        rw [if_pos w, if_pos w, ← Nat.add_assoc] at h1
        exact m_p1 t f _ (cnt + 1) l M1 r1 (by omega) (by omega) h0 h1
      · have w : ¬ (smF (TX E n) p).2.1 < n := fun q => z (nI_lt q (by omega))
        rw [if_neg w, if_neg w, Nat.add_zero] at h1
        exact h1 rfl M1 _ l r1
theorem m_p2 {M0 : Mem} {d n : Nat} {E : Nat → Int32} {post : Int32 → Mem → Prop} : ∀ (f p cnt : Nat) (M : Mem) (S : Nat → Int32) (c : Nat), TM M d n E → M 57 12 = nI p → p < n → n < p + f → SI S c → (∀ j, j < 54 → M 60 j = S j) → (okF (TX E n) n f p).1 = true → FT M0 M → M 58 = M0 58 → ((rnF (TX E n) n f p S c).1.1 = false → ∀ M1, FT M0 M1 → M1 58 = M0 58 → post (-2000 - nI (rnF (TX E n) n f p S c).1.2) M1) → ((rnF (TX E n) n f p S c).1.1 = true → ∀ M1, FT M0 M1 → (∀ j, j < 54 → M1 58 j = (rnF (TX E n) n f p S c).2.1 j) → post (nI cnt) M1) → lp_X6_tow_84 post (f + 1) M (nI cnt)
  | 0, p, cnt, M, S, c, t, hp, hpn, hf, hS, h60, hok, hF, h58, h1, h2 => by omega
  | f + 1, p, cnt, M, S, c, t, hp, hpn, hf, hS, h60, hok, hF, h58, h1, h2 => by
    have hn := t.2.2.1
    have hb := (sm_b (T := TX E n) (p := p))
    obtain ⟨k, hk⟩ := nI_any (M 57 15)
    have hR : RM M M p k := ⟨fun _ _ _ => rfl, fun _ _ _ _ => rfl, hp, hk⟩
    have e : (smF (TX E n) p).1 = true := by
      apply bool_t
      intro q
      rw [ok_s1, if_pos q] at hok
      exact absurd (show false = true from hok) (by decide)
    rw [ok_s1, if_neg (tr_nf e)] at hok
    have hb3 := hb.2.2 e
    unfold lp_X6_tow_84 b_X6_tow_84
    rw [hp, t.2.1]
    refine bn (nI_ge hpn (by omega)) (m_here t hR (by omega) (fun r4 hr4 => m_statement t hR (by omega) (fun q => absurd q (tr_nf e)) (fun _ M7 nm => ?_)))
    obtain ⟨l, r7⟩ := nm.rm
    have q60 : ∀ j, j < 54 → M7 60 j = S j := fun j hj => by rw [r7.1 60 (by omega) (by omega)]; exact h60 j hj
    have fa := sm_fa e
    refine m_comes hS.1 hS.2.1 q60 fa nm hr4 (fun o M9 f9 => b0 ?_) (fun o M9 f9 g9 => b1 ?_)
    all_goals
      have F9 : FT M0 M9 := ⟨fun i i57 i58 i60 i68 => by rw [f9 i i60, r7.1 i i57 i68, hF.1 i i57 i58 i60 i68], by rw [f9 57 (by omega), r7.2.1 10 (by omega) (by omega) (by omega)]; exact hF.2⟩
      have q58 : M9 58 = M0 58 := by rw [f9 58 (by omega), r7.1 58 (by omega) (by omega)]; exact h58
    · rw [rn_s, if_pos o] at h1
      exact h1 rfl M9 F9 q58
    · rw [rn_s, if_neg (tr_nf o)] at h1 h2
      have e57 : M9 57 = M7 57 := f9 57 (by omega)
      have t9 : TM M9 d n E := by
        unfold TM
        rw [e57, r7.2.1 13 (by omega) (by omega) (by omega), r7.2.1 14 (by omega) (by omega) (by omega), f9 65 (by omega), r7.1 65 (by omega) (by omega)]
        exact t
      have p9 : M9 57 12 = nI (smF (TX E n) p).2.1 := by rw [e57]; exact r7.2.2.1
      by_cases w : (smF (TX E n) p).2.1 < n
      · rw [if_pos w] at hok h1 h2
        exact m_p2 f _ cnt M9 _ _ t9 p9 w (by omega) (ob_si hS fa o) g9 hok F9 q58 h1 h2
      · rw [if_neg w] at h2
        unfold lp_X6_tow_84 b_X6_tow_84
        rw [p9, t9.2.1]
        refine bp (nI_le (by omega) (by omega)) (m_copies (by omega) (fun M3 f3 g3 _ => h2 rfl M3 ⟨fun i i57 i58 i60 i68 => by rw [f3 i i58]; exact F9.1 i i57 i58 i60 i68, by rw [f3 57 (by omega)]; exact F9.2⟩ (fun j hj => ?_)))
        rw [g3 j hj]
        exact g9 j hj
