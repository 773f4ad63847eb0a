/-! PURE: a text of statements, and how the class scans it -/
/-- r stands for the sign k, as far as a test can tell -/
def RV (r : Int32) (k : Nat) : Prop := ∀ v, v < 128 → (r = nI v ↔ k = v)
def TX (E : Nat → Int32) (n : Nat) (p : Nat) : Nat := if p < n ∧ 0 ≤ E p ∧ E p < 128 then (E p).toNatClampNeg else 200
theorem TX_in {E : Nat → Int32} {n p : Nat} (hp : p < n) : RV (E p) (TX E n p) := by
  intro v hv
  unfold TX
  by_cases h : 0 ≤ E p ∧ E p < 128
  · rw [if_pos ⟨hp, h⟩]
    obtain ⟨k, hk, e⟩ := nI_of (nlt_le.mpr h.1)
    rw [e, cl hk, nI_eq hk (by omega)]
  · rw [if_neg (fun q => h q.2)]
    constructor
    · intro e
      exact absurd (by rw [e]; exact ⟨nI_pos' (by omega), nI_lt (b := 128) hv (by omega)⟩) h
    · intro e
      omega
theorem TX_out {E : Nat → Int32} {n p : Nat} {r : Int32} (hp : ¬ p < n) (hr : ∀ v, v < 128 → r ≠ nI v) : RV r (TX E n p) := by
  intro v hv
  unfold TX
  rw [if_neg (fun q => hp q.1)]
  exact ⟨fun e => absurd e (hr v hv), fun e => by omega⟩
theorem no256 : ∀ v, v < 128 → (256 : Int32) ≠ nI v := fun v hv e => by
  have h := (nI_eq (a := 256) (b := v) (by omega) (by omega)).mp e
  omega
theorem no1000 : ∀ v, v < 128 → (-1000 : Int32) ≠ nI v := fun v hv e => by
  have h0 := nI_pos (n := v) (by omega)
  rw [← e] at h0
  exact h0 (by decide)
/-- the class's shelf a holds the text E of n bytes -/
def TC (M : Mem) (a n : Nat) (E : Nat → Int32) : Prop := M a 0 = 2 ∧ M a 3 = nI n ∧ n ≤ 100 ∧ (∀ i, i < n → M (8 + a) i = E i) ∧ 7 < a
theorem x_byteAt {M : Mem} {a n p : Nat} {E : Nat → Int32} {post : Int32 → Mem → Prop} (t : TC M a n E) (hp : p < 2 ^ 31) (k : ∀ r, RV r (TX E n p) → post r M) : q_X3_byteAt M a (nI p) post := by
  obtain ⟨h2, hs, hn, hE, -⟩ := t
  unfold q_X3_byteAt j_X3_byteAt_20
  refine x_place hn hs (fun h => b0 (k _ (TX_out (fun q => h h2 p q rfl) no256))) (fun _ i hi e => b1 ?_)
  have : p = i := (nI_eq hp (by omega)).mp e
  subst this
  rw [cl hp, hE p hi]
  exact ⟨nI_in (by omega) (by omega), k _ (TX_in hi)⟩
abbrev dg (k : Nat) : Prop := 48 ≤ k ∧ k ≤ 57
theorem x_isDigit {M : Mem} {r : Int32} {k : Nat} {post : Int32 → Mem → Prop} (hr : RV r k) (h0 : ¬ dg k → post 0 M) (h1 : dg k → post 1 M) : q_X2_isDigit M r post := by
  refine x_in 48 57 rfl rfl (by omega) (by omega) (fun hno => ⟨Or.inl rfl, h0 (fun q => hno k q.1 q.2 ((hr k (by have := q.2; omega)).mpr rfl))⟩) (fun v a b e => ⟨Or.inr rfl, ?_⟩)
  have : k = v := (hr v (by omega)).mp e
  subst this
  exact h1 ⟨a, b⟩
def nmF (T : Nat → Nat) (p : Nat) : Nat → Nat → Nat → Nat × Nat
  | 0, v, k => (v, k)
  | f + 1, v, k => if v ≠ 0 ∧ 48 ≤ T (p + k) ∧ T (p + k) ≤ 57 then nmF T p f (10 * v + (T (p + k) - 48)) (k + 1) else (v, k)
theorem nm_s (T : Nat → Nat) (p f v k : Nat) : nmF T p (f + 1) v k = if v ≠ 0 ∧ 48 ≤ T (p + k) ∧ T (p + k) ≤ 57 then nmF T p f (10 * v + (T (p + k) - 48)) (k + 1) else (v, k) := rfl
theorem p10 {v k : Nat} (h : v < 10 ^ k) (hk : k ≤ 3) : v < 1000 := by
  have h3 : 10 ^ k ≤ 10 ^ 3 := Nat.pow_le_pow_right (by decide) hk
  have e3 : 10 ^ 3 = 1000 := by decide
  omega
theorem p10s {v k d : Nat} (h : v < 10 ^ k) (hd : d ≤ 9) : 10 * v + d < 10 ^ (k + 1) := by
  rw [Nat.pow_succ]
  omega
theorem nm_b (T : Nat → Nat) (p : Nat) : ∀ f v k, v < 10 ^ k → k + f ≤ 3 → (nmF T p f v k).1 < 1000 ∧ k ≤ (nmF T p f v k).2 ∧ (nmF T p f v k).2 ≤ k + f
  | 0, v, k, h, hk => ⟨p10 h hk, Nat.le_refl _, Nat.le_refl _⟩
  | f + 1, v, k, h, hk => by
    rw [nm_s]
    by_cases c : v ≠ 0 ∧ 48 ≤ T (p + k) ∧ T (p + k) ≤ 57
    · rw [if_pos c]
      obtain ⟨a, b, d⟩ := nm_b T p f (10 * v + (T (p + k) - 48)) (k + 1) (p10s h (by omega)) (by omega)
      exact ⟨a, by omega, by omega⟩
    · rw [if_neg c]
      exact ⟨p10 h (by omega), Nat.le_refl _, by show k ≤ k + (f + 1); omega⟩
theorem x_numL {M : Mem} {a n p most : Nat} {E : Nat → Int32} {post : Int32 → Mem → Prop} (t : TC M a n E) (hp : M 5 0 = nI p) (hpb : p ≤ 1000) (hm : most ≤ 3) : ∀ f v k, v < 10 ^ k → k + f = most → j_X2_scanNumber_68 post M (nI (nmF (TX E n) p f v k).1) (nI (nmF (TX E n) p f v k).2) → lp_X2_scanNumber_15 post (f + 1) M a (nI most) (nI v) (nI k)
  | 0, v, k, hv, hk, hj => by
    unfold lp_X2_scanNumber_15 b_X2_scanNumber_15
    exact bp (nI_le (by omega) (by omega)) hj
  | f + 1, v, k, hv, hk, hj => by
    have hv3 := p10 hv (by omega)
    rw [nm_s] at hj
    unfold lp_X2_scanNumber_15 b_X2_scanNumber_15
    rw [hp, nI_add, nI_1]
    refine bn (nI_ge (by omega) (by omega)) ⟨fun z => ?_, fun z => x_byteAt t (by omega) (fun r hr => x_isDigit hr (fun hd => b0 ?_) (fun hd => b1 ?_))⟩
    · have : v = 0 := (nI_eq (b := 0) (by omega) (by omega)).mp z
      rw [if_neg (fun q => q.1 this)] at hj
      exact hj
    · rw [if_neg (fun q => hd q.2)] at hj
      exact hj
    · rw [hp, nI_add]
      refine x_byteAt t (by omega) (fun r2 hr2 v12 e12 => ?_)
      have hvne : v ≠ 0 := fun q => z (by rw [q]; rfl)
      rw [if_pos ⟨hvne, hd⟩] at hj
      have hd1 := hd.1
      have hd2 := hd.2
      have er2 := (hr2 (TX E n (p + k)) (by omega)).mpr rfl
      have e : v12 = nI (10 * v + (TX E n (p + k) - 48)) := by
        rw [e12, er2, show (10 : Int32) * nI v = nI (10 * v) from pk_mul 10 v, nI_add, show (48 : Int32) = nI 48 from rfl, nsub (by omega)]
        congr 1
        omega
      subst e
      exact x_numL t hp hpb hm f _ (k + 1) (p10s hv (by omega)) (by omega) hj
/-- where a scan stands: its place, how many numbers, which -/
def RC (M0 M : Mem) (s : Nat × Nat × (Nat → Int32)) : Prop := (∀ i, i ≠ 5 → i ≠ 7 → M i = M0 i) ∧ M 5 0 = nI s.1 ∧ M 5 2 = nI s.2.1 ∧ ∀ j, j < s.2.1 → M 7 j = s.2.2 j
theorem TC.rc {M0 M : Mem} {a n : Nat} {E : Nat → Int32} (t : TC M0 a n E) (h : ∀ i, i ≠ 5 → i ≠ 7 → M i = M0 i) : TC M a n E := by
  obtain ⟨h2, hs, hn, hE, ha⟩ := t
  unfold TC
  rw [h a (by omega) (by omega), h (8 + a) (by omega) (by omega)]
  exact ⟨h2, hs, hn, hE, ha⟩
theorem x_take {M0 M : Mem} {s : Nat × Nat × (Nat → Int32)} {x y : Int32} {q : Nat} {post : Int32 → Mem → Prop} (h : RC M0 M s) (hl : s.2.1 < 3) (hy : y = nI q) (k : ∀ M1, RC M0 M1 (s.1 + q, s.2.1 + 1, upd s.2.2 s.2.1 x) → post 1 M1) : q_X2_take M x y post := by
  obtain ⟨c1, c2, c3, c4⟩ := h
  subst hy
  unfold q_X2_take
  rw [c3]
  refine bp (nI_lt (b := 3) hl (by omega)) ⟨nI_in hl (by omega), fun M3 e3 M4 e4 M5 e5 => ?_⟩
  rw [cl (by omega)] at e3
  have q4 : M4 5 0 = nI s.1 := by rw [e4, mup_eq, if_neg (by omega), e3, mup_ne _ _ _ (by omega)]; exact c2
  refine k M5 ⟨fun i h5 h7 => by rw [e5, mup_ne _ _ _ h5, e4, mup_ne _ _ _ h5, e3, mup_ne _ _ _ h7, c1 i h5 h7], ?_, ?_, fun j hj => ?_⟩
  · rw [e5, mup_eq, if_pos ⟨rfl, rfl⟩, q4, nI_add]
  · rw [e5, mup_eq, if_neg (by omega), e4, mup_eq, if_pos ⟨rfl, rfl⟩, e3, mup_ne _ _ _ (by omega), c3, nI_1]
  · rw [e5, mup_ne _ _ _ (by omega), e4, mup_ne _ _ _ (by omega), e3, mup_eq]
    show _ = upd s.2.2 s.2.1 x j
    unfold upd
    by_cases w : j = s.2.1
    · rw [if_pos ⟨rfl, w⟩, if_pos w]
    · rw [if_neg (fun q => w q.2), if_neg w]
      have hj2 : j < s.2.1 + 1 := hj
      exact c4 j (by omega)
def nuF (T : Nat → Nat) (f : Nat) (s : Nat × Nat × (Nat → Int32)) : Nat × Nat × (Nat → Int32) := (s.1 + (nmF T s.1 f (T s.1 - 48) 1).2, s.2.1 + 1, upd s.2.2 s.2.1 (nI (nmF T s.1 f (T s.1 - 48) 1).1))
theorem x_number {M0 M : Mem} {a n f : Nat} {E : Nat → Int32} {s : Nat × Nat × (Nat → Int32)} {y : Int32} {post : Int32 → Mem → Prop} (t : TC M0 a n E) (h : RC M0 M s) (hl : s.2.1 < 3) (hf : f ≤ 2) (hy : y = nI (f + 1)) (hb : s.1 ≤ 1000) (hd : dg (TX E n s.1)) (k : ∀ M1, RC M0 M1 (nuF (TX E n) f s) → post 1 M1) : q_X2_scanNumber M a y post := by
  subst hy
  have tM := t.rc h.1
  have hd1 := hd.1
  have hd2 := hd.2
  unfold q_X2_scanNumber
  rw [h.2.1]
  refine x_byteAt tM (by omega) (fun r hr => ⟨f + 1, ?_⟩)
  have er := (hr (TX E n s.1) (by omega)).mpr rfl
  have e : r - 48 = nI (TX E n s.1 - 48) := by rw [er, show (48 : Int32) = nI 48 from rfl, nsub (by omega)]
  rw [e]
  refine x_numL tM h.2.1 hb (by omega) f _ 1 (by omega) (by omega) ?_
  unfold j_X2_scanNumber_68
  exact x_take h hl rfl (fun M1 r1 => ⟨Or.inr rfl, k M1 r1⟩)
def zpF (T : Nat → Nat) (c : Nat) (s : Nat × Nat × (Nat → Int32)) : Bool × (Nat × Nat × (Nat → Int32)) :=
  if c = 68 then (if 48 ≤ T s.1 ∧ T s.1 ≤ 57 then (true, nuF T 0 s) else (false, s))
  else if c = 78 then (if 48 ≤ T s.1 ∧ T s.1 ≤ 57 then (true, nuF T 2 s) else (false, s))
  else if c = 83 then (if T s.1 = 43 then (true, (s.1 + 1, s.2.1 + 1, upd s.2.2 s.2.1 1)) else if T s.1 = 45 then (true, (s.1 + 1, s.2.1 + 1, upd s.2.2 s.2.1 (-1))) else (false, s))
  else if T s.1 = c then (true, (s.1 + 1, s.2)) else (false, s)
def prF (T : Nat → Nat) : List Nat → (Nat × Nat × (Nat → Int32)) → Bool × (Nat × Nat × (Nat → Int32))
  | [], s => (true, s)
  | c :: cs, s => if (zpF T c s).1 = true then prF T cs (zpF T c s).2 else (false, s)
theorem pr_s (T : Nat → Nat) (c : Nat) (cs : List Nat) (s : Nat × Nat × (Nat → Int32)) : prF T (c :: cs) s = if (zpF T c s).1 = true then prF T cs (zpF T c s).2 else (false, s) := rfl
def shp (k : Nat) : List Nat := if k = 97 then [83, 78, 59] else if k = 100 then [78, 59] else if k = 112 then [68, 68, 78, 59] else if k = 115 then [78, 32, 78, 59] else if k = 118 then [68, 59] else if k = 121 then [68, 68, 68, 59] else []
def s00 (p : Nat) : Nat × Nat × (Nat → Int32) := (p, 0, fun _ => 0)
def smF (T : Nat → Nat) (p : Nat) : Bool × (Nat × Nat × (Nat → Int32)) := if shp (T p) = [] then (false, s00 p) else prF T (shp (T p)) (s00 (p + 1))
/-- what is due where a scan fails at a place, where it ends well -/
def GO (T : Nat → Nat) (A : Nat → Prop) (B : (Nat × Nat × (Nat → Int32)) → Prop) (cs : List Nat) (s : Nat × Nat × (Nat → Int32)) : Prop := ((prF T cs s).1 = false → A (prF T cs s).2.1) ∧ ((prF T cs s).1 = true → B (prF T cs s).2)
theorem GO.step {T : Nat → Nat} {A : Nat → Prop} {B : (Nat × Nat × (Nat → Int32)) → Prop} {c : Nat} {cs : List Nat} {s : Nat × Nat × (Nat → Int32)} (h : GO T A B (c :: cs) s) : ((zpF T c s).1 = false → A s.1) ∧ ((zpF T c s).1 = true → GO T A B cs (zpF T c s).2) := by
  unfold GO at h
  rw [pr_s] at h
  constructor
  · intro e
    rw [if_neg (by rw [e]; decide)] at h
    exact h.1 rfl
  · intro e
    rw [if_pos e] at h
    exact h
theorem x_part {M0 M : Mem} {a n c : Nat} {E : Nat → Int32} {s : Nat × Nat × (Nat → Int32)} {post : Int32 → Mem → Prop} (t : TC M0 a n E) (h : RC M0 M s) (hc : c < 128) (hl : c = 68 ∨ c = 78 ∨ c = 83 → s.2.1 < 3) (hb : s.1 ≤ 1000) (h0 : (zpF (TX E n) c s).1 = false → post 0 M) (h1 : (zpF (TX E n) c s).1 = true → ∀ M1, RC M0 M1 (zpF (TX E n) c s).2 → post 1 M1) : q_X2_scanPart M a (nI c) post := by
  have tM := t.rc h.1
  unfold q_X2_scanPart
  rw [h.2.1]
  refine x_byteAt tM (by omega) (fun r hr => ?_)
  unfold zpF at h0 h1
  have ec : ∀ v, v < 2 ^ 31 → (nI c = nI v ↔ c = v) := fun v hv => nI_eq (by omega) hv
  refine ⟨fun z => ?_, fun z => ⟨fun z2 => ?_, fun z2 => ⟨fun z3 => ?_, fun z3 => ?_⟩⟩⟩
  · have z' : c = 68 := (ec 68 (by omega)).mp z
    rw [if_pos z'] at h0 h1
    refine x_isDigit hr (fun hd => b0 ⟨Or.inl rfl, ?_⟩) (fun hd => b1 (x_number (f := 0) t h (hl (Or.inl z')) (by omega) rfl hb hd (fun M1 r1 => b1 ⟨Or.inr rfl, ?_⟩)))
    · rw [if_neg hd] at h0; exact h0 rfl
    · rw [if_pos hd] at h1; exact h1 rfl M1 r1
  · have z' : ¬ c = 68 := fun q => z ((ec 68 (by omega)).mpr q)
    have z2' : c = 78 := (ec 78 (by omega)).mp z2
    rw [if_neg z', if_pos z2'] at h0 h1
    refine x_isDigit hr (fun hd => b0 ⟨Or.inl rfl, ?_⟩) (fun hd => b1 (x_number (f := 2) t h (hl (Or.inr (Or.inl z2'))) (by omega) rfl hb hd (fun M1 r1 => b1 ⟨Or.inr rfl, ?_⟩)))
    · rw [if_neg hd] at h0; exact h0 rfl
    · rw [if_pos hd] at h1; exact h1 rfl M1 r1
  · have z' : ¬ c = 68 := fun q => z ((ec 68 (by omega)).mpr q)
    have z2' : ¬ c = 78 := fun q => z2 ((ec 78 (by omega)).mpr q)
    have z3' : c = 83 := (ec 83 (by omega)).mp z3
    have hl3 := hl (Or.inr (Or.inr z3'))
    rw [if_neg z', if_neg z2', if_pos z3'] at h0 h1
    unfold j_X2_scanPart_100 j_X2_scanPart_123 j_X2_scanPart_112
    have r43 := hr 43 (by omega)
    have r45 := hr 45 (by omega)
    refine ⟨fun w => ⟨fun w2 => ?_, fun w2 => ?_⟩, fun w => ⟨fun w2 => ⟨fun w3 => ?_, fun w3 => absurd w2 w3⟩, fun w2 => ?_⟩⟩
    · have e1 := r43.mp w
      have e2 := r45.mp w2
      omega
    · have e1 := r43.mp w
      rw [if_pos e1] at h1
      exact x_take (q := 1) h hl3 rfl (fun M1 r1 => b1 ⟨Or.inr rfl, h1 rfl M1 r1⟩)
    · have e1 : ¬ TX E n s.1 = 43 := fun q => w (r43.mpr q)
      have e2 := r45.mp w2
      rw [if_neg e1, if_pos e2] at h1
      exact x_take (q := 1) h hl3 rfl (fun M1 r1 => b1 ⟨Or.inr rfl, h1 rfl M1 r1⟩)
    · have e1 : ¬ TX E n s.1 = 43 := fun q => w (r43.mpr q)
      have e2 : ¬ TX E n s.1 = 45 := fun q => w2 (r45.mpr q)
      rw [if_neg e1, if_neg e2] at h0
      exact ⟨Or.inl rfl, h0 rfl⟩
  · have z' : ¬ c = 68 := fun q => z ((ec 68 (by omega)).mpr q)
    have z2' : ¬ c = 78 := fun q => z2 ((ec 78 (by omega)).mpr q)
    have z3' : ¬ c = 83 := fun q => z3 ((ec 83 (by omega)).mpr q)
    rw [if_neg z', if_neg z2', if_neg z3'] at h0 h1
    have rc := hr c hc
    refine ⟨fun w => fun M1 e1 => ?_, fun w => ?_⟩
    · rw [if_pos (rc.mp w)] at h1
      rw [h.2.1, nI_1] at e1
      refine h1 rfl M1 ⟨fun i h5 h7 => by rw [e1, mup_ne _ _ _ h5, h.1 i h5 h7], ?_, ?_, fun j hj => ?_⟩
      · rw [e1, mup_eq, if_pos ⟨rfl, rfl⟩]
      · rw [e1, mup_eq, if_neg (by omega)]; exact h.2.2.1
      · rw [e1, mup_ne _ _ _ (by omega)]; exact h.2.2.2 j hj
    · rw [if_neg (fun q => w (rc.mpr q))] at h0
      exact h0 rfl
