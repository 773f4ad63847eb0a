/-! PURE: a tenth goes by -/
def wkF (S : Nat → Int32) (v : Int32) (p : Nat) : Prop := ¬ v ≤ stB (S (12 + 6 * p + 0)) (S (12 + 6 * p + 1)) - S (12 + 6 * p + 3)
def wkB (S : Nat → Int32) (v : Int32) (p : Nat) : Bool := !decide (v ≤ stB (S (12 + 6 * p + 0)) (S (12 + 6 * p + 1)) - S (12 + 6 * p + 3))
def fwk (S : Nat → Int32) (v : Int32) : Nat → Nat → Nat
  | 0, p => p
  | k + 1, p => if wkB S v p then p else fwk S v k (p + 1)
def fwN (S : Nat → Int32) (v : Int32) (c : Nat) : Nat := fwk S v (c - 0) 0
theorem fw_s (S : Nat → Int32) (v : Int32) {n i : Nat} (h : i < n) : fwk S v (n - i) i = if wkB S v i then i else fwk S v (n - (i + 1)) (i + 1) := by
  rw [show n - i = (n - (i + 1)) + 1 by omega]
  rfl
theorem fw_z (S : Nat → Int32) (v : Int32) {n : Nat} : fwk S v (n - n) n = n := by
  rw [Nat.sub_self]
  rfl
def huF (h w : Int32) : Int32 := if h + w ≤ 999 then h + w else 999
def tenS (S : Nat → Int32) (c : Nat) (v o : Int32) : Nat → Int32 := fun k =>
  if k = 1 then S 1 + 1 else if k = 2 then S 2 + (if 0 < o then 1 else 0)
  else if fwN S v c < c then (if k = 12 + 6 * fwN S v c + 4 then 1 else if k = 12 + 6 * fwN S v c + 5 then whF (S (12 + 6 * fwN S v c + 3)) (stB (S (12 + 6 * fwN S v c + 0)) (S (12 + 6 * fwN S v c + 1))) v else S k)
  else if 0 < o ∧ 12 ≤ k ∧ k < 12 + 6 * c ∧ (k - 12) % 6 = 3 then huF (S k) (wrB (S (k - 3)) (S (k - 2))) else S k
def TP (M : Mem) (t : Nat) (S : Nat → Int32) (c : Nat) : Prop := M t 1 = nI c ∧ M t 5 = S 1 ∧ M t 6 = S 2 ∧ (∀ p, p < c → PCs M (32 + 6 * t + p) S p) ∧ PTs (M t 7) (M t 8) S c
theorem TW.tp {M : Mem} {t c : Nat} {S : Nat → Int32} (h : TW M t S c) : TP M t S c := ⟨h.1.1, h.1.2.2.2.1, h.1.2.2.2.2, h.2.2.1, h.2.2.2⟩
def ptF (S : Nat → Int32) (v : Int32) (c : Nat) : Int32 := if fwN S v c < c then nI (fwN S v c) else -4
section TENX
variable {M : Mem} {S : Nat → Int32} {t c : Nat} {f h g y l v : Int32}
theorem x_first {post : Int32 → Mem → Prop} {x : Int32} (hT : TP M t S c) (hc : c ≤ 6) (k : post (ptF S x c) M) : q_X4_firstWeakerThan M t x post := by
  unfold ptF at k
  refine pk_loop (fun n i (s : Mem) => lp_X4_firstWeakerThan_2 post n s t x (nI i)) (fun i s => s = M ∧ fwN S x c = fwk S x (c - i) i) c 0 M (by omega) ⟨rfl, rfl⟩ (fun n s hs => ?_) (fun n i s hi hs kk => ?_)
  · obtain ⟨rfl, ev⟩ := hs
    rw [ev, fw_z, if_neg (by omega)] at k
    unfold lp_X4_firstWeakerThan_2 b_X4_firstWeakerThan_2
    rw [hT.1]
    exact bp (Int32.le_refl _) k
  · obtain ⟨rfl, ev⟩ := hs
    have hP := hT.2.2.2.1 i hi
    unfold lp_X4_firstWeakerThan_2 b_X4_firstWeakerThan_2
    rw [hT.1, cl (by omega), hP.2.2.2.2.2.2.2.1, hP.2.2.2.2.1]
    rw [fw_s _ _ hi] at ev
    refine bn (nI_ge hi (by omega)) ⟨nI_in (by omega) (by omega), fun w => ?_, fun w => ?_⟩
    · have : wkB S x i = false := by unfold wkB; rw [decide_eq_true w]; rfl
      rw [if_neg (by rw [this]; decide)] at ev
      rw [nI_1]
      exact kk s ⟨rfl, ev⟩
    · have : wkB S x i = true := by unfold wkB; rw [decide_eq_false w]; rfl
      rw [if_pos this] at ev
      rw [ev, if_pos hi] at k
      exact k
theorem hu_eq (a : Int32) : (if a < 999 then a else 999) = if a ≤ 999 then a else 999 := by
  grind
theorem x_hurt {post : Mem → Prop} (h1 : M t 1 = nI c) (hc : c ≤ 6) (ht : 1 ≤ t ∧ t ≤ 3) (hp : ∀ p, p < c → M (32 + 6 * t + p) 8 = wrB (S (12 + 6 * p + 0)) (S (12 + 6 * p + 1)) ∧ M (32 + 6 * t + p) 4 = S (12 + 6 * p + 3)) (k : ∀ M1, (∀ i, (i < 32 + 6 * t ∨ 32 + 6 * t + c ≤ i) → M1 i = M i) → (∀ p, p < c → (∀ j, j ≠ 4 → M1 (32 + 6 * t + p) j = M (32 + 6 * t + p) j) ∧ M1 (32 + 6 * t + p) 4 = huF (S (12 + 6 * p + 3)) (wrB (S (12 + 6 * p + 0)) (S (12 + 6 * p + 1)))) → post M1) : q_X4_hurtPieces M t post := by
  refine pk_loop (fun n i (s : Mem) => lp_X4_hurtPieces_2 post n s t (nI i)) (fun i s => (∀ j, (j < 32 + 6 * t ∨ 32 + 6 * t + i ≤ j) → s j = M j) ∧ ∀ p, p < i → (∀ j, j ≠ 4 → s (32 + 6 * t + p) j = M (32 + 6 * t + p) j) ∧ s (32 + 6 * t + p) 4 = huF (S (12 + 6 * p + 3)) (wrB (S (12 + 6 * p + 0)) (S (12 + 6 * p + 1)))) c 0 M (by omega) ⟨fun _ _ => rfl, fun p hp => by omega⟩ (fun n s hs => ?_) (fun n i s hi hs kk => ?_)
  · unfold lp_X4_hurtPieces_2 b_X4_hurtPieces_2
    rw [hs.1 t (by omega), h1]
    exact bp (Int32.le_refl _) (k s hs.1 hs.2)
  · obtain ⟨s1, s2⟩ := hs
    unfold lp_X4_hurtPieces_2 b_X4_hurtPieces_2
    rw [s1 t (by omega), h1]
    refine bn (nI_ge hi (by omega)) ⟨nI_in (by omega) (by omega), ?_⟩
    rw [cl (by omega)]
    intro M4 e4
    rw [s1 (32 + 6 * t + i) (by omega), (hp i hi).1, (hp i hi).2, hu_eq] at e4
    rw [nI_1]
    refine kk M4 ⟨fun j hj => by rw [e4, mup_ne _ _ _ (by omega), s1 j (by omega)], fun p hp9 => ?_⟩
    by_cases w : p = i
    · subst w
      refine ⟨fun j hj => by rw [e4, mup_eq, if_neg (fun q => hj q.2), s1 _ (by omega)], by rw [e4, mup_eq, if_pos ⟨rfl, rfl⟩]; rfl⟩
    · rw [e4, mup_ne _ _ _ (by omega)]
      exact s2 p (by omega)
theorem tenS_o {o : Int32} {p j : Nat} (hp : p < c) (hj : j < 3) : tenS S c v o (12 + 6 * p + j) = S (12 + 6 * p + j) := by
  unfold tenS
  rw [if_neg (by omega), if_neg (by omega)]
  by_cases w : fwN S v c < c
  · rw [if_pos w, if_neg (by omega), if_neg (by omega)]
  · rw [if_neg w, if_neg (by omega)]
theorem tenS_3 {o : Int32} {p : Nat} (hp : p < c) : tenS S c v o (12 + 6 * p + 3) = if fwN S v c < c then S (12 + 6 * p + 3) else if 0 < o then huF (S (12 + 6 * p + 3)) (wrB (S (12 + 6 * p + 0)) (S (12 + 6 * p + 1))) else S (12 + 6 * p + 3) := by
  unfold tenS
  rw [if_neg (by omega), if_neg (by omega)]
  by_cases w : fwN S v c < c
  · rw [if_pos w, if_pos w, if_neg (by omega), if_neg (by omega)]
  · rw [if_neg w, if_neg w]
    by_cases z : 0 < o
    · rw [if_pos ⟨z, by omega, by omega, by omega⟩, if_pos z, show 12 + 6 * p + 3 - 3 = 12 + 6 * p + 0 by omega, show 12 + 6 * p + 3 - 2 = 12 + 6 * p + 1 by omega]
    · rw [if_neg (fun q => z q.1), if_neg z]
theorem tenS_4 {o : Int32} {p : Nat} (hp : p < c) : tenS S c v o (12 + 6 * p + 4) = if fwN S v c < c ∧ p = fwN S v c then 1 else S (12 + 6 * p + 4) := by
  unfold tenS
  rw [if_neg (by omega), if_neg (by omega)]
  by_cases w : fwN S v c < c
  · rw [if_pos w]
    by_cases z : p = fwN S v c
    · rw [if_pos (by omega), if_pos ⟨w, z⟩]
    · rw [if_neg (by omega), if_neg (by omega), if_neg (fun q => z q.2)]
  · rw [if_neg w, if_neg (show ¬ (0 < o ∧ 12 ≤ 12 + 6 * p + 4 ∧ 12 + 6 * p + 4 < 12 + 6 * c ∧ (12 + 6 * p + 4 - 12) % 6 = 3) by omega), if_neg (fun q => w q.1)]
theorem tenS_5 {o : Int32} (w : fwN S v c < c) : tenS S c v o (12 + 6 * fwN S v c + 5) = whF (S (12 + 6 * fwN S v c + 3)) (stB (S (12 + 6 * fwN S v c + 0)) (S (12 + 6 * fwN S v c + 1))) v := by
  unfold tenS
  rw [if_neg (by omega), if_neg (by omega), if_pos w, if_neg (by omega), if_pos rfl]
theorem tenS_lo {o : Int32} {k : Nat} (h1 : k ≠ 1) (h2 : k ≠ 2) (h : k < 12 ∨ 12 + 6 * c ≤ k) : tenS S c v o k = S k := by
  unfold tenS
  rw [if_neg h1, if_neg h2]
  by_cases w : fwN S v c < c
  · rw [if_pos w, if_neg (by omega), if_neg (by omega)]
  · rw [if_neg w, if_neg (by omega)]
theorem tenS_1 {o : Int32} : tenS S c v o 1 = S 1 + 1 := by unfold tenS; rw [if_pos rfl]
theorem tenS_2 {o : Int32} : tenS S c v o 2 = S 2 + (if 0 < o then 1 else 0) := by unfold tenS; rw [if_neg (by omega), if_pos rfl]
theorem x_tenth {post : Int32 → Mem → Prop} (n : LN M f h g y l v) (lo : LO g l v) (hT : TP M t S c) (hL : LnS S c) (hc : c ≤ 6) (ht : t = 1 ∨ t = 3)
    (k : ∀ M1, (∀ i, i ≠ t → (i < 32 + 6 * t ∨ 38 + 6 * t ≤ i) → M1 i = M i) → (∀ j, j < 5 → M1 t j = M t j) → TP M1 t (tenS S c (plF f h (gvR g) y l v (S 1)) (ovF f h y l v (S 1))) c → M1 t 7 = ptF S (plF f h (gvR g) y l v (S 1)) c → post (plF f h (gvR g) y l v (S 1)) M1) : q_X4_passTenth M t post := by
  obtain ⟨t1, t5, t6, tp, tq⟩ := hT
  unfold q_X4_passTenth
  rw [t5]
  refine l_over n lo (l_pullOver n lo ?_)
  intro M13 e13
  have V : poF h (gvR g) v (ovF f h y l v (S 1)) = plF f h (gvR g) y l v (S 1) := rfl
  rw [V]
  generalize plF f h (gvR g) y l v (S 1) = pv at *
  generalize ovF f h y l v (S 1) = ov at *
  rw [t5] at e13
  have key : ∀ M15, (∀ i, i ≠ t → M15 i = M i) → (∀ j, j ≠ 5 → j ≠ 6 → M15 t j = M t j) → M15 t 5 = S 1 + 1 → M15 t 6 = S 2 + (if 0 < ov then 1 else 0) → j_X4_passTenth_39 post M15 t ov pv := fun M15 f15 g15 a5 a6 => by
    have hp15 : ∀ p, p < c → PCs M15 (32 + 6 * t + p) S p := fun p hp => by unfold PCs; rw [f15 _ (by omega)]; exact tp p hp
    have T15 : M15 t 1 = nI c ∧ True := ⟨by rw [g15 1 (by omega) (by omega)]; exact t1, trivial⟩
    have F : ∀ post2 : Int32 → Mem → Prop, post2 (ptF S pv c) M15 → q_X4_firstWeakerThan M15 t pv post2 := fun post2 hk => by
      -- only the count and the pieces are read
      refine pk_loop (fun n i (s : Mem) => lp_X4_firstWeakerThan_2 post2 n s t pv (nI i)) (fun i s => s = M15 ∧ fwN S pv c = fwk S pv (c - i) i) c 0 M15 (by omega) ⟨rfl, rfl⟩ (fun n s hs => ?_) (fun n i s hi hs kk => ?_)
      · obtain ⟨rfl, ev⟩ := hs
        unfold ptF at hk
        rw [ev, fw_z, if_neg (by omega)] at hk
        unfold lp_X4_firstWeakerThan_2 b_X4_firstWeakerThan_2
        rw [T15.1]
        exact bp (Int32.le_refl _) hk
      · obtain ⟨rfl, ev⟩ := hs
        have hP := hp15 i hi
        unfold ptF at hk
        unfold lp_X4_firstWeakerThan_2 b_X4_firstWeakerThan_2
        rw [T15.1, cl (by omega), hP.2.2.2.2.2.2.2.1, hP.2.2.2.2.1]
        rw [fw_s _ _ hi] at ev
        refine bn (nI_ge hi (by omega)) ⟨nI_in (by omega) (by omega), fun w => ?_, fun w => ?_⟩
        · have : wkB S pv i = false := by unfold wkB; rw [decide_eq_true w]; rfl
          rw [if_neg (by rw [this]; decide)] at ev
          rw [nI_1]
          exact kk s ⟨rfl, ev⟩
        · have : wkB S pv i = true := by unfold wkB; rw [decide_eq_false w]; rfl
          rw [if_pos this] at ev
          rw [ev, if_pos hi] at hk
          exact hk
    refine F _ (fun M3 e3 => ?_)
    have a7 : M3 t 7 = ptF S pv c := by rw [e3, mup_eq, if_pos ⟨rfl, rfl⟩]
    have n4 : ∀ q, q < 6 → nI q ≠ (-4 : Int32) := by decide
    rw [a7]
    by_cases w : fwN S pv c < c
    · have e7 : ptF S pv c = nI (fwN S pv c) := by unfold ptF; rw [if_pos w]
      rw [e7]
      refine bn (n4 _ (by omega)) (fun M8 e8 => ?_)
      have fo : ∀ i, i ≠ t → M8 i = M i := fun i hi => by rw [e8, mup_ne _ _ _ hi, e3, mup_ne _ _ _ hi, f15 i hi]
      have ft : ∀ j, j ≠ 7 → j ≠ 8 → M8 t j = M15 t j := fun j h7 h8 => by rw [e8, mup_eq, if_neg (fun q => h8 q.2), e3, mup_eq, if_neg (fun q => h7 q.2)]
      have f7 : M8 t 7 = nI (fwN S pv c) := by rw [e8, mup_eq, if_neg (by omega), a7, e7]
      have f8 : M8 t 8 = pv := by rw [e8, mup_eq, if_pos ⟨rfl, rfl⟩]
      refine k M8 (fun i hi _ => fo i hi) (fun j hj => by rw [ft j (by omega) (by omega), g15 j (by omega) (by omega)]) ⟨by rw [ft 1 (by omega) (by omega)]; exact T15.1, by rw [ft 5 (by omega) (by omega), a5, tenS_1], by rw [ft 6 (by omega) (by omega), a6, tenS_2], fun p hp => ?_, Or.inr ⟨fwN S pv c, w, f7, ?_, fun p hp hq => ?_, ?_⟩⟩ (by rw [f7, e7])
      · unfold PCs
        rw [fo _ (by omega), tenS_o hp (by omega), tenS_o hp (by omega), tenS_o hp (by omega), tenS_3 hp, if_pos w]
        exact tp p hp
      · rw [tenS_4 w, if_pos ⟨w, rfl⟩]
      · rw [tenS_4 hp, if_neg (fun q => hq q.2)]
        exact hL.2 p hp
      · rw [tenS_5 w, f8, tenS_3 w, if_pos w, tenS_o w (by omega), tenS_o w (by omega)]
    · have e7 : ptF S pv c = -4 := by unfold ptF; rw [if_neg w]
      rw [e7]
      have f3 : ∀ i, i ≠ t → M3 i = M i := fun i hi => by rw [e3, mup_ne _ _ _ hi, f15 i hi]
      have ft : ∀ j, j ≠ 7 → M3 t j = M15 t j := fun j h7 => by rw [e3, mup_eq, if_neg (fun q => h7 q.2)]
      have tail : ∀ M7, (∀ i, i ≠ t → (i < 32 + 6 * t ∨ 38 + 6 * t ≤ i) → M7 i = M i) → (∀ j, M7 t j = M3 t j) → (∀ p, p < c → PCs M7 (32 + 6 * t + p) (tenS S c pv ov) p) → post pv M7 := fun M7 q1 q2 q3 => by
        refine k M7 q1 (fun j hj => by rw [q2, ft j (by omega), g15 j (by omega) (by omega)]) ⟨by rw [q2, ft 1 (by omega)]; exact T15.1, by rw [q2, ft 5 (by omega), a5, tenS_1], by rw [q2, ft 6 (by omega), a6, tenS_2], q3, Or.inl ⟨by rw [q2, a7, e7], fun p hp => ?_⟩⟩ (by rw [q2, a7])
        rw [tenS_4 hp, if_neg (fun q => w q.1)]
        exact hL.2 p hp
      refine bp rfl ⟨fun z => ?_, fun z => ?_⟩
      · refine tail M3 (fun i hi _ => f3 i hi) (fun _ => rfl) (fun p hp => ?_)
        unfold PCs
        rw [f3 _ (by omega), tenS_o hp (by omega), tenS_o hp (by omega), tenS_o hp (by omega), tenS_3 hp, if_neg w, if_neg (nlt_le.mpr z)]
        exact tp p hp
      · refine x_hurt (S := S) (by rw [ft 1 (by omega)]; exact T15.1) hc (by omega) (fun p hp => ?_) (fun M7 q1 q2 => ?_)
        · rw [f3 _ (by omega)]
          exact ⟨(tp p hp).2.2.2.2.2.2.2.2, (tp p hp).2.2.2.2.1⟩
        · refine tail M7 (fun i hi hj => by rw [q1 i (by omega), f3 i hi]) (fun j => by rw [q1 t (by omega)]) (fun p hp => ?_)
          obtain ⟨g1, g2⟩ := q2 p hp
          have gg : ∀ j, j ≠ 4 → M7 (32 + 6 * t + p) j = M (32 + 6 * t + p) j := fun j hj => by rw [g1 j hj, f3 _ (by omega)]
          unfold PCs
          rw [gg 0 (by omega), gg 1 (by omega), gg 2 (by omega), gg 3 (by omega), g2, gg 5 (by omega), gg 6 (by omega), gg 7 (by omega), gg 8 (by omega), tenS_o hp (by omega), tenS_o hp (by omega), tenS_o hp (by omega), tenS_3 hp, if_neg w, if_pos (nle_lt.mp z)]
          obtain ⟨p0, p1, p2, p3, p4, p5, p6, p7, p8⟩ := tp p hp
          exact ⟨p0, p1, p2, p3, rfl, p5, p6, p7, p8⟩
  refine ⟨fun z => key M13 (fun i hi => by rw [e13, mup_ne _ _ _ hi]) (fun j h5 _ => by rw [e13, mup_eq, if_neg (fun q => h5 q.2)]) (by rw [e13, mup_eq, if_pos ⟨rfl, rfl⟩]) ?_, fun z => fun M15 e15 => key M15 (fun i hi => by rw [e15, mup_ne _ _ _ hi, e13, mup_ne _ _ _ hi]) (fun j h5 h6 => by rw [e15, mup_eq, if_neg (fun q => h6 q.2), e13, mup_eq, if_neg (fun q => h5 q.2)]) (by rw [e15, mup_eq, if_neg (by omega), e13, mup_eq, if_pos ⟨rfl, rfl⟩]) ?_⟩
  · rw [e13, mup_eq, if_neg (by omega), t6, if_neg (nlt_le.mpr z), Int32.add_zero]
  · rw [e15, mup_eq, if_pos ⟨rfl, rfl⟩, e13, mup_eq, if_neg (by omega), t6, if_pos (nle_lt.mp z)]
end TENX
section TENM
variable {M : Mem} {c : Nat} {f h g y : Int32} {post : Int32 → Mem → Prop}
/-- the model's end of a tenth -/
theorem m_ten_end {x2 x3 : Int32} (k : ∀ M1, (∀ i, i ≠ 58 → M1 i = M i) → (∀ j, M1 58 j = if j = 1 then M 58 1 + 1 else if j = 2 then M 58 2 + (if x3 = 0 then 0 else 1) else M 58 j) → post x2 M1) : j_X6_goesTenth_214 post M x2 x3 := by
  have key : ∀ a, a = (if x3 = 0 then (0 : Int32) else 1) → j_X6_goesTenth_230 post M a (M 58 2) 2 x2 := fun a ea => by
    refine ⟨vl (by decide), fun M2 e2 M3 e3 => ?_⟩
    have e2 : M2 = mup M 58 2 (M 58 2 + a) := e2
    refine k M3 (fun i hi => by rw [e3, mup_ne _ _ _ hi, e2, mup_ne _ _ _ hi]) (fun j => ?_)
    rw [e3, mup_eq]
    by_cases w : j = 1
    · rw [if_pos ⟨rfl, w⟩, if_pos w, e2, mup_eq, if_neg (by omega)]
    · rw [if_neg (fun q => w q.2), if_neg w, e2, mup_eq]
      by_cases w2 : j = 2
      · rw [if_pos ⟨rfl, w2⟩, if_pos w2, ea]
      · rw [if_neg (fun q => w2 q.2), if_neg w2]
  exact ⟨fun z => key _ (by rw [if_pos z]), fun z => key _ (by rw [if_neg z])⟩
theorem m_ten_skip {x2 x3 : Int32} (hz : 0 ≤ M 57 22 ∨ x3 = 0) (k : j_X6_goesTenth_214 post M x2 x3) : j_X6_goesTenth_133 post M x2 x3 := by
  refine ⟨1, fun _ => k, fun _ => ⟨fun _ => k, fun z => ⟨fun _ => k, fun z2 => ?_⟩⟩⟩
  rcases hz with q | q
  · exact absurd q z
  · exact absurd q z2
theorem m_ten_hurt {x2 x3 : Int32} (hc : M 58 0 = nI c) (hb : c ≤ 6) (h22 : ¬ 0 ≤ M 57 22) (h3 : ¬ x3 = 0) (k : ∀ M1, (∀ i, i ≠ 58 → M1 i = M i) → (∀ j, M1 58 j = if 12 ≤ j ∧ j < 12 + 6 * c ∧ (j - 12) % 6 = 3 then huF (M 58 j) (wrB (M 58 (j - 3)) (M 58 (j - 2))) else M 58 j) → j_X6_goesTenth_214 post M1 x2 x3) : j_X6_goesTenth_133 post M x2 x3 := by
  refine pk_loop (fun n i (s : Mem) => lp_X6_goesTenth_136 post n s x2 x3 (nI i)) (fun i s => (∀ j, j ≠ 58 → s j = M j) ∧ ∀ j, s 58 j = if 12 ≤ j ∧ j < 12 + 6 * i ∧ (j - 12) % 6 = 3 then huF (M 58 j) (wrB (M 58 (j - 3)) (M 58 (j - 2))) else M 58 j) c 0 M (by omega) ⟨fun _ _ => rfl, fun j => by rw [if_neg (by omega)]⟩ (fun n s hs => ?_) (fun n i s hi hs kk => ?_)
  · unfold lp_X6_goesTenth_136 b_X6_goesTenth_136
    rw [hs.2 0, if_neg (by omega), hc]
    exact bp (Int32.le_refl _) (k s hs.1 hs.2)
  · obtain ⟨s1, s2⟩ := hs
    unfold lp_X6_goesTenth_136 b_X6_goesTenth_136 j_X6_goesTenth_205
    rw [s2 0, if_neg (by omega), hc, s1 57 (by omega)]
    refine bn (nI_ge hi (by omega)) (bn h22 (bn h3 (m_get i 3 rfl rfl (by omega) (by omega) (m_get i 0 rfl rfl (by omega) (by omega) (m_get i 1 rfl rfl (by omega) (by omega) (m_wearBy ?_))))))
    have a3 : s 58 (12 + 6 * i + 3) = M 58 (12 + 6 * i + 3) := by rw [s2, if_neg (by omega)]
    have a0 : s 58 (12 + 6 * i + 0) = M 58 (12 + 6 * i + 0) := by rw [s2, if_neg (by omega)]
    have a1 : s 58 (12 + 6 * i + 1) = M 58 (12 + 6 * i + 1) := by rw [s2, if_neg (by omega)]
    rw [a3, a0, a1]
    have fin : ∀ u, u = huF (M 58 (12 + 6 * i + 3)) (wrB (M 58 (12 + 6 * i + 0)) (M 58 (12 + 6 * i + 1))) → q_X6_puts s (nI i) 3 u (fun M6 => lp_X6_goesTenth_136 post n M6 x2 x3 (nI i + 1)) := fun u eu => by
      refine m_puts i 3 rfl rfl (by omega) (by omega) ?_
      rw [nI_1]
      refine kk _ ⟨fun j hj => by rw [mup_ne _ _ _ hj, s1 j hj], fun j => ?_⟩
      rw [mup_eq]
      by_cases w : j = 12 + 6 * i + 3
      · rw [if_pos ⟨rfl, w⟩, if_pos (by omega), eu, w, show 12 + 6 * i + 3 - 3 = 12 + 6 * i + 0 by omega, show 12 + 6 * i + 3 - 2 = 12 + 6 * i + 1 by omega]
      · rw [if_neg (fun q => w q.2), s2]
        by_cases w2 : 12 ≤ j ∧ j < 12 + 6 * i ∧ (j - 12) % 6 = 3
        · rw [if_pos w2, if_pos (by omega)]
        · rw [if_neg w2, if_neg (by omega)]
    unfold huF at fin
    exact ⟨fun z => fin _ (by rw [if_pos z]), fun z => fin _ (by rw [if_neg z])⟩
theorem m_tenth (n : LM M f h g) (o : MO (M 58)) (hg : ¬ g = 0) (hc : M 58 0 = nI c) (hb : c ≤ 6) (k : ∀ M1, (∀ i, i ≠ 57 → i ≠ 58 → M1 i = M i) → (∀ j, j ≠ 21 → j ≠ 22 → M1 57 j = M 57 j) → M1 58 = tenS (M 58) c (plF f h g y (M 58 6) (M 58 7) (M 58 1)) (ovF f h y (M 58 6) (M 58 7) (M 58 1)) → M1 57 22 = ptF (M 58) (plF f h g y (M 58 6) (M 58 7) (M 58 1)) c → post (plF f h g y (M 58 6) (M 58 7) (M 58 1)) M1) : q_X6_goesTenth M y post := by
  refine m_pull n o hg (fun M39 e39 => fun M40 e40 => ?_)
  generalize plF f h g y (M 58 6) (M 58 7) (M 58 1) = pv at *
  generalize ovF f h y (M 58 6) (M 58 7) (M 58 1) = ov at *
  have e21 : M39 57 21 = if 0 < ov then 1 else 0 := by rw [e39, mup_eq, if_pos ⟨rfl, rfl⟩]
  rw [e21]
  have q40 : ∀ i, i ≠ 57 → M40 i = M i := fun i hi => by rw [e40, mup_ne _ _ _ hi, e39, mup_ne _ _ _ hi]
  have r40 : ∀ j, j ≠ 21 → j ≠ 22 → M40 57 j = M 57 j := fun j h1 h2 => by rw [e40, mup_eq, if_neg (fun q => h2 q.2), e39, mup_eq, if_neg (fun q => h1 q.2)]
  have z40 : M40 57 22 = -4 := by rw [e40, mup_eq, if_pos ⟨rfl, rfl⟩]
  have jz : ((if 0 < ov then (1 : Int32) else 0) = 0) ↔ ¬ 0 < ov := by
    by_cases w : 0 < ov
    · rw [if_pos w]; exact ⟨fun q => absurd q (by decide), fun q => absurd w q⟩
    · rw [if_neg w]; exact ⟨fun _ => w, fun _ => rfl⟩
  have ja : (if (if 0 < ov then (1 : Int32) else 0) = 0 then (0 : Int32) else 1) = if 0 < ov then 1 else 0 := by
    by_cases w : 0 < ov
    · rw [if_pos w, if_neg (by decide)]
    · rw [if_neg w, if_pos rfl]
  clear e39 e40 e21
  have n4 : ∀ q, q < 6 → ¬ nI q < (0 : Int32) := by decide
  have last : ∀ s : Mem, (∀ i, i ≠ 57 → s i = M i) → (∀ j, j ≠ 22 → s 57 j = M40 57 j) → s 57 22 = ptF (M 58) pv c → j_X6_goesTenth_74 post s pv (if 0 < ov then 1 else 0) := fun s s1 s2 s3 => by
    have s58 : s 58 = M 58 := s1 58 (by omega)
    unfold j_X6_goesTenth_74
    rw [s3]
    by_cases w : fwN (M 58) pv c < c
    · have e7 : ptF (M 58) pv c = nI (fwN (M 58) pv c) := by unfold ptF; rw [if_pos w]
      rw [e7]
      refine bn (n4 _ (by omega)) (m_puts (fwN (M 58) pv c) 4 rfl rfl (by omega) (by omega) ?_)
      generalize hM2 : mup s 58 (12 + 6 * fwN (M 58) pv c + 4) 1 = M2
      have t57 : M2 57 = s 57 := by rw [← hM2, mup_ne _ _ _ (by omega)]
      have t58 : ∀ j, M2 58 j = if j = 12 + 6 * fwN (M 58) pv c + 4 then 1 else M 58 j := fun j => by
        rw [← hM2, mup_eq, s58]
        by_cases q : j = 12 + 6 * fwN (M 58) pv c + 4
        · rw [if_pos ⟨rfl, q⟩, if_pos q]
        · rw [if_neg (fun u => q u.2), if_neg q]
      have to : ∀ i, i ≠ 58 → M2 i = s i := fun i hi => by rw [← hM2, mup_ne _ _ _ hi]
      rw [t57, s3, e7]
      refine m_get (fwN (M 58) pv c) 3 rfl rfl (by omega) (by omega) ?_
      rw [t58, if_neg (by omega)]
      have fin : ∀ u, u = whF (M 58 (12 + 6 * fwN (M 58) pv c + 3)) (stB (M 58 (12 + 6 * fwN (M 58) pv c + 0)) (M 58 (12 + 6 * fwN (M 58) pv c + 1))) pv → j_X6_goesTenth_130 post M2 u 5 (nI (fwN (M 58) pv c)) pv (if 0 < ov then 1 else 0) := fun u eu => by
        refine m_puts (fwN (M 58) pv c) 5 rfl rfl (by omega) (by omega) (m_ten_skip (Or.inl ?_) (m_ten_end (fun M5 f5 g5 => ?_)))
        · rw [mup_ne _ _ _ (by omega), t57, s3, e7]; exact nI_pos' (by omega)
        · refine k M5 (fun i h1 h2 => by rw [f5 i h2, mup_ne _ _ _ h2, to i h2, s1 i h1]) (fun j h1 h2 => by rw [f5 57 (by omega), mup_ne _ _ _ (by omega), t57, s2 j h2, r40 j h1 h2]) ?_ (by rw [f5 57 (by omega), mup_ne _ _ _ (by omega), t57, s3])
          have a : ∀ j, mup M2 58 (12 + 6 * fwN (M 58) pv c + 5) u 58 j = if j = 12 + 6 * fwN (M 58) pv c + 4 then 1 else if j = 12 + 6 * fwN (M 58) pv c + 5 then u else M 58 j := fun j => by
            rw [mup_eq, t58]
            by_cases q : j = 12 + 6 * fwN (M 58) pv c + 5
            · rw [if_pos ⟨rfl, q⟩, if_neg (by omega), if_pos q]
            · rw [if_neg (fun v => q v.2), if_neg q]
          have a1 : mup M2 58 (12 + 6 * fwN (M 58) pv c + 5) u 58 1 = M 58 1 := by rw [a, if_neg (by omega), if_neg (by omega)]
          have a2 : mup M2 58 (12 + 6 * fwN (M 58) pv c + 5) u 58 2 = M 58 2 := by rw [a, if_neg (by omega), if_neg (by omega)]
          funext j
          rw [g5, a1, a2, a j, ja, eu]
          unfold tenS
          rw [if_pos w]
      unfold whF at fin
      refine ⟨fun z => fin _ (by rw [if_pos z]), fun z => ?_⟩
      rw [t57, s3, e7]
      refine m_strengthOf (fwN (M 58) pv c) rfl (by omega) ?_
      rw [t58, t58, if_neg (by omega), if_neg (by omega)]
      exact ⟨fun z2 => fin _ (by rw [if_neg z, if_pos z2]), fun z2 => fin _ (by rw [if_neg z, if_neg z2])⟩
    · have e7 : ptF (M 58) pv c = -4 := by unfold ptF; rw [if_neg w]
      rw [e7]
      refine bp (by decide) ?_
      by_cases z : 0 < ov
      · refine m_ten_hurt (by rw [s58]; exact hc) hb (by rw [s3, e7]; decide) (fun q => (jz.mp q) z) (fun M4 f4 g4 => m_ten_end (fun M5 f5 g5 => ?_))
        refine k M5 (fun i h1 h2 => by rw [f5 i h2, f4 i h2, s1 i h1]) (fun j h1 h2 => by rw [f5 57 (by omega), f4 57 (by omega), s2 j h2, r40 j h1 h2]) ?_ (by rw [f5 57 (by omega), f4 57 (by omega), s3])
        have a1 : M4 58 1 = M 58 1 := by rw [g4, if_neg (by omega), s58]
        have a2 : M4 58 2 = M 58 2 := by rw [g4, if_neg (by omega), s58]
        funext j
        rw [g5, a1, a2, g4 j, ja, s58]
        unfold tenS
        rw [if_neg w]
        simp only [z, true_and]
      · refine m_ten_skip (Or.inr (jz.mpr z)) (m_ten_end (fun M5 f5 g5 => ?_))
        refine k M5 (fun i h1 h2 => by rw [f5 i h2, s1 i h1]) (fun j h1 h2 => by rw [f5 57 (by omega), s2 j h2, r40 j h1 h2]) ?_ (by rw [f5 57 (by omega), s3])
        funext j
        rw [g5, ja, s58]
        unfold tenS
        rw [if_neg w, if_neg (show ¬ (0 < ov ∧ 12 ≤ j ∧ j < 12 + 6 * c ∧ (j - 12) % 6 = 3) from fun q => z q.1)]
  refine pk_loop (fun m i (s : Mem) => lp_X6_goesTenth_26 post m s pv (if 0 < ov then 1 else 0) (nI i)) (fun i s => (∀ j, j ≠ 57 → s j = M j) ∧ (∀ j, j ≠ 22 → s 57 j = M40 57 j) ∧ ((s 57 22 = -4 ∧ fwN (M 58) pv c = fwk (M 58) pv (c - i) i) ∨ (0 ≤ s 57 22 ∧ s 57 22 = ptF (M 58) pv c))) c 0 M40 (by omega) ⟨q40, fun _ _ => rfl, Or.inl ⟨z40, rfl⟩⟩ (fun m s hs => ?_) (fun m i s hi hs kk => ?_)
  · obtain ⟨s1, s2, s3⟩ := hs
    unfold lp_X6_goesTenth_26 b_X6_goesTenth_26
    rw [s1 58 (by omega), hc]
    refine bp (Int32.le_refl _) (last s s1 s2 ?_)
    rcases s3 with ⟨a, b⟩ | ⟨_, b⟩
    · rw [a]; unfold ptF; rw [b, fw_z, if_neg (by omega)]
    · exact b
  · obtain ⟨s1, s2, s3⟩ := hs
    unfold lp_X6_goesTenth_26 b_X6_goesTenth_26 j_X6_goesTenth_68
    rw [s1 58 (by omega), hc]
    refine bn (nI_ge hi (by omega)) ?_
    rcases s3 with ⟨a, b⟩ | ⟨a, b⟩
    · refine bn (by rw [a]; decide) (m_strengthOf i rfl (by omega) (m_get i 3 rfl rfl (by omega) (by omega) ?_))
      rw [s1 58 (by omega)]
      rw [fw_s _ _ hi] at b
      rw [nI_1]
      refine ⟨fun w => ?_, fun w => fun M37 e37 => ?_⟩
      · have : wkB (M 58) pv i = false := by unfold wkB; rw [decide_eq_true w]; rfl
        rw [if_neg (by rw [this]; decide)] at b
        exact kk s ⟨s1, s2, Or.inl ⟨a, b⟩⟩
      · have : wkB (M 58) pv i = true := by unfold wkB; rw [decide_eq_false w]; rfl
        rw [if_pos this] at b
        refine kk M37 ⟨fun j hj => by rw [e37, mup_ne _ _ _ hj, s1 j hj], fun j hj => by rw [e37, mup_eq, if_neg (fun q => hj q.2), s2 j hj], Or.inr ⟨?_, ?_⟩⟩
        · rw [e37, mup_eq, if_pos ⟨rfl, rfl⟩]; exact nI_pos' (by omega)
        · rw [e37, mup_eq, if_pos ⟨rfl, rfl⟩]; unfold ptF; rw [b, if_pos hi]
    · exact bp a (last s s1 s2 b)
end TENM
