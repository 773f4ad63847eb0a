/-! PURE: how a line pulls -/
def rsF (y l t : Int32) : Int32 := if l < 2 * (t - t / l * l) then y * (2 * (l - (t - t / l * l))) / l else y * (2 * (t - t / l * l)) / l
def abF (d : Int32) : Int32 := if 0 ≤ d then d else -d
def apF (f y l t : Int32) : Int32 := abF (rsF y l t - rsF y l (t + f))
def hgF (h v : Int32) : Int32 := h / (4 + v * v)
def bsF (h v : Int32) : Int32 := 2 * v * v + h / 10
def ovF (f h y l v t : Int32) : Int32 := apF f y l t - hgF h v / 4
def poF (h g v o : Int32) : Int32 := if 0 < o then bsF h v + 20 * o / g else bsF h v
def plF (f h g y l v t : Int32) : Int32 := poF h g v (ovF f h y l v t)
def LO (g l v : Int32) : Prop := (∃ G : Nat, G < 2 ^ 31 ∧ g = nI G) ∧ (∃ L : Nat, 4 ≤ L ∧ L ≤ 40 ∧ l = nI L) ∧ ∃ w : Nat, w ≤ 9 ∧ v = nI w
theorem sq9 : ∀ v : Nat, v ≤ 9 → (1 : Int32) < 4 + nI v * nI v ∧ ¬ (4 + nI v * nI v) = 0 := by decide
theorem len40 : ∀ L : Nat, L ≤ 40 → 4 ≤ L → (1 : Int32) < nI L ∧ ¬ nI L = 0 := by decide
theorem gvR_nat {G : Nat} (hg : G < 2 ^ 31) : ∃ N, 1 ≤ N ∧ N ≤ G + 1 ∧ gvR (nI G) = nI N := by
  unfold gvR
  by_cases c : 100 ≤ G
  · rw [if_pos (show (100 : Int32) ≤ nI G from nI_le c hg)]
    exact ⟨G / 100, by omega, by omega, pk_div (d := 100) hg (by decide) (by decide)⟩
  · rw [if_neg (show ¬ (100 : Int32) ≤ nI G from nI_ge (a := G) (b := 100) (by omega) (by decide))]
    exact ⟨1, by omega, by omega, rfl⟩
theorem gvR_eq {G : Nat} (hg : G < 2 ^ 31) : (if (1 : Int32) < nI G / 100 then nI G / 100 else 1) = gvR (nI G) := by
  have e : nI G / 100 = nI (G / 100) := pk_div (d := 100) hg (by decide) (by decide)
  unfold gvR
  rw [e]
  by_cases c : 100 ≤ G
  · rw [if_pos (show (100 : Int32) ≤ nI G from nI_le c hg)]
    by_cases c2 : 1 < G / 100
    · rw [if_pos (show (1 : Int32) < nI (G / 100) from nI_lt c2 (by omega))]
    · rw [if_neg (show ¬ (1 : Int32) < nI (G / 100) from nI_nlt (a := 1) (b := G / 100) (by omega) (by decide))]
      rw [show G / 100 = 1 by omega]; rfl
  · rw [if_neg (show ¬ (100 : Int32) ≤ nI G from nI_ge (a := G) (b := 100) (by omega) (by decide)), if_neg (show ¬ (1 : Int32) < nI (G / 100) from nI_nlt (a := 1) (b := G / 100) (by omega) (by decide))]
theorem gvR_ne {g : Int32} (h : ∃ G : Nat, G < 2 ^ 31 ∧ g = nI G) : ¬ gvR g = 0 := by
  obtain ⟨G, hG, rfl⟩ := h
  obtain ⟨N, h1, h2, e⟩ := gvR_nat hG
  rw [e]
  by_cases hN : N < 2 ^ 31
  · exact nI_ne0 h1 hN
  · have : N = 2 ^ 31 := by omega
    subst this
    decide
section LCL
variable {M : Mem} {f h g y l v t : Int32} {post : Int32 → Mem → Prop}
theorem l_hang (n : LN M f h g y l v) (o : ∃ w : Nat, w ≤ 9 ∧ v = nI w) (k : post (hgF h v) M) : q_X0_hang M post := by
  obtain ⟨w, hw, rfl⟩ := o
  obtain ⟨a, b⟩ := sq9 w hw
  unfold q_X0_hang
  rw [n.2.2.2.2.2, n.2.1, if_pos a]
  exact ⟨b, k⟩
theorem l_base (n : LN M f h g y l v) (k : post (bsF h v) M) : q_X0_base M post := by
  unfold q_X0_base
  rw [n.2.2.2.2.2, n.2.1]
  exact k
theorem l_give (n : LN M f h g y l v) (o : LO g l v) (k : post (gvR g) M) : q_X0_giveOfAll M post := by
  obtain ⟨⟨G, hG, rfl⟩, -, -⟩ := o
  unfold q_X0_giveOfAll
  rw [n.2.2.1, gvR_eq hG]
  exact k
theorem l_rise (n : LN M f h g y l v) (o : LO g l v) (k : post (rsF y l t) M) : q_X0_riseAt M t post := by
  obtain ⟨-, ⟨L, h1, h2, rfl⟩, -⟩ := o
  obtain ⟨a, b⟩ := len40 L h2 h1
  unfold q_X0_riseAt j_X0_riseAt_31
  intro v1 e1
  rw [n.2.2.2.2.1, if_pos a] at e1
  subst e1
  unfold rsF at k
  rw [n.2.2.2.1]
  refine ⟨b, fun c => ⟨b, ?_⟩, fun c => ⟨b, ?_⟩⟩
  · rw [if_pos c] at k; exact k
  · rw [if_neg c] at k; exact k
theorem l_apart (n : LN M f h g y l v) (o : LO g l v) (k : post (apF f y l t) M) : q_X0_apartAt M t post := by
  unfold q_X0_apartAt
  refine l_rise n o ?_
  rw [n.1]
  refine l_rise n o ?_
  unfold apF abF at k
  rw [Int32.zero_sub]
  exact k
theorem l_slack (n : LN M f h g y l v) (o : LO g l v) (k : post (hgF h v / 4) M) : q_X0_slack M post := l_hang n o.2.2 k
theorem l_over (n : LN M f h g y l v) (o : LO g l v) (k : post (ovF f h y l v t) M) : q_X0_overAt M t post := l_apart n o (l_slack n o k)
theorem l_pullOver (n : LN M f h g y l v) (o : LO g l v) (k : post (poF h (gvR g) v t) M) : q_X0_pullOver M t post := by
  unfold q_X0_pullOver j_X0_pullOver_25
  unfold poF at k
  refine ⟨fun c => l_base n (l_give n o ⟨gvR_ne o.1, ?_⟩), fun c => l_base n ?_⟩
  · rw [if_pos c] at k; exact k
  · rw [if_neg c] at k; exact k
theorem l_pull (n : LN M f h g y l v) (o : LO g l v) (k : post (plF f h (gvR g) y l v t) M) : q_X0_pullAt M t post := l_over n o (l_pullOver n o k)
end LCL
section LMD
variable {M : Mem} {f h g y t : Int32} {post : Int32 → Mem → Prop}
def MO (S : Nat → Int32) : Prop := (∃ L : Nat, 4 ≤ L ∧ L ≤ 40 ∧ S 6 = nI L) ∧ ∃ w : Nat, w ≤ 9 ∧ S 7 = nI w
theorem m_hang (n : LM M f h g) (o : MO (M 58)) (k : post (hgF h (M 58 7)) M) : q_X6_hang M post := by
  obtain ⟨-, w, hw, e⟩ := o
  obtain ⟨a, b⟩ := sq9 w hw
  unfold q_X6_hang
  unfold hgF at k
  rw [e] at k ⊢
  rw [n.2.1]
  exact ⟨b, k⟩
theorem m_base (n : LM M f h g) (k : post (bsF h (M 58 7)) M) : q_X6_baseOf M post := by
  unfold q_X6_baseOf
  rw [n.2.1]
  exact k
theorem m_rise (o : MO (M 58)) (k : post (rsF y (M 58 6) t) M) : q_X6_rise M t y post := by
  obtain ⟨⟨L, h1, h2, e⟩, -⟩ := o
  obtain ⟨a, b⟩ := len40 L h2 h1
  unfold q_X6_rise j_X6_rise_40
  unfold rsF at k
  rw [e] at k ⊢
  refine ⟨b, fun c => ⟨b, ?_⟩, fun c => ⟨b, ?_⟩⟩
  · rw [if_pos c] at k; exact k
  · rw [if_neg c] at k; exact k
theorem m_amount {x : Int32} (k : post (abF x) M) : q_X6_amount M x post := by
  unfold q_X6_amount j_X6_amount_10
  unfold abF at k
  refine ⟨fun c => ?_, fun c => ?_⟩
  · rw [if_pos c] at k; exact k
  · rw [if_neg c] at k; exact k
theorem m_apart (n : LM M f h g) (o : MO (M 58)) (k : post (apF f y (M 58 6) t) M) : q_X6_apartAt M t y post := by
  unfold q_X6_apartAt
  refine m_rise o ?_
  rw [n.1]
  exact m_rise o (m_amount k)
theorem m_pull (n : LM M f h g) (o : MO (M 58)) (hg : ¬ g = 0) (k : ∀ M1, M1 = mup M 57 21 (if 0 < ovF f h y (M 58 6) (M 58 7) t then 1 else 0) → post (plF f h g y (M 58 6) (M 58 7) t) M1) : q_X6_pullAt M t y post := by
  unfold q_X6_pullAt
  refine m_apart n o (m_hang n o ?_)
  unfold j_X6_pullAt_24 j_X6_pullAt_51 q_X6_baseOf
  unfold plF poF at k
  unfold ovF at k
  refine ⟨fun c => ⟨Or.inl rfl, fun M1 e1 => ?_⟩, fun c => ⟨Or.inr rfl, fun M1 e1 => ?_⟩⟩
  · have hn := nlt_le.mpr c
    rw [if_neg hn, if_neg hn] at k
    have e2 : M1 57 21 = 0 := by rw [e1, mup_eq, if_pos ⟨rfl, rfl⟩]
    have e3 : M1 58 = M 58 := by rw [e1, mup_ne _ _ _ (by omega)]
    have e4 : M1 57 19 = h := by rw [e1, mup_eq, if_neg (by omega)]; exact n.2.1
    refine bp e2 ?_
    rw [e3, e4, Int32.add_zero]
    exact k M1 e1
  · have hn := nle_lt.mp c
    rw [if_pos hn, if_pos hn] at k
    have e2 : M1 57 21 = 1 := by rw [e1, mup_eq, if_pos ⟨rfl, rfl⟩]
    have e3 : M1 58 = M 58 := by rw [e1, mup_ne _ _ _ (by omega)]
    have e4 : M1 57 19 = h := by rw [e1, mup_eq, if_neg (by omega)]; exact n.2.1
    have e5 : M1 57 20 = g := by rw [e1, mup_eq, if_neg (by omega)]; exact n.2.2
    refine bn (by rw [e2]; decide) ?_
    rw [e3, e4, e5]
    exact ⟨hg, k M1 e1⟩
/-- as much of it as most ask -/
theorem m_pullK (n : LM M f h g) (o : MO (M 58)) (hg : ¬ g = 0) (k : ∀ M1, Kq M M1 → LM M1 f h g → M1 57 22 = M 57 22 → M1 57 23 = M 57 23 → post (plF f h g y (M 58 6) (M 58 7) t) M1) : q_X6_pullAt M t y post := by
  refine m_pull n o hg (fun M1 e1 => ?_)
  subst e1
  refine k _ (Kq.up (by omega)) ⟨?_, ?_, ?_⟩ ?_ ?_
  all_goals rw [mup_eq, if_neg (by omega)]
  · exact n.1
  · exact n.2.1
  · exact n.2.2
end LMD
-- numbers
theorem nsub {a b : Nat} (h : b ≤ a) : nI a - nI b = nI (a - b) := by
  have e := nI_add (a - b) b
  rw [show a - b + b = a by omega] at e
  rw [← e]
  grind
def PB (S : Nat → Int32) (F p : Nat) : Prop := ∃ kd fg fa : Nat, kd ≤ 7 ∧ fg ≤ 9 ∧ fa ≤ F ∧ S (12 + 6 * p + 0) = nI kd ∧ S (12 + 6 * p + 1) = nI fg ∧ S (12 + 6 * p + 2) = nI fa
theorem hf_nat : ∀ k, k ≤ 7 → ∀ f, f ≤ 9 → ∃ n, n ≤ 15 ∧ hfB (nI k) (nI f) = nI n := by decide
theorem gv_nat : ∀ k, k ≤ 7 → ∀ f, f ≤ 9 → ∃ n, n ≤ 49 ∧ gvB (nI k) (nI f) = nI n := by decide
theorem sB_nat {b : Nat → Bool} {g : Nat → Int32} {B : Nat} : ∀ {n : Nat}, (∀ p, p < n → ∃ N, N ≤ B ∧ g p = nI N) → ∃ N, N ≤ n * B ∧ sB b g n = nI N
  | 0, _ => ⟨0, by omega, rfl⟩
  | n + 1, h => by
    obtain ⟨N, h1, e1⟩ := sB_nat (b := b) (n := n) (fun p hp => h p (by omega))
    obtain ⟨N2, h2, e2⟩ := h n (by omega)
    unfold sB
    rw [Nat.succ_mul]
    by_cases c : b n
    · rw [if_pos c, e1, e2, nI_add]; exact ⟨N + N2, by omega, rfl⟩
    · rw [if_neg c, e1]; exact ⟨N, by omega, rfl⟩
theorem sF_nat {S : Nat → Int32} {b : Nat → Bool} {c F : Nat} (h : ∀ p, p < c → PB S F p) : ∃ N, N ≤ c * F ∧ sF S b c = nI N :=
  sB_nat (fun p hp => by obtain ⟨kd, fg, fa, h1, h2, h3, e1, e2, e3⟩ := h p hp; exact ⟨fa, h3, e3⟩)
theorem sH_nat {S : Nat → Int32} {b : Nat → Bool} {c F : Nat} (h : ∀ p, p < c → PB S F p) : ∃ N, N ≤ c * (F * 15) ∧ sH S b c = nI N :=
  sB_nat (fun p hp => by
    obtain ⟨kd, fg, fa, h1, h2, h3, e1, e2, e3⟩ := h p hp
    obtain ⟨n, hn, e⟩ := hf_nat kd h1 fg h2
    rw [e1, e2, e3, e, pk_mul]
    exact ⟨fa * n, Nat.mul_le_mul h3 hn, rfl⟩)
theorem sG_nat {S : Nat → Int32} {b : Nat → Bool} {c F : Nat} (h : ∀ p, p < c → PB S F p) : ∃ N, N ≤ c * (F * 49) ∧ sG S b c = nI N :=
  sB_nat (fun p hp => by
    obtain ⟨kd, fg, fa, h1, h2, h3, e1, e2, e3⟩ := h p hp
    obtain ⟨n, hn, e⟩ := gv_nat kd h1 fg h2
    rw [e1, e2, e3, e, pk_mul]
    exact ⟨fa * n, Nat.mul_le_mul h3 hn, rfl⟩)
theorem SI.pb {S : Nat → Int32} {c : Nat} (h : SI S c) : ∀ p, p < c → PB S 99 p := fun p hp => by
  obtain ⟨kd, fg, fa, hu, h1, h2, h3, h4, h5, e1, e2, e3, e4⟩ := h.2.2.2 p hp
  exact ⟨kd, fg, fa, h1, h2, h4, e1, e2, e3⟩
theorem SI.mo {S : Nat → Int32} {c : Nat} (h : SI S c) : MO S := by
  obtain ⟨L, a1, a2, a3⟩ := h.2.2.1 1 (by omega)
  obtain ⟨w, b1, b2, b3⟩ := h.2.2.1 2 (by omega)
  exact ⟨⟨L, a1, a2, a3⟩, w, b2, b3⟩
theorem SI.lo {S : Nat → Int32} {c : Nat} (h : SI S c) (b : Nat → Bool) : LO (sG S b c) (S 6) (S 7) := by
  obtain ⟨N, h1, e⟩ := sG_nat (b := b) h.pb
  have := h.1
  have h2 : c * (99 * 49) ≤ 6 * (99 * 49) := Nat.mul_le_mul_right _ this
  exact ⟨⟨N, by omega, e⟩, h.mo.1, h.mo.2⟩
def rsN (Y L T : Nat) : Nat := if L < 2 * (T % L) then Y * (2 * (L - T % L)) / L else Y * (2 * (T % L)) / L
theorem rsN_le {Y L T : Nat} (hL : 0 < L) : rsN Y L T ≤ Y := by
  have h := Nat.mod_lt T hL
  unfold rsN
  split
  · apply Nat.div_le_of_le_mul
    rw [Nat.mul_comm L]
    exact Nat.mul_le_mul_left _ (by omega)
  · apply Nat.div_le_of_le_mul
    rw [Nat.mul_comm L]
    exact Nat.mul_le_mul_left _ (by omega)
theorem rsF_nat {Y L T : Nat} (hY : Y ≤ 60) (h4 : 4 ≤ L) (hL : L ≤ 40) (hT : T < 2 ^ 31) : rsF (nI Y) (nI L) (nI T) = nI (rsN Y L T) := by
  have h := Nat.mod_lt T (show 0 < L by omega)
  have e : nI T - nI T / nI L * nI L = nI (T % L) := pk_rem hT (by omega) (by omega)
  have b1 : Y * (2 * (L - T % L)) ≤ 60 * 80 := Nat.mul_le_mul hY (by omega)
  have b2 : Y * (2 * (T % L)) ≤ 60 * 80 := Nat.mul_le_mul hY (by omega)
  unfold rsF rsN
  rw [e, show (2 : Int32) = nI 2 from rfl, pk_mul]
  by_cases c : L < 2 * (T % L)
  · rw [if_pos (nI_lt c (by omega)), if_pos c, nsub (by omega), pk_mul, pk_mul, pk_div (by omega) (by omega) (by omega)]
  · rw [if_neg (nI_nlt (by omega) (by omega)), if_neg c, pk_mul, pk_div (by omega) (by omega) (by omega)]
theorem apF_nat {Y L T F : Nat} (hY : Y ≤ 60) (h4 : 4 ≤ L) (hL : L ≤ 40) (hT : T + F < 2 ^ 31) : ∃ N, N ≤ 60 ∧ apF (nI F) (nI Y) (nI L) (nI T) = nI N := by
  have a := rsN_le (Y := Y) (T := T) (show 0 < L by omega)
  have b := rsN_le (Y := Y) (T := T + F) (show 0 < L by omega)
  unfold apF abF
  rw [nI_add, rsF_nat hY h4 hL (by omega), rsF_nat hY h4 hL hT]
  generalize rsN Y L T = A at *
  generalize rsN Y L (T + F) = B at *
  by_cases c : B ≤ A
  · rw [nsub c, if_pos (nI_pos' (by omega))]
    exact ⟨A - B, by omega, rfl⟩
  · have h1 := pk_sneg (a := A) (b := B) (by omega) (by omega)
    rw [if_neg (nle_lt.mpr h1)]
    refine ⟨B - A, by omega, ?_⟩
    rw [← nsub (show A ≤ B by omega)]
    grind
theorem hgF_nat {H w : Nat} (hH : H < 2 ^ 31) (hw : w ≤ 9) : hgF (nI H) (nI w) = nI (H / (4 + w * w)) := by
  have : w * w ≤ 9 * 9 := Nat.mul_le_mul hw hw
  unfold hgF
  rw [pk_mul, show (4 : Int32) = nI 4 from rfl, nI_add, pk_div hH (by omega) (by omega)]
theorem bsF_nat {H w : Nat} (hH : H < 2 ^ 31) (hw : w ≤ 9) : bsF (nI H) (nI w) = nI (2 * w * w + H / 10) := by
  unfold bsF
  rw [show (2 : Int32) = nI 2 from rfl, pk_mul, pk_mul, show (10 : Int32) = nI 10 from rfl, pk_div hH (by omega) (by omega), nI_add]
/-- a pull is never below 0 -/
theorem plF_nat {F H G Y L w T : Nat} (hF : F ≤ 100000) (hH : H ≤ 1000000) (hG1 : 1 ≤ G) (hG : G ≤ 1000000) (hY : Y ≤ 60) (h4 : 4 ≤ L) (hL : L ≤ 40) (hw : w ≤ 9) (hT : T ≤ 100000) : ∃ N, N ≤ 200000 ∧ plF (nI F) (nI H) (nI G) (nI Y) (nI L) (nI w) (nI T) = nI N := by
  obtain ⟨A, hA, eA⟩ := apF_nat (F := F) (T := T) hY h4 hL (by omega)
  have h81 : w * w ≤ 9 * 9 := Nat.mul_le_mul hw hw
  have e2 : 2 * w * w = 2 * (w * w) := by rw [Nat.mul_assoc]
  have h1 : 2 * w * w ≤ 162 := by omega
  have hq : H / 10 ≤ 100000 := by omega
  unfold plF poF ovF
  rw [eA, hgF_nat (by omega) hw, show (4 : Int32) = nI 4 from rfl, pk_div (by have := Nat.div_le_self H (4 + w * w); omega) (by omega) (by omega), bsF_nat (by omega) hw]
  have hQ := Nat.div_le_self (H / (4 + w * w)) 4
  have hQ2 := Nat.div_le_self H (4 + w * w)
  generalize H / (4 + w * w) / 4 = Q at *
  by_cases c : Q < A
  · rw [nsub (by omega), if_pos (show (0 : Int32) < nI (A - Q) from nI_lt (a := 0) (by omega) (by omega)), show (20 : Int32) = nI 20 from rfl, pk_mul, pk_div (by omega) (by omega) (by omega), nI_add]
    have := Nat.div_le_self (20 * (A - Q)) G
    exact ⟨_, by omega, rfl⟩
  · have hn : ¬ (0 : Int32) < nI A - nI Q := by
      rw [nlt_le]
      by_cases c2 : A = Q
      · rw [c2, nsub (Nat.le_refl _), Nat.sub_self]; exact Int32.le_refl _
      · have := pk_sneg (a := A) (b := Q) (by omega) (by omega)
        rw [Int32.lt_iff_toInt_lt] at this
        rw [Int32.le_iff_toInt_le]
        omega
    rw [if_neg hn]
    exact ⟨_, by omega, rfl⟩
