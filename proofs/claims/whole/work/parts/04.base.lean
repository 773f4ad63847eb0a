/-! THE POOL: 69 cells that the two systems are made of, by numbers; their ints by number and place -/
abbrev Mem : Type := Nat → Nat → Int32
abbrev GG : Type := va_G × (ClassId × ClassId × ClassId) × (Nat → Nat) × (Nat → Nat) × (Nat → Nat) × Nat × Nat × Nat
abbrev gD (G : GG) : va_G := G.1
abbrev gI (G : GG) : ClassId := G.2.1.1
abbrev gP (G : GG) : ClassId := G.2.1.2.1
abbrev gS (G : GG) : ClassId := G.2.1.2.2
abbrev ga (G : GG) : Nat → Nat := G.2.2.1
abbrev gK (G : GG) : Nat → Nat := G.2.2.2.1
abbrev gV (G : GG) : Nat → Nat := G.2.2.2.2.1
abbrev gz (G : GG) : Nat := G.2.2.2.2.2.1
abbrev gL (G : GG) : Nat := G.2.2.2.2.2.2.1
abbrev gM (G : GG) : Nat := G.2.2.2.2.2.2.2
def lenA (i : Nat) : Nat := if i < 62 then 54 else if i < 65 then 8 else if i < 66 then 800 else if i < 68 then 8 else 3
def pE (G : GG) (r : Nat → Int32) (i : Nat) : va_E :=
  if i < 1 then .inr (5, [.ref (ga G 1), .ref (ga G 2), .ref (ga G 3), .ref (ga G 4), .ref (ga G 56), .ref (ga G 5), .ref (ga G 6), .int (r 7)])
  else if i < 4 then .inr (4, [.ref (ga G (7 + i)), .int (r 1), .ref (ga G (10 + i)), .int (r 3), .int (r 4), .int (r 5), .int (r 6), .int (r 7), .int (r 8)])
  else if i < 5 then .inr (0, [.int (r 0), .int (r 1), .int (r 2), .int (r 3), .int (r 4), .int (r 5)])
  else if i < 6 then .inr (2, [.int (r 0), .ref (ga G 7), .int (r 2)])
  else if i < 7 then .inl (gS G, 8, .inr (.inr (.inr (.inr (fun k => some (ga G (14 + k)))))))
  else if i < 8 then .inl (gI G, 3, .inl r)
  else if i < 11 then .inl (gP G, 6, .inr (.inr (.inr (.inr (fun k => some (ga G (6 * i + k - 10)))))))
  else if i < 14 then .inl (gI G, 7, .inl r)
  else if i < 22 then .inr (3, [.int (r 0), .ref (ga G (16 + i)), .int (r 2), .int (r 3), .ref (ga G (8 + i))])
  else if i < 30 then .inl (gI G, 100, .inl r)
  else if i < 57 then .inr (1, [.int (r 0), .int (r 1), .int (r 2), .int (r 3), .int (r 4), .int (r 5), .int (r 6), .int (r 7), .int (r 8)])
  else if i < 58 then .inr (6, [.ref (ga G 58), .ref (ga G 59), .ref (ga G 60), .ref (ga G 61), .ref (ga G 62), .ref (ga G 63), .ref (ga G 64), .ref (ga G 65), .ref (ga G 66), .ref (ga G 67), .int (r 10), .int (r 11), .int (r 12), .int (r 13), .int (r 14), .int (r 15), .int (r 16), .ref (ga G 68), .int (r 18), .int (r 19), .int (r 20), .int (r 21), .int (r 22), .int (r 23)])
  else .inl (gI G, lenA i, .inl r)
theorem pE_5 {G : GG} {r : Nat → Int32} : pE G r 0 = .inr (5, [.ref (ga G 1), .ref (ga G 2), .ref (ga G 3), .ref (ga G 4), .ref (ga G 56), .ref (ga G 5), .ref (ga G 6), .int (r 7)]) := rfl
theorem pE_4 {G : GG} {r : Nat → Int32} {i : Nat} (h : 1 ≤ i ∧ i < 4) : pE G r i = .inr (4, [.ref (ga G (7 + i)), .int (r 1), .ref (ga G (10 + i)), .int (r 3), .int (r 4), .int (r 5), .int (r 6), .int (r 7), .int (r 8)]) := by
  rw [pE, if_neg (by omega), if_pos (by omega)]
theorem pE_0 {G : GG} {r : Nat → Int32} : pE G r 4 = .inr (0, [.int (r 0), .int (r 1), .int (r 2), .int (r 3), .int (r 4), .int (r 5)]) := rfl
theorem pE_2 {G : GG} {r : Nat → Int32} : pE G r 5 = .inr (2, [.int (r 0), .ref (ga G 7), .int (r 2)]) := rfl
theorem pE_sh {G : GG} {r : Nat → Int32} : pE G r 6 = .inl (gS G, 8, .inr (.inr (.inr (.inr (fun k => some (ga G (14 + k))))))) := rfl
theorem pE_nu {G : GG} {r : Nat → Int32} : pE G r 7 = .inl (gI G, 3, .inl r) := rfl
theorem pE_ps {G : GG} {r : Nat → Int32} {i : Nat} (h : 8 ≤ i ∧ i < 11) : pE G r i = .inl (gP G, 6, .inr (.inr (.inr (.inr (fun k => some (ga G (6 * i + k - 10))))))) := by
  rw [pE, if_neg (by omega), if_neg (by omega), if_neg (by omega), if_neg (by omega), if_neg (by omega), if_neg (by omega), if_pos (by omega)]
theorem pE_st {G : GG} {r : Nat → Int32} {i : Nat} (h : 11 ≤ i ∧ i < 14) : pE G r i = .inl (gI G, 7, .inl r) := by
  rw [pE, if_neg (by omega), if_neg (by omega), if_neg (by omega), if_neg (by omega), if_neg (by omega), if_neg (by omega), if_neg (by omega), if_pos (by omega)]
theorem pE_3 {G : GG} {r : Nat → Int32} {i : Nat} (h : 14 ≤ i ∧ i < 22) : pE G r i = .inr (3, [.int (r 0), .ref (ga G (16 + i)), .int (r 2), .int (r 3), .ref (ga G (8 + i))]) := by
  rw [pE, if_neg (by omega), if_neg (by omega), if_neg (by omega), if_neg (by omega), if_neg (by omega), if_neg (by omega), if_neg (by omega), if_neg (by omega), if_pos (by omega)]
theorem pE_el {G : GG} {r : Nat → Int32} {i : Nat} (h : 22 ≤ i ∧ i < 30) : pE G r i = .inl (gI G, 100, .inl r) := by
  rw [pE, if_neg (by omega), if_neg (by omega), if_neg (by omega), if_neg (by omega), if_neg (by omega), if_neg (by omega), if_neg (by omega), if_neg (by omega), if_neg (by omega), if_pos (by omega)]
theorem pE_1 {G : GG} {r : Nat → Int32} {i : Nat} (h : 30 ≤ i ∧ i < 57) : pE G r i = .inr (1, [.int (r 0), .int (r 1), .int (r 2), .int (r 3), .int (r 4), .int (r 5), .int (r 6), .int (r 7), .int (r 8)]) := by
  rw [pE, if_neg (by omega), if_neg (by omega), if_neg (by omega), if_neg (by omega), if_neg (by omega), if_neg (by omega), if_neg (by omega), if_neg (by omega), if_neg (by omega), if_neg (by omega), if_pos (by omega)]
theorem pE_6 {G : GG} {r : Nat → Int32} : pE G r 57 = .inr (6, [.ref (ga G 58), .ref (ga G 59), .ref (ga G 60), .ref (ga G 61), .ref (ga G 62), .ref (ga G 63), .ref (ga G 64), .ref (ga G 65), .ref (ga G 66), .ref (ga G 67), .int (r 10), .int (r 11), .int (r 12), .int (r 13), .int (r 14), .int (r 15), .int (r 16), .ref (ga G 68), .int (r 18), .int (r 19), .int (r 20), .int (r 21), .int (r 22), .int (r 23)]) := rfl
theorem pE_ar {G : GG} {r : Nat → Int32} {i : Nat} (h : 58 ≤ i ∧ i < 69) : pE G r i = .inl (gI G, lenA i, .inl r) := by
  rw [pE, if_neg (by omega), if_neg (by omega), if_neg (by omega), if_neg (by omega), if_neg (by omega), if_neg (by omega), if_neg (by omega), if_neg (by omega), if_neg (by omega), if_neg (by omega), if_neg (by omega), if_neg (by omega)]
def wl (G : GG) (M : Mem) : va_W := (List.range 69).map (fun i => (ga G i, pE G (M i) i))
def mup (M : Mem) (i k : Nat) (v : Int32) : Mem := va_up M i (upd (M i) k v)
theorem mup_at (M : Mem) (i k : Nat) (v : Int32) : mup M i k v i = upd (M i) k v := va_up_self _ _ _
theorem mup_ne (M : Mem) {i j : Nat} (k : Nat) (v : Int32) (h : j ≠ i) : mup M i k v j = M j := va_up_ne _ _ h
theorem mup_eq (M : Mem) (i k : Nat) (v : Int32) (j q : Nat) : mup M i k v j q = if j = i ∧ q = k then v else M j q := by
  by_cases h : j = i
  · subst h; rw [mup_at]; unfold upd; by_cases h2 : q = k <;> simp [h2]
  · rw [mup_ne _ _ _ h]; simp [h]
theorem wl_get {G : GG} {M : Mem} {i : Nat} (h : i < 69) {e : va_E} (he : pE G (M i) i = e) : (wl G M)[i]? = some (ga G i, e) := by
  subst he
  rw [wl, List.getElem?_map, List.getElem?_range h]
  rfl
theorem wl_set {G : GG} {M : Mem} {i : Nat} (h : i < 69) {r : Nat → Int32} {e : va_E} (he : pE G r i = e) : (wl G M).set i (ga G i, e) = wl G (va_up M i r) := by
  subst he
  apply List.ext_getElem?
  intro j
  rw [List.getElem?_set]
  by_cases hj : i = j
  · subst hj
    rw [if_pos rfl, if_pos (by simp [wl, h]), wl_get h rfl, va_up_self]
  · rw [if_neg hj]
    by_cases h9 : j < 69
    · rw [wl_get h9 rfl, wl_get h9 rfl, va_up_ne _ _ (Ne.symm hj)]
    · rw [List.getElem?_eq_none (by simp [wl]; omega), List.getElem?_eq_none (by simp [wl]; omega)]
/-- the addresses are apart, and all new -/
def Ag (G : GG) : Prop := (∀ i j, i < 69 → j < 69 → ga G i = ga G j → i = j) ∧ ∀ i, i < 69 → gz G ≤ ga G i
def Af (G : GG) (sz : Nat) : Nat → Prop := fun q => (∃ i, i < 69 ∧ q = ga G i) ∨ sz ≤ q
def Zf (G : GG) : Nat → Prop := fun q => gz G ≤ q
theorem Af_Zf {G : GG} {sz : Nat} (hG : Ag G) (hz : gz G ≤ sz) : ∀ q, Af G sz q → Zf G q := by
  intro q h
  rcases h with ⟨i, hi, rfl⟩ | h
  · exact hG.2 i hi
  · exact Nat.le_trans hz h
theorem wl_inv {G : GG} {M : Mem} {i : Nat} {q : Nat × va_E} (h : (wl G M)[i]? = some q) : i < 69 ∧ q = (ga G i, pE G (M i) i) := by
  by_cases h9 : i < 69
  · rw [wl_get h9 rfl] at h
    exact ⟨h9, (Option.some.inj h).symm⟩
  · rw [List.getElem?_eq_none (by simp [wl]; omega)] at h
    cases h
theorem wl_D {G : GG} {M : Mem} {sz : Nat} (hG : Ag G) : va_D (Af G sz) (wl G M) := by
  refine ⟨fun i j p q hp hq e => ?_, fun k q hk => ?_⟩
  · obtain ⟨h1, rfl⟩ := wl_inv hp
    obtain ⟨h2, rfl⟩ := wl_inv hq
    exact hG.1 i j h1 h2 e
  · obtain ⟨h1, rfl⟩ := wl_inv hk
    exact Or.inl ⟨k, h1, rfl⟩
abbrev tyA (G : GG) : List (ClassId × FieldType) := [(gI G, .int), (gP G, .object RX1), (gS G, .object RX3)]
def leastT (j : Nat) : Int32 := ([0, 4, 0, 1, 0, 0, 0] : List Int32).getD j 0
def mostT (j : Nat) : Int32 := ([60, 40, 9, 999, 9, 9, 9] : List Int32).getD j 0
def sIdx (i : Nat) : Nat := 39 + 2 * i
def sTx (i : Nat) : String := (["DDN;", "N N;", "D;", "N;", "DDD;", "SN;", ""] : List String).getD i ""
def sByt : List (List Int32) := [[68, 68, 78, 59], [78, 32, 78, 59], [68, 59], [78, 59], [68, 68, 68, 59], [83, 78, 59], []]
def sLen : List Nat := [4, 4, 2, 2, 4, 3, 0]
def nestA_0 : List Cond := [.fieldLinkNest RX4 21 RX5 "FIRST_SET" "[I" RX5, .fieldLinkNest RX5 74 RX1 "kind" "I" RX5, .fieldLinkNest RX5 81 RX1 "figure" "I" RX5, .fieldLinkNest RX5 78 RX1 "fathoms" "I" RX5, .fieldLinkNest RX5 96 RX1 "hurt" "I" RX5, .fieldLinkNest RX4 98 RX1 "hurt" "I" RX5, .fieldLinkNest RX0 36 RX1 "heft" "I" RX5, .fieldLinkNest RX5 84 RX1 "heft" "I" RX5, .fieldLinkNest RX0 39 RX1 "give" "I" RX5, .fieldLinkNest RX5 87 RX1 "give" "I" RX5, .fieldLinkNest RX5 90 RX1 "strength" "I" RX5, .fieldLinkNest RX4 95 RX1 "strength" "I" RX5, .fieldLinkNest RX5 93 RX1 "wear" "I" RX5, .fieldLinkNest RX5 70 RX4 "pieces" "[LTowThatJerks$Piece;" RX5, .fieldLinkNest RX5 162 RX4 "count" "I" RX5, .fieldLinkNest RX0 30 RX4 "settings" "[I" RX5, .fieldLinkNest RX5 106 RX4 "settings" "[I" RX5, .fieldLinkNest RX2 98 RX4 "angle" "I" RX5, .fieldLinkNest RX5 190 RX4 "angle" "I" RX5, .fieldLinkNest RX5 193 RX4 "swing" "I" RX5, .fieldLinkNest RX5 241 RX4 "number" "I" RX5, .fieldLinkNest RX5 244 RX4 "jerks" "I" RX5, .fieldLinkNest RX5 99 RX4 "parted" "I" RX5]
def nestA_1 : List Cond := [.fieldLinkNest RX5 222 RX4 "partingPull" "I" RX5, .fieldLinkNest RX5 114 RX0 "fathoms" "I" RX5, .fieldLinkNest RX5 115 RX0 "heft" "I" RX5, .fieldLinkNest RX5 326 RX0 "height" "I" RX5, .fieldLinkNest RX5 205 RX0 "length" "I" RX5, .fieldLinkNest RX5 155 RX0 "pace" "I" RX5, .fieldLinkNest RX5 282 RX3 "holding" "I" RX5, .fieldLinkNest RX5 300 RX3 "piece" "LTowThatJerks$Piece;" RX5, .fieldLinkNest RX5 285 RX3 "sort" "I" RX5, .fieldLinkNest RX2 22 RX3 "size" "I" RX5, .fieldLinkNest RX5 235 RX3 "size" "I" RX5, .fieldLinkNest RX5 238 RX3 "elements" "[I" RX5, .fieldLinkNest RX4 70 RX5 "LEAST_SET" "[I" RX5, .fieldLinkNest RX4 73 RX5 "MOST_SET" "[I" RX5, .methodLinkNest RX5 9 yX4_init RX5, .methodLinkNest RX4 51 yX1_init RX5, .methodLinkNest RX5 24 yX0_init RX5, .methodLinkNest RX5 31 yX1_init RX5, .methodLinkNest RX5 38 yX2_init RX5, .methodLinkNest RX5 53 yX3_init RX5, .methodLinkNest RX3 17 yX1_init RX5, .methodLinkNest RX5 58 yX4_become RX5, .methodLinkNest RX4 52 yX1_become RX5]
def nestA_2 : List Cond := [.methodLinkNest RX5 62 yX2_read RX5, .methodLinkNest RX2 31 yX3_byteAt RX5, .methodLinkNest RX2 86 yX5_isWithin RX5, .methodLinkNest RX2 90 yX4_addPiece RX5, .methodLinkNest RX4 62 yX5_isWithin RX5, .methodLinkNest RX4 66 yX1_begin RX5, .methodLinkNest RX2 95 yX4_change RX5, .methodLinkNest RX5 66 yX4_has RX5, .methodLinkNest RX5 102 yX4_maySet RX5, .methodLinkNest RX5 318 yX4_hasLine RX5, .methodLinkNest RX5 321 yX0_begin RX5, .methodLinkNest RX5 158 yX0_add RX5, .methodLinkNest RX5 116 yX0_giveOfAll RX5, .methodLinkNest RX5 120 yX0_hang RX5, .methodLinkNest RX5 123 yX0_slack RX5, .methodLinkNest RX5 126 yX0_base RX5, .methodLinkNest RX5 133 yX0_apartAt RX5, .methodLinkNest RX5 136 yX0_pullAt RX5, .methodLinkNest RX5 139 yX4_passTenth RX5, .methodLinkNest RX4 80 yX0_overAt RX5, .methodLinkNest RX4 86 yX0_pullOver RX5, .methodLinkNest RX4 101 yX1_bear RX5, .methodLinkNest RX5 143 yX0_greatestPull RX5]
def nestA_3 : List Cond := [.methodLinkNest RX5 146 yX0_whenGreatest RX5, .methodLinkNest RX5 170 yX1_begin RX5, .methodLinkNest RX5 196 yX4_greatestYaw RX5, .methodLinkNest RX4 110 yX5_heldWithin RX5, .methodLinkNest RX5 202 yX0_pullsAbove RX5, .methodLinkNest RX5 208 yX3_holdsLegs RX5, .methodLinkNest RX3 42 yX5_isWithin RX5, .methodLinkNest RX3 51 yX4_maySet RX5, .methodLinkNest RX5 329 yX3_legsHeld RX5, .methodLinkNest RX5 232 yX3_leastOfSort RX5, .methodLinkNest RX5 247 yX4_hurtOfAll RX5, .methodLinkNest RX5 253 yX3_empty RX5, .methodLinkNest RX5 256 yX3_keepPiece RX5, .methodLinkNest RX3 32 yX1_become RX5, .methodLinkNest RX5 260 yX3_beginRow RX5, .methodLinkNest RX5 264 yX3_hasPlace RX5, .methodLinkNest RX5 267 yX3_putLowestBits RX5, .methodLinkNest RX5 288 yX3_hasPlaces RX5, .methodLinkNest RX5 303 yX1_cost RX5, .methodLinkNest RX5 306 yX1_fail RX5, .methodLinkNest RX5 309 yX1_numberOfFailure RX5]
def nestA : List Cond := nestA_0 ++ (nestA_1 ++ (nestA_2 ++ (nestA_3)))
def isNest : Cond → Bool
  | .fieldLinkNest .. => true
  | .methodLinkNest .. => true
  | _ => false
theorem nestA_ok : nestA.all isNest = true := by decide +kernel
theorem nest_warm {w : Cond} (hw : isNest w = true) {s U : State} (hW : s.WarmedH U.vm) (h : va_Nw w s) : va_Nw w U := by
  cases w <;> first | exact va_Nw.warmF hW h | exact va_Nw.warmM hW h | (simp [isNest] at hw; done)
theorem nest_same {w : Cond} (hw : isNest w = true) {u U : State} (hv : u.vm = U.vm) (h : va_Nw w u) : va_Nw w U := by
  cases w <;> first | exact va_Nw.same rfl hv h | (simp [isNest] at hw; done)
def Est (G : GG) (U : State) (H : Heap) : Prop :=
  va_Z RX5 "LEAST_SET" "[I" (.ref (gL G)) (Zf G) U H ∧ va_Z RX5 "MOST_SET" "[I" (.ref (gM G)) (Zf G) U H ∧ va_T .int (gL G) 7 (fun j => .int (leastT j)) (Zf G) U H ∧ va_T .int (gM G) 7 (fun j => .int (mostT j)) (Zf G) U H ∧ va_Z "java/lang/String" "COMPACT_STRINGS" "Z" (.int 1) (Zf G) U H ∧ vk_S 7 sLen sByt (gK G) (gV G) (Zf G) U H ∧ va_Zq "jdk/internal/util/Preconditions" "SIOOBE_FORMATTER" "Ljava/util/function/BiFunction;" (Zf G) U H
theorem Est.moved {G : GG} {u U : State} {H : Heap} (hvm : u.vm.Alike U.vm) (h : Est G u H) : Est G U H :=
  ⟨h.1.moved hvm, h.2.1.moved hvm, h.2.2.1.moved hvm, h.2.2.2.1.moved hvm, h.2.2.2.2.1.moved hvm, h.2.2.2.2.2.1.moved hvm, h.2.2.2.2.2.2.moved hvm⟩
theorem Est.kept {G : GG} {U : State} {H H1 : Heap} (h : Est G U H) (hq : ∀ a : Nat, a < H.size → ¬ Zf G a → H1[a]? = H[a]?) : Est G U H1 :=
  ⟨h.1.kept hq, h.2.1.kept hq, h.2.2.1.kept hq, h.2.2.2.1.kept hq, h.2.2.2.2.1.kept hq, h.2.2.2.2.2.1.kept hq, h.2.2.2.2.2.2.kept hq⟩
def Esr (G : GG) (U : State) : Prop := ∀ i, i < 7 → vk_R RX2 (sIdx i) (sTx i) (gK G i) U
/-- what is known of the tables, of statics and of constants wherever a method begins -/
def Ec (G : GG) (U : State) : Prop := va_K (gD G) vwCl (tyA G) U ∧ (∀ w ∈ nestA, va_Nw w U) ∧ gz G ≤ U.heap.size ∧ Est G U U.heap ∧ Esr G U
theorem Ec.warm {G : GG} {s U : State} {H : Heap} {locs : List Loc} (hG : Ag G) (h : Ec G s) (hS : va_S (Af G s.heap.size) s.heap H locs) (hU : U.heap = H) (hW : s.WarmedH U.vm) : Ec G U := by
  obtain ⟨h1, h2, h3, h4, h5⟩ := h
  refine ⟨va_K.moved hW.alike h1, fun w hw => nest_warm (List.all_eq_true.mp nestA_ok w hw) hW (h2 w hw), ?_, ?_, fun i hi => (h5 i hi).warm hW⟩
  · rw [hU]; exact Nat.le_trans h3 hS.1
  · rw [hU]
    exact (h4.kept (fun a ha hz => hS.2.1 a ha (fun z => hz (Af_Zf hG h3 a z)))).moved hW.alike
theorem Ec.call {G : GG} {U : State} {g : JFrame} {mk : MethodId} {a : Array Value} (h : Ec G U) : Ec G (U.calling g mk a) := by
  obtain ⟨h1, h2, h3, h4, h5⟩ := h
  exact ⟨va_K.moved (u := U) (Vm.Alike.refl U.vm) h1, fun w hw => nest_same (List.all_eq_true.mp nestA_ok w hw) (u := U) rfl (h2 w hw), h3, h4.moved (u := U) (Vm.Alike.refl U.vm), fun i hi => (h5 i hi).same rfl⟩
def Pw (G : GG) (sz : Nat) (M : Mem) : State → Prop := fun U => U.heap.size = sz ∧ Ec G U ∧ va_P (gD G) vwCl (wl G M) U.heap
def Qw (G : GG) : Mem → State → Prop := fun M t => va_P (gD G) vwCl (wl G M) t.heap
def Wd (G : GG) (s : State) (M : Mem) (H : Heap) (locs : List Loc) : Prop := va_P (gD G) vwCl (wl G M) H ∧ va_S (Af G s.heap.size) s.heap H locs
def Cx (G : GG) (p : Program) (s : State) (m : MethodId) (args : Array Value) (meth : Method) (c : Code) (own : String) (cc : ByteArray) (nL : Nat) (ret : Option FieldType) : Prop :=
  CallFix p m c cc nL s args wsL_law own ∧ Ec G s ∧ Ag G ∧ meth.sig.returnType = ret ∧ meth.locks = false
def rmk (d : Nat) : Room := { frames := d, cells := 0, slots := 0, locals := 64 * d }
set_option maxRecDepth 20000 in
theorem goodA : wsL_law.all goodWord = true := by decide +kernel
theorem good_y {y : MethodName} {b : ByteArray} {n : Nat} {ret : Option FieldType} (h : Cond.code y b n ret ∈ wsL_law) : GoodIn wsL_law (Cond.code y b n ret :: wsL_law) := fun w hw => by
  have hm : w ∈ wsL_law := (List.mem_cons.mp hw).elim (fun e => e ▸ h) id
  exact ⟨hm, good_of_word (List.all_eq_true.mp goodA w hm)⟩
theorem bz_nar {v : Int32} (h : v = 0 ∨ v = 1) : narrow .boolean (.int v) = .int v := by rcases h with rfl | rfl <;> rfl
theorem bz_fit {v : Int32} (h : v = 0 ∨ v = 1) : fits .boolean (.int v) = true := by rcases h with rfl | rfl <;> rfl
theorem in_lt {x : Int32} {n : Nat} (h : vp_in x n) : x.toNatClampNeg < n := Nat.not_le.mp fun q => h (Or.inr q)
section POOL
variable {p : Program} {l : Launch} {e : Env} {R : Room} {s : State} {m : MethodId} {args : Array Value} {below : List Frame} {meth : Method} {c : Code} {H : Heap} {locs : List Loc} {cells slots : Nat} {Q : State → Prop}
variable {cc : ByteArray} {pc nL : Nat} {ls : Array Slot} {rest : List Value} {G : GG} {M : Mem} {own : String} {ret : Option FieldType}
theorem Cx.ws (C : Cx G p s m args meth c own cc nL ret) {w : Cond} (h : w ∈ wsL_law) : w.before args s = true := C.1.2.2.2.2 w h
theorem Cx.ml (C : Cx G p s m args meth c own cc nL ret) {l0 : List (Nat × Value)} (hl : lv_has ls nL l0) : c.maxLocals = ls.size := by rw [C.1.2.2.1]; exact hl.1.symm
theorem Wd.ml (w : Wd G s M H locs) : s.heap.size ≤ H.size := w.2.1
theorem pw_get (C : Cx G p s m args meth c own cc nL ret) (w : Wd G s M H locs) {C0 : String} {T : u_T} {N ci index : Nat} (hin : ∀ w ∈ u_ws C0 T N, w ∈ wsL_law) {i : Nat} (hi : i < 69) {fs : List Value} (he : pE G (M i) i = .inr (ci, fs)) (hc : vwCl[ci]? = some (C0, T, N)) (k : Nat) (hk : k < N) (hs : (T k).1 = C0) (hlink : Cond.fieldLink own index C0 (T k).2.1 (T k).2.2.1 ∈ wsL_law) {v : Value} (hv : fs[k]? = some v) (hdg : decode cc pc = .ok (.getfield index, 3))
    (kk : W p l e R s m args below meth c H locs cells slots Q (F0 m (pc + 3) ls (v :: rest))) : W p l e R s m args below meth c H locs cells slots Q (F0 m pc ls (.ref (ga G i) :: rest)) :=
  va_get C.1.1 C.1.2.1 C.1.2.2.2.2 hin C.1.2.2.2.1 C.2.1.1 w.1 i (wl_get hi he) hc k hk (C.ws hlink) (fun x h => by rw [hs] at h; exact h) hv hdg kk
theorem pw_getN (C : Cx G p s m args meth c own cc nL ret) (w : Wd G s M H locs) {C0 : String} {T : u_T} {N ci index : Nat} (hin : ∀ w ∈ u_ws C0 T N, w ∈ wsL_law) {i : Nat} (hi : i < 69) {fs : List Value} (he : pE G (M i) i = .inr (ci, fs)) (hc : vwCl[ci]? = some (C0, T, N)) (k : Nat) (hk : k < N) (hs : (T k).1 = C0) (hlink : Cond.fieldLinkNest own index C0 (T k).2.1 (T k).2.2.1 RX5 ∈ nestA) {v : Value} (hv : fs[k]? = some v) (hdg : decode cc pc = .ok (.getfield index, 3))
    (kk : W p l e R s m args below meth c H locs cells slots Q (F0 m (pc + 3) ls (v :: rest))) : W p l e R s m args below meth c H locs cells slots Q (F0 m pc ls (.ref (ga G i) :: rest)) :=
  va_getN C.1.1 C.1.2.1 C.1.2.2.2.2 hin C.1.2.2.2.1 C.2.1.1 w.1 i (wl_get hi he) hc k hk (va_Nw.use rfl (C.2.1.2.1 _ hlink)) (fun x h => by rw [hs] at h; exact h) hv hdg kk
theorem pw_put (C : Cx G p s m args meth c own cc nL ret) (w : Wd G s M H locs) {C0 : String} {T : u_T} {N ci index : Nat} (hin : ∀ w ∈ u_ws C0 T N, w ∈ wsL_law) (ty0 : Nat → FieldType) (hty : ∀ k, k < N → parseFieldDescriptor (T k).2.2.1 = some (ty0 k)) (hnm : ∀ a, a < N → ∀ b, b < N → a ≠ b → (T a).2.1 ≠ (T b).2.1) {i : Nat} (hi : i < 69) {fs : List Value} (he : pE G (M i) i = .inr (ci, fs)) (hc : vwCl[ci]? = some (C0, T, N)) (k : Nat) (hk : k < N) (hs : (T k).1 = C0) (hlink : Cond.fieldLink own index C0 (T k).2.1 (T k).2.2.1 ∈ wsL_law) (hfin : (T k).2.2.2 = false) {ty : FieldType} {v : Int32} (hd : parseFieldDescriptor (T k).2.2.1 = some ty) (hn : narrow ty (.int v) = .int v) (hfit : fits ty (.int v) = true) (hl : k < fs.length) (he2 : pE G (upd (M i) k v) i = .inr (ci, fs.set k (.int v)))
    (hdg : decode cc pc = .ok (.putfield index, 3)) (kk : ∀ (H1 : Heap) (locs1 : List Loc), Wd G s (mup M i k v) H1 locs1 → W p l e R s m args below meth c H1 locs1 cells slots Q (F0 m (pc + 3) ls rest)) : W p l e R s m args below meth c H locs cells slots Q (F0 m pc ls (.int v :: .ref (ga G i) :: rest)) := by
  refine va_put C.1.1 C.1.2.1 C.1.2.2.2.2 hin ty0 hty hnm C.1.2.2.2.1 C.2.1.1 w.1 (wl_D (sz := s.heap.size) C.2.2.1) w.2 i (wl_get hi he) hc k hk (C.ws hlink) (fun x h => by rw [hs] at h; exact h) hfin hd hn hfit hl hdg (fun H1 locs1 hP hD hS => kk H1 locs1 ⟨?_, hS⟩)
  rw [wl_set hi he2] at hP
  exact hP
theorem pw_putN (C : Cx G p s m args meth c own cc nL ret) (w : Wd G s M H locs) {C0 : String} {T : u_T} {N ci index : Nat} (hin : ∀ w ∈ u_ws C0 T N, w ∈ wsL_law) (ty0 : Nat → FieldType) (hty : ∀ k, k < N → parseFieldDescriptor (T k).2.2.1 = some (ty0 k)) (hnm : ∀ a, a < N → ∀ b, b < N → a ≠ b → (T a).2.1 ≠ (T b).2.1) {i : Nat} (hi : i < 69) {fs : List Value} (he : pE G (M i) i = .inr (ci, fs)) (hc : vwCl[ci]? = some (C0, T, N)) (k : Nat) (hk : k < N) (hs : (T k).1 = C0) (hlink : Cond.fieldLinkNest own index C0 (T k).2.1 (T k).2.2.1 RX5 ∈ nestA) (hfin : (T k).2.2.2 = false) {ty : FieldType} {v : Int32} (hd : parseFieldDescriptor (T k).2.2.1 = some ty) (hn : narrow ty (.int v) = .int v) (hfit : fits ty (.int v) = true) (hl : k < fs.length) (he2 : pE G (upd (M i) k v) i = .inr (ci, fs.set k (.int v)))
    (hdg : decode cc pc = .ok (.putfield index, 3)) (kk : ∀ (H1 : Heap) (locs1 : List Loc), Wd G s (mup M i k v) H1 locs1 → W p l e R s m args below meth c H1 locs1 cells slots Q (F0 m (pc + 3) ls rest)) : W p l e R s m args below meth c H locs cells slots Q (F0 m pc ls (.int v :: .ref (ga G i) :: rest)) := by
  refine va_putN C.1.1 C.1.2.1 C.1.2.2.2.2 hin ty0 hty hnm C.1.2.2.2.1 C.2.1.1 w.1 (wl_D (sz := s.heap.size) C.2.2.1) w.2 i (wl_get hi he) hc k hk (va_Nw.use rfl (C.2.1.2.1 _ hlink)) (fun x h => by rw [hs] at h; exact h) hfin hd hn hfit hl hdg (fun H1 locs1 hP hD hS => kk H1 locs1 ⟨?_, hS⟩)
  rw [wl_set hi he2] at hP
  exact hP
theorem pw_ld (C : Cx G p s m args meth c own cc nL ret) (w : Wd G s M H locs) {i n : Nat} (hi : i < 69) (he : pE G (M i) i = .inl (gI G, n, .inl (M i))) {x : Int32} (hin : vp_in x n) {k : Nat} (hk : x.toNatClampNeg = k) (hdg : decode cc pc = .ok (.iaload, 1))
    (kk : W p l e R s m args below meth c H locs cells slots Q (F0 m (pc + 1) ls (.int (M i k) :: rest))) : W p l e R s m args below meth c H locs cells slots Q (F0 m pc ls (.int x :: .ref (ga G i) :: rest)) :=
  va_iald C.1.1 C.1.2.1 C.2.1.1 w.1 i 0 (wl_get hi he) rfl hin hdg (by rw [hk]; exact kk)
theorem pw_st (C : Cx G p s m args meth c own cc nL ret) (w : Wd G s M H locs) {i n : Nat} (hi : i < 69) (he : ∀ r, pE G r i = .inl (gI G, n, .inl r)) {x v : Int32} (hin : vp_in x n) {k : Nat} (hk : x.toNatClampNeg = k) (hdg : decode cc pc = .ok (.iastore, 1))
    (kk : ∀ (H1 : Heap) (locs1 : List Loc), Wd G s (mup M i k v) H1 locs1 → W p l e R s m args below meth c H1 locs1 cells slots Q (F0 m (pc + 1) ls rest)) : W p l e R s m args below meth c H locs cells slots Q (F0 m pc ls (.int v :: .int x :: .ref (ga G i) :: rest)) := by
  subst hk
  refine va_iast C.1.1 C.1.2.1 C.2.1.1 w.1 (wl_D (sz := s.heap.size) C.2.2.1) w.2 i 0 (wl_get hi (he _)) rfl hin hdg (fun H1 locs1 hP hD hS => kk H1 locs1 ⟨?_, hS⟩)
  rw [wl_set hi (he _)] at hP
  exact hP
theorem pw_len (C : Cx G p s m args meth c own cc nL ret) (w : Wd G s M H locs) {i n : Nat} (hi : i < 69) {f : Nat → Int32} (he : pE G (M i) i = .inl (gI G, n, .inl f)) {v : Int32} (hv : Int32.ofNat n = v) (hdg : decode cc pc = .ok (.arraylength, 1))
    (kk : W p l e R s m args below meth c H locs cells slots Q (F0 m (pc + 1) ls (.int v :: rest))) : W p l e R s m args below meth c H locs cells slots Q (F0 m pc ls (.ref (ga G i) :: rest)) :=
  va_alen C.1.1 C.1.2.1 C.2.1.1 w.1 i 0 (wl_get hi he) (ty := .int) rfl hv hdg kk
theorem pw_ldS (C : Cx G p s m args meth c own cc nL ret) (w : Wd G s M H locs) {x : Int32} (hin : vp_in x 8) {k : Nat} (hk : x.toNatClampNeg = k) (hdg : decode cc pc = .ok (.aaload, 1))
    (kk : W p l e R s m args below meth c H locs cells slots Q (F0 m (pc + 1) ls (.ref (ga G (14 + k)) :: rest))) : W p l e R s m args below meth c H locs cells slots Q (F0 m pc ls (.int x :: .ref (ga G 6) :: rest)) :=
  va_aldq C.1.1 C.1.2.1 C.2.1.1 w.1 6 2 (wl_get (by decide) pE_sh) rfl hin hdg (by subst hk; exact kk)
theorem pw_ldP (C : Cx G p s m args meth c own cc nL ret) (w : Wd G s M H locs) {i : Nat} (hi : 8 ≤ i ∧ i < 11) {x : Int32} (hin : vp_in x 6) (hdg : decode cc pc = .ok (.aaload, 1)) {j : Nat} (hj : 6 * i + x.toNatClampNeg - 10 = j)
    (kk : W p l e R s m args below meth c H locs cells slots Q (F0 m (pc + 1) ls (.ref (ga G j) :: rest))) : W p l e R s m args below meth c H locs cells slots Q (F0 m pc ls (.int x :: .ref (ga G i) :: rest)) := by
  subst hj
  exact va_aldq C.1.1 C.1.2.1 C.2.1.1 w.1 i 1 (wl_get (by omega) (pE_ps hi)) rfl hin hdg kk
theorem Wd.zf (C : Cx G p s m args meth c own cc nL ret) (w : Wd G s M H locs) : va_S (Zf G) s.heap H locs :=
  ⟨w.2.1, fun q h1 h2 => w.2.2.1 q h1 (fun z => h2 (Af_Zf C.2.2.1 C.2.1.2.2.1 q z)), fun q hq => Af_Zf C.2.2.1 C.2.1.2.2.1 _ (w.2.2.2 q hq)⟩
theorem ret_i (C : Cx G p s m args meth c own cc nL (some .int)) (w : Wd G s M H locs) {v : Int32} {post : Int32 → Mem → Prop} (hp : post v M) (hdg : decode cc pc = .ok (.ireturn, 1)) : W p l e R s m args below meth c H locs 0 0 (MQ below (va_Qi post (Qw G) (Af G s.heap.size)) args s 0 0 (Af G s.heap.size)) (F0 m pc ls [.int v]) :=
  W.iret C.1.1 C.1.2.1 C.2.2.2.1 (fun t ht hW => ⟨⟨v, M, rfl, hp, by unfold Qw; rw [ht]; exact w.1⟩, w.2.F ht⟩) w.2.2.2 hdg C.2.2.2.2
theorem ret_z (C : Cx G p s m args meth c own cc nL (some .boolean)) (w : Wd G s M H locs) {v : Int32} {post : Int32 → Mem → Prop} (hp : (v = 0 ∨ v = 1) ∧ post v M) (hdg : decode cc pc = .ok (.ireturn, 1)) : W p l e R s m args below meth c H locs 0 0 (MQ below (va_Qi post (Qw G) (Af G s.heap.size)) args s 0 0 (Af G s.heap.size)) (F0 m pc ls [.int v]) :=
  W.zret C.1.1 C.1.2.1 C.2.2.2.1 (bz_nar hp.1) (fun t ht hW => ⟨⟨v, M, rfl, hp.2, by unfold Qw; rw [ht]; exact w.1⟩, w.2.F ht⟩) w.2.2.2 hdg C.2.2.2.2
theorem ret_v (C : Cx G p s m args meth c own cc nL none) (w : Wd G s M H locs) {post : Mem → Prop} (hp : post M) (hdg : decode cc pc = .ok (.return_, 1)) : W p l e R s m args below meth c H locs 0 0 (MQ below (va_Qv post (Qw G) (Af G s.heap.size)) args s 0 0 (Af G s.heap.size)) (F0 m pc ls []) :=
  W.vret C.1.1 C.1.2.1 C.2.2.2.1 (fun t ht hW => ⟨⟨M, rfl, hp, by unfold Qw; rw [ht]; exact w.1⟩, w.2.F ht⟩) w.2.2.2 hdg C.2.2.2.2
theorem Cx.of {y : MethodName} {rm : Room} {s₁ : State} (hG : Ag G) (hE : Ec G s) (hy : y.cls = own) (hml : c.maxLocals = nL) (B : BodyLoose p l y (headSpec (Cond.code y cc nL ret :: wsL_law) rm) cc nL ret e s m args below meth c s₁) : Cx G p s m args meth c own cc nL ret := by
  subst hy
  exact ⟨⟨B.exec, B.bytes, hml, findClass_of_methodNamed B.named, fun w hw => atoms_spec (ws := Cond.code y cc nL ret :: wsL_law) B.pre w (List.mem_cons_of_mem _ hw)⟩, hE, hG, B.returns, B.notSynchronized⟩
theorem Pw.blind {av : List Value} {sz : Nat} : FrameBlind (va_Pc av (Pw G sz M)) := fun a U g mk h => ⟨h.1, h.2.1, h.2.2.1.call, h.2.2.2⟩
theorem Wd.pre (C : Cx G p s m args meth c own cc nL ret) (w : Wd G s M H locs) {av : List Value} : ∀ U : State, U.heap = H → s.WarmedH U.vm → va_Pc av (Pw G H.size M) av.toArray U := fun U hU hW => ⟨rfl, by rw [hU], C.2.1.warm C.2.2.1 w.2 hU hW, by rw [hU]; exact w.1⟩
theorem Wd.af (w : Wd G s M H locs) : ∀ q, Af G H.size q → Af G s.heap.size q := fun q h => h.elim Or.inl (fun z => Or.inr (Nat.le_trans w.2.1 z))
theorem Wd.recv (C : Cx G p s m args meth c own cc nL ret) (w : Wd G s M H locs) {i ci : Nat} (hi : i < 69) {fs : List Value} {q : vw_C} (he : pE G (M i) i = .inr (ci, fs)) (hc : vwCl[ci]? = some q) : ∃ cell : Cell, H[ga G i]? = some cell ∧ cell.vm.isStatics = false ∧ s.vm.findClass q.1 = some cell.cls := va_recv C.2.1.1 w.1 hc (wl_get hi he)
variable {y : MethodName} {b : ByteArray} {nY d D n idx : Nat} {rt : Option FieldType} {av : List Value}
theorem lvl (h : d + 1 ≤ D) (hn : nY ≤ 32) : (rmk d).frames + 1 ≤ (rmk D).frames ∧ 8 + (nY + 11) + (rmk d).locals ≤ (rmk D).locals := by
  refine ⟨h, ?_⟩
  show 8 + (nY + 11) + 64 * d ≤ 64 * D
  omega
theorem Cx.cB (C : Cx G p s m args meth c own cc nL ret) (hy : Cond.code y b nY rt ∈ wsL_law) (hi : Cond.initialized y.cls ∈ wsL_law) (hl : Cond.methodLink own idx y ∈ wsL_law) (hd : y.cls ≠ "java/lang/invoke/MethodHandle" ∧ y.cls ≠ "java/lang/invoke/VarHandle" ∧ (parseMethodDescriptor y.desc).map (fun d => d.parameters.length) = some n) (h : d + 1 ≤ D) (hn : nY ≤ 32) :
    CallB (rmk D) s args own idx y b nY rt (Cond.code y b nY rt :: wsL_law) (rmk d) 0 0 n :=
  callB_of n C.1.2.2.2.2 (good_y hy) rfl rfl rfl (C.ws hi) (C.ws hl) hd (lvl h hn)
theorem Cx.cN (C : Cx G p s m args meth c own cc nL ret) (hy : Cond.code y b nY rt ∈ wsL_law) (hi : Cond.initialized y.cls ∈ wsL_law) (hl : Cond.methodLinkNest own idx y RX5 ∈ nestA) (hd : y.cls ≠ "java/lang/invoke/MethodHandle" ∧ y.cls ≠ "java/lang/invoke/VarHandle" ∧ (parseMethodDescriptor y.desc).map (fun d => d.parameters.length) = some n) (h : d + 1 ≤ D) (hn : nY ≤ 32) :
    va_CN (rmk D) s args own idx y RX5 b nY rt (Cond.code y b nY rt :: wsL_law) (rmk d) 0 0 n :=
  va_cnB n C.1.2.2.2.2 (good_y hy) rfl rfl rfl (C.2.1.2.1 _ hl) (C.ws hi) hd (lvl h hn)
/-- a call: its answer, its memory -/
theorem end_i (w : Wd G s M H locs) {post : Int32 → Mem → Prop} {st0 : List Value} {a : Array Value} (hr : va_Run p l e R s m args below meth c H locs 0 0 0 0 (F0 m pc ls st0) rest (va_Qi post (Qw G) (Af G H.size) a) (Af G H.size))
    (kk : ∀ (r : Int32) (M1 : Mem) (H1 : Heap) (locs1 : List Loc), post r M1 → Wd G s M1 H1 locs1 → W p l e R s m args below meth c H1 locs1 0 0 Q (F0 m (pc + 3) ls (.int r :: rest))) : W p l e R s m args below meth c H locs 0 0 Q (F0 m pc ls st0) :=
  va_calli hr w.2 (fun q _ h => w.af q h) w.af (fun r u t H1 locs1 ht _ hp hB _ _ hS => kk r u H1 locs1 hp ⟨by unfold Qw at hB; rw [ht] at hB; exact hB, hS⟩)
theorem end_v (w : Wd G s M H locs) {post : Mem → Prop} {st0 : List Value} {a : Array Value} (hr : va_Run p l e R s m args below meth c H locs 0 0 0 0 (F0 m pc ls st0) rest (va_Qv post (Qw G) (Af G H.size) a) (Af G H.size))
    (kk : ∀ (M1 : Mem) (H1 : Heap) (locs1 : List Loc), post M1 → Wd G s M1 H1 locs1 → W p l e R s m args below meth c H1 locs1 0 0 Q (F0 m (pc + 3) ls rest)) : W p l e R s m args below meth c H locs 0 0 Q (F0 m pc ls st0) :=
  va_callv hr w.2 (fun q _ h => w.af q h) w.af (fun u t H1 locs1 ht _ hp hB _ _ hS => kk u H1 locs1 hp ⟨by unfold Qw at hB; rw [ht] at hB; exact hB, hS⟩)
variable {Qc : Array Value → State → Outcome → State → Prop} {q9 : Nat} {As : List Value}
theorem run_V (C : Cx G p s m args meth c own cc nL ret) (w : Wd G s M H locs) (hl : ls.size = nL) (hM : Met l y (Cond.code y b nY rt :: wsL_law) (rmk d) (va_Pc (.ref (q9) :: As) (Pw G H.size M)) Qc 0 0 (Af G H.size)) (hy : Cond.code y b nY rt ∈ wsL_law) (hi : Cond.initialized y.cls ∈ wsL_law) (hk : Cond.methodLink own idx y ∈ wsL_law) (hin : Cond.instanceMethod y ∈ wsL_law) (hse : Cond.selects y.cls y y ∈ wsL_law)
    (hd : y.cls ≠ "java/lang/invoke/MethodHandle" ∧ y.cls ≠ "java/lang/invoke/VarHandle" ∧ (parseMethodDescriptor y.desc).map (fun d => d.parameters.length) = some As.length) (h : d + 1 ≤ D ∧ nY ≤ 32) (hrv : ∃ cell : Cell, H[q9]? = some cell ∧ cell.vm.isStatics = false ∧ s.vm.findClass y.cls = some cell.cls) {st0 : List Value} (hst : st0 = As.reverse ++ .ref (q9) :: rest) (hrm : (rest.map fun v => v.category).sum ≤ 8) (hdg : decode cc pc = .ok (.invokevirtual idx, 3)) :
    va_Run p l e (rmk D) s m args below meth c H locs 0 0 0 0 (F0 m pc ls st0) rest (Qc (Value.ref (q9) :: As).toArray) (Af G H.size) :=
  va_runV C.1 hM ⟨C.cB hy hi hk hd h.1 h.2, C.ws hin, C.ws hse⟩ ⟨Pw.blind, hrv, w.pre C⟩ rfl rfl hl hst (lv_room hrm) hdg ⟨Nat.le_refl 0, Nat.le_refl 0⟩
theorem run_VN (C : Cx G p s m args meth c own cc nL ret) (w : Wd G s M H locs) (hl : ls.size = nL) (hM : Met l y (Cond.code y b nY rt :: wsL_law) (rmk d) (va_Pc (.ref (q9) :: As) (Pw G H.size M)) Qc 0 0 (Af G H.size)) (hy : Cond.code y b nY rt ∈ wsL_law) (hi : Cond.initialized y.cls ∈ wsL_law) (hk : Cond.methodLinkNest own idx y RX5 ∈ nestA) (hin : Cond.instanceMethod y ∈ wsL_law) (hse : Cond.selects y.cls y y ∈ wsL_law)
    (hd : y.cls ≠ "java/lang/invoke/MethodHandle" ∧ y.cls ≠ "java/lang/invoke/VarHandle" ∧ (parseMethodDescriptor y.desc).map (fun d => d.parameters.length) = some As.length) (h : d + 1 ≤ D ∧ nY ≤ 32) (hrv : ∃ cell : Cell, H[q9]? = some cell ∧ cell.vm.isStatics = false ∧ s.vm.findClass y.cls = some cell.cls) {st0 : List Value} (hst : st0 = As.reverse ++ .ref (q9) :: rest) (hrm : (rest.map fun v => v.category).sum ≤ 8) (hdg : decode cc pc = .ok (.invokevirtual idx, 3)) :
    va_Run p l e (rmk D) s m args below meth c H locs 0 0 0 0 (F0 m pc ls st0) rest (Qc (Value.ref (q9) :: As).toArray) (Af G H.size) :=
  va_runVN C.1 hM ⟨C.cN hy hi hk hd h.1 h.2, C.ws hin, C.ws hse⟩ ⟨Pw.blind, hrv, w.pre C⟩ rfl rfl hl hst (lv_room hrm) hdg ⟨Nat.le_refl 0, Nat.le_refl 0⟩
theorem run_S (C : Cx G p s m args meth c own cc nL ret) (w : Wd G s M H locs) (hl : ls.size = nL) (hM : Met l y (Cond.code y b nY rt :: wsL_law) (rmk d) (va_Pc As (Pw G H.size M)) Qc 0 0 (Af G H.size)) (hy : Cond.code y b nY rt ∈ wsL_law) (hi : Cond.initialized y.cls ∈ wsL_law) (hk : Cond.methodLink own idx y ∈ wsL_law) (hse : Cond.static y ∈ wsL_law)
    (hd : y.cls ≠ "java/lang/invoke/MethodHandle" ∧ y.cls ≠ "java/lang/invoke/VarHandle" ∧ (parseMethodDescriptor y.desc).map (fun d => d.parameters.length) = some As.length) (h : d + 1 ≤ D ∧ nY ≤ 32) {st0 : List Value} (hst : st0 = As.reverse ++ rest) (hrm : (rest.map fun v => v.category).sum ≤ 8) (hdg : decode cc pc = .ok (.invokestatic idx, 3)) :
    va_Run p l e (rmk D) s m args below meth c H locs 0 0 0 0 (F0 m pc ls st0) rest (Qc As.toArray) (Af G H.size) :=
  va_runS C.1 hM ⟨C.cB hy hi hk hd h.1 h.2, C.ws hse⟩ ⟨Pw.blind, w.pre C⟩ rfl rfl hl hst (lv_room hrm) hdg ⟨Nat.le_refl 0, Nat.le_refl 0⟩
theorem run_SN (C : Cx G p s m args meth c own cc nL ret) (w : Wd G s M H locs) (hl : ls.size = nL) (hM : Met l y (Cond.code y b nY rt :: wsL_law) (rmk d) (va_Pc As (Pw G H.size M)) Qc 0 0 (Af G H.size)) (hy : Cond.code y b nY rt ∈ wsL_law) (hi : Cond.initialized y.cls ∈ wsL_law) (hk : Cond.methodLinkNest own idx y RX5 ∈ nestA) (hse : Cond.static y ∈ wsL_law)
    (hd : y.cls ≠ "java/lang/invoke/MethodHandle" ∧ y.cls ≠ "java/lang/invoke/VarHandle" ∧ (parseMethodDescriptor y.desc).map (fun d => d.parameters.length) = some As.length) (h : d + 1 ≤ D ∧ nY ≤ 32) {st0 : List Value} (hst : st0 = As.reverse ++ rest) (hrm : (rest.map fun v => v.category).sum ≤ 8) (hdg : decode cc pc = .ok (.invokestatic idx, 3)) :
    va_Run p l e (rmk D) s m args below meth c H locs 0 0 0 0 (F0 m pc ls st0) rest (Qc As.toArray) (Af G H.size) :=
  va_runSN C.1 hM ⟨C.cN hy hi hk hd h.1 h.2, C.ws hse, trivial⟩ ⟨Pw.blind, w.pre C⟩ rfl rfl hl hst (lv_room hrm) hdg ⟨Nat.le_refl 0, Nat.le_refl 0⟩
end POOL
