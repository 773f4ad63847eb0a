/-! toss, and the law's own element -/
theorem dX5_toss_0 : decode cX5_toss 0 = .ok (.aload_n 0, 1) := by decide +kernel
theorem dX5_toss_1 : decode cX5_toss 1 = .ok (.iload_n 1, 1) := by decide +kernel
theorem dX5_toss_2 : decode cX5_toss 2 = .ok (.invokevirtual 297, 3) := by decide +kernel
theorem dX5_toss_5 : decode cX5_toss 5 = .ok (.istore_n 2, 1) := by decide +kernel
theorem dX5_toss_6 : decode cX5_toss 6 = .ok (.iload_n 2, 1) := by decide +kernel
theorem dX5_toss_7 : decode cX5_toss 7 = .ok (.ifCond .ge 5, 3) := by decide +kernel
theorem dX5_toss_10 : decode cX5_toss 10 = .ok (.iload_n 2, 1) := by decide +kernel
theorem dX5_toss_11 : decode cX5_toss 11 = .ok (.ireturn, 1) := by decide +kernel
theorem dX5_toss_12 : decode cX5_toss 12 = .ok (.aload_n 0, 1) := by decide +kernel
theorem dX5_toss_13 : decode cX5_toss 13 = .ok (.getfield 45, 3) := by decide +kernel
theorem dX5_toss_16 : decode cX5_toss 16 = .ok (.iload_n 1, 1) := by decide +kernel
theorem dX5_toss_17 : decode cX5_toss 17 = .ok (.aaload, 1) := by decide +kernel
theorem dX5_toss_18 : decode cX5_toss 18 = .ok (.getfield 300, 3) := by decide +kernel
theorem dX5_toss_21 : decode cX5_toss 21 = .ok (.astore_n 3, 1) := by decide +kernel
theorem dX5_toss_22 : decode cX5_toss 22 = .ok (.aload_n 3, 1) := by decide +kernel
theorem dX5_toss_23 : decode cX5_toss 23 = .ok (.invokevirtual 306, 3) := by decide +kernel
theorem dX5_toss_26 : decode cX5_toss 26 = .ok (.goto 10, 3) := by decide +kernel
theorem dX5_toss_29 : decode cX5_toss 29 = .ok (.astore 4, 2) := by decide +kernel
theorem dX5_toss_31 : decode cX5_toss 31 = .ok (.aload_n 3, 1) := by decide +kernel
theorem dX5_toss_32 : decode cX5_toss 32 = .ok (.invokevirtual 309, 3) := by decide +kernel
theorem dX5_toss_35 : decode cX5_toss 35 = .ok (.ireturn, 1) := by decide +kernel
theorem dX5_toss_36 : decode cX5_toss 36 = .ok (.bipush (-15), 2) := by decide +kernel
theorem dX5_toss_38 : decode cX5_toss 38 = .ok (.ireturn, 1) := by decide +kernel
theorem dL_element_0 : decode cL_element 0 = .ok (.aload_n 3, 1) := by decide +kernel
theorem dL_element_1 : decode cL_element 1 = .ok (.iconst 0, 1) := by decide +kernel
theorem dL_element_2 : decode cL_element 2 = .ok (.aload_n 0, 1) := by decide +kernel
theorem dL_element_3 : decode cL_element 3 = .ok (.iload_n 1, 1) := by decide +kernel
theorem dL_element_4 : decode cL_element 4 = .ok (.iload_n 2, 1) := by decide +kernel
theorem dL_element_5 : decode cL_element 5 = .ok (.invokevirtual 7, 3) := by decide +kernel
theorem dL_element_8 : decode cL_element 8 = .ok (.lastore, 1) := by decide +kernel
theorem dL_element_9 : decode cL_element 9 = .ok (.goto 11, 3) := by decide +kernel
theorem dL_element_12 : decode cL_element 12 = .ok (.astore 4, 2) := by decide +kernel
theorem dL_element_14 : decode cL_element 14 = .ok (.iconst 1, 1) := by decide +kernel
theorem dL_element_15 : decode cL_element 15 = .ok (.ireturn, 1) := by decide +kernel
theorem dL_element_16 : decode cL_element 16 = .ok (.astore 4, 2) := by decide +kernel
theorem dL_element_18 : decode cL_element 18 = .ok (.iconst 2, 1) := by decide +kernel
theorem dL_element_19 : decode cL_element 19 = .ok (.ireturn, 1) := by decide +kernel
theorem dL_element_20 : decode cL_element 20 = .ok (.iconst 0, 1) := by decide +kernel
theorem dL_element_21 : decode cL_element 21 = .ok (.ireturn, 1) := by decide +kernel
theorem kf_1_2 : Cond.initialized RX5 ∈ wsL_law := kin_1 (List.mem_of_getElem? (i := 2) rfl)
theorem kf_2_1 : Cond.initialized RX1 ∈ wsL_law := kin_2 (List.mem_of_getElem? (i := 1) rfl)
theorem kf_2_8 : Cond.fieldLink RX5 45 "TowThatJerks" "shelves" "[LTowThatJerks$Shelf;" ∈ wsL_law := kin_2 (List.mem_of_getElem? (i := 8) rfl)
theorem kf_38_4 : Cond.codeWith yL_element cL_element 5 (some .int) [(0, 9, 12, 13), (0, 9, 16, 15)] ∈ wsL_law := kin_38 (List.mem_of_getElem? (i := 4) rfl)
theorem kf_38_5 : Cond.classLink RL 13 "java/lang/IllegalArgumentException" ∈ wsL_law := kin_38 (List.mem_of_getElem? (i := 5) rfl)
theorem kf_38_6 : Cond.classLink RL 15 "java/lang/IllegalStateException" ∈ wsL_law := kin_38 (List.mem_of_getElem? (i := 6) rfl)
theorem kf_38_7 : Cond.methodLink RL 7 yX5_element ∈ wsL_law := kin_38 (List.mem_of_getElem? (i := 7) rfl)
theorem kf_38_8 : Cond.instanceMethod yX5_element ∈ wsL_law := kin_38 (List.mem_of_getElem? (i := 8) rfl)
theorem kf_38_9 : Cond.selects RX5 yX5_element yX5_element ∈ wsL_law := kin_38 (List.mem_of_getElem? (i := 9) rfl)
theorem kf_38_10 : Cond.code yX5_element cX5_element 3 (some .long) ∈ wsL_law := kin_38 (List.mem_of_getElem? (i := 10) rfl)
theorem kf_38_13 : Cond.classLink RX5 277 "java/lang/IllegalStateException" ∈ wsL_law := kin_38 (List.mem_of_getElem? (i := 13) rfl)
theorem kf_39_16 : Cond.methodLink RX5 297 yX5_refusalOfPiece ∈ wsL_law := kin_39 (List.mem_of_getElem? (i := 16) rfl)
theorem kf_39_17 : Cond.instanceMethod yX5_refusalOfPiece ∈ wsL_law := kin_39 (List.mem_of_getElem? (i := 17) rfl)
theorem kf_39_18 : Cond.selects RX5 yX5_refusalOfPiece yX5_refusalOfPiece ∈ wsL_law := kin_39 (List.mem_of_getElem? (i := 18) rfl)
theorem kf_39_19 : Cond.code yX5_refusalOfPiece cX5_refusalOfPiece 2 (some .int) ∈ wsL_law := kin_39 (List.mem_of_getElem? (i := 19) rfl)
theorem kf_40_13 : Cond.codeWith yX5_toss cX5_toss 5 (some .int) [(22, 26, 29, 277)] ∈ wsL_law := kin_40 (List.mem_of_getElem? (i := 13) rfl)
theorem kf_40_14 : Cond.instanceMethod yX1_fail ∈ wsL_law := kin_40 (List.mem_of_getElem? (i := 14) rfl)
theorem kf_40_15 : Cond.selects RX1 yX1_fail yX1_fail ∈ wsL_law := kin_40 (List.mem_of_getElem? (i := 15) rfl)
theorem kf_40_16 : Cond.code yX1_fail cX1_fail 1 none ∈ wsL_law := kin_40 (List.mem_of_getElem? (i := 16) rfl)
theorem kf_40_18 : Cond.instanceMethod yX1_numberOfFailure ∈ wsL_law := kin_40 (List.mem_of_getElem? (i := 18) rfl)
theorem kf_40_19 : Cond.selects RX1 yX1_numberOfFailure yX1_numberOfFailure ∈ wsL_law := kin_40 (List.mem_of_getElem? (i := 19) rfl)
theorem kf_40_20 : Cond.code yX1_numberOfFailure cX1_numberOfFailure 1 (some .int) ∈ wsL_law := kin_40 (List.mem_of_getElem? (i := 20) rfl)
theorem knf_30 : (Cond.fieldLinkNest RX5 300 RX3 "piece" "LTowThatJerks$Piece;" RX5 : Cond) ∈ nestA := List.mem_of_getElem? (i := 30) rfl
theorem knf_88 : (Cond.methodLinkNest RX5 306 yX1_fail RX5 : Cond) ∈ nestA := List.mem_of_getElem? (i := 88) rfl
theorem knf_89 : (Cond.methodLinkNest RX5 309 yX1_numberOfFailure RX5 : Cond) ∈ nestA := List.mem_of_getElem? (i := 89) rfl
theorem hd_X1_fail : yX1_fail.cls ≠ "java/lang/invoke/MethodHandle" ∧ yX1_fail.cls ≠ "java/lang/invoke/VarHandle" ∧ (parseMethodDescriptor yX1_fail.desc).map (fun d => d.parameters.length) = some 0 := by decide +kernel
theorem hd_X1_nof : yX1_numberOfFailure.cls ≠ "java/lang/invoke/MethodHandle" ∧ yX1_numberOfFailure.cls ≠ "java/lang/invoke/VarHandle" ∧ (parseMethodDescriptor yX1_numberOfFailure.desc).map (fun d => d.parameters.length) = some 0 := by decide +kernel
theorem hd_X5_rop : yX5_refusalOfPiece.cls ≠ "java/lang/invoke/MethodHandle" ∧ yX5_refusalOfPiece.cls ≠ "java/lang/invoke/VarHandle" ∧ (parseMethodDescriptor yX5_refusalOfPiece.desc).map (fun d => d.parameters.length) = some 1 := by decide +kernel
theorem hd_X5_el : yX5_element.cls ≠ "java/lang/invoke/MethodHandle" ∧ yX5_element.cls ≠ "java/lang/invoke/VarHandle" ∧ (parseMethodDescriptor yX5_element.desc).map (fun d => d.parameters.length) = some 2 := by decide +kernel
def q_X5_toss (M : Mem) (x1 : Int32) (post : Int32 → Mem → Prop) : Prop := q_X5_refusalOfPiece M x1 (fun r2 M1 => (0 ≤ r2 → vp_in x1 8 ∧ ((M1 (16 + (14 + x1.toNatClampNeg)) 0 = 5 ∨ M1 (16 + (14 + x1.toNatClampNeg)) 1 = 0 → post (-15) M1) ∧ (¬ M1 (16 + (14 + x1.toNatClampNeg)) 0 = 5 ∧ ¬ M1 (16 + (14 + x1.toNatClampNeg)) 1 = 0 → q_X1_numberOfFailure M1 (16 + (14 + x1.toNatClampNeg)) post))) ∧ (¬ 0 ≤ r2 → post r2 M1))
set_option maxHeartbeats 4000000 in
set_option maxRecDepth 100000 in
theorem k_X5_toss (l : Launch) (hst : l.stackTraces = false) (G : GG) (hG : Ag G) (sz : Nat) (M : Mem) (x1 : Int32) (post : Int32 → Mem → Prop) (h : q_X5_toss M x1 post) : vx_Met l yX5_toss (Cond.codeWith yX5_toss cX5_toss 5 (some .int) [(22, 26, 29, 277)] :: wsL_law) (rmc 10 1 6) (va_Pc [.ref (ga G 0), .int x1] (Pe G sz M)) (va_Qi post (Qw G) (Af G sz)) (vx_X (fun _ : Unit => False) (fun _ _ _ => True) (Af G sz)) 1 6 (Af G sz) := by
  refine vx_ofWH (cc := cX5_toss) (maxL := 5) (ret := some .int) (hh := [(22, 26, 29, 277)]) (by decide) rfl ?_
  intro p e s m args below meth c s₁ B hml hv
  obtain ⟨rfl, ⟨hsz, hE, hP⟩, hX⟩ := hv
  subst hsz
  have C := Cx.ofH (own := RX5) hG hE rfl hml B
  have htab := vx_table (x := yX5_toss) B (C.ws kf_40_13)
  have w : Wd G s M s.heap [] := ⟨hP, va_S.rf⟩
  have hl := lv_entry [.ref (ga G 0), .int x1] (n := 5) (Nat.le_of_ble_eq_true rfl)
  rw [lg_entry_eq]
  generalize (lg_sl [.ref (ga G 0), .int x1] ++ List.replicate (5 - (lg_sl [.ref (ga G 0), .int x1]).length) Slot.unset).toArray = ls at hl ⊢
  have hl : lv_has ls 5 [(0, .ref (ga G 0)), (1, .int x1)] := hl
  have hx := C.1.1
  have hb := C.1.2.1
  show W p l e (rmc 10 1 6) s m _ below meth c s.heap [] 0 0 _ _
  unfold q_X5_toss at h
  refine lv_aload_n hx hb dX5_toss_0 rfl (lv_at hl 0 rfl) ?_
  refine lv_iload_n hx hb dX5_toss_1 rfl (lv_at hl 1 rfl) ?_
  refine eg_i w (rg_V (As := [.int x1]) C w hl.1 (c_X5_refusalOfPiece l G C.2.2.1 _ _ x1 _ h) kf_39_19 kf_1_2 kf_39_16 kf_39_17 kf_39_18 hd_X5_rop ⟨by decide, by decide⟩ ⟨by decide, by decide⟩ (w.recv C (i := 0) (by decide) pE_5 rfl) rfl (Nat.le_of_ble_eq_true rfl) dX5_toss_2) (fun r2 M1 H locs h w _ _ => ?_)
  refine lv_istore_n (lv' := [(2, .int r2), (0, .ref (ga G 0)), (1, .int x1)]) hx hb dX5_toss_5 rfl hl (by decide) rfl (fun ls hl => ?_)
  refine lv_iload_n hx hb dX5_toss_6 rfl (lv_at hl 0 rfl) ?_
  refine lv_if_ge (tgt := 12) hx hb dX5_toss_7 (by decide) (fun c1 => ?_) (fun c1 => ?_)
  · replace h := h.1 c1
    have hin := h.1
    replace h := h.2
    have hz := in_lt hin
    refine lv_aload_n hx hb dX5_toss_12 rfl (lv_at hl 1 rfl) ?_
    refine gt_5_6 C w kf_2_8 dX5_toss_13 ?_
    refine lv_iload_n hx hb dX5_toss_16 rfl (lv_at hl 2 rfl) ?_
    refine pw_ldS C w hin rfl dX5_toss_17 ?_
    refine gn_3_1 C w (by omega) knf_30 dX5_toss_18 ?_
    refine lv_astore_n (lv' := [(3, .ref (ga G (16 + (14 + x1.toNatClampNeg)))), (2, .int r2), (0, .ref (ga G 0)), (1, .int x1)]) hx hb dX5_toss_21 rfl hl (by decide) rfl (fun ls hl => ?_)
    refine lv_aload_n hx hb dX5_toss_22 rfl (lv_at hl 0 rfl) ?_
    refine vx_callv (vx_runVN (C := RX1) (As := []) (rest := []) C.1 (k_X1_fail l hst G C.2.2.1 _ _ (16 + (14 + x1.toNatClampNeg)) (by omega)) ⟨va_cnB 0 C.1.2.2.2.2 (good_y kf_40_16) rfl rfl rfl (C.2.1.2.1 _ knf_88) (C.ws kf_2_1) hd_X1_fail ⟨by decide, by decide⟩, C.ws kf_40_14, C.ws kf_40_15⟩ ⟨Pe.blind, w.recv C (i := 16 + (14 + x1.toNatClampNeg)) (by omega) (pE_1 (by omega)) rfl, w.pe C hX⟩ rfl rfl hl.1 rfl (lv_room (Nat.le_of_ble_eq_true rfl)) dX5_toss_23 ⟨by decide, by decide⟩) w.2 (fun q _ h => w.af q h) w.af (fun q _ h => w.af q h) (fun E ce q9 u t H1 locs1 ht _ hpx hB hz1 hk1 hS hce hcv hcl => ?_) (fun u t H1 locs1 ht _ hp hB hz1 hk1 hS => ?_)
    · obtain ⟨rfl, hB⟩ := hB
      obtain ⟨rfl, n1, n2⟩ := hpx
      have w : Wd G s u H1 locs1 := ⟨by unfold Qw at hB; rw [ht] at hB; exact hB, hS⟩
      replace h := h.2 ⟨n1, n2⟩
      obtain ⟨h1, h2, h3, h4, ⟨g1, g2, g3⟩, h5, ⟨a1, h6⟩, ⟨a2, h7⟩, ⟨a3, h8⟩⟩ := hX
      refine vx_catch (name := "java/lang/IllegalStateException") C.1.2.2.2.1 [] _ [] htab (fun z hz9 => nomatch hz9) (by decide) (by decide) (C.ws kf_38_13) (va_Nw.use rfl h4) hce hcv hcl ?_
      show W p l e (rmc 10 1 6) s m _ below meth c H1 locs1 (0 + 1) (0 + 6) _ (F0 m 29 ls [.ref q9])
      refine lv_astore (lv' := [(4, .ref q9), (3, .ref (ga G (16 + (14 + x1.toNatClampNeg)))), (2, .int r2), (0, .ref (ga G 0)), (1, .int x1)]) hx hb dX5_toss_29 hl (by decide) rfl (fun ls hl => ?_)
      refine lv_aload_n hx hb dX5_toss_31 rfl (lv_at hl 1 rfl) ?_
      refine eg_i w (rg_VN (As := []) C w hl.1 (c_X1_numberOfFailure l G C.2.2.1 _ _ (16 + (14 + x1.toNatClampNeg)) (by omega) _ h) kf_40_20 kf_2_1 knf_89 kf_40_18 kf_40_19 hd_X1_nof ⟨by decide, by decide⟩ ⟨by decide, by decide⟩ (w.recv C (i := 16 + (14 + x1.toNatClampNeg)) (by omega) (pE_1 (by omega)) rfl) rfl (Nat.le_of_ble_eq_true rfl) dX5_toss_32) (fun r3 M3 H locs h w _ _ => ?_)
      refine vx_ret ?_
      exact W.iret hx hb C.2.2.2.1 (fun t ht hW => ⟨⟨r3, M3, rfl, h, by unfold Qw; rw [ht]; exact w.1⟩, w.2.F ht⟩) w.2.2.2 dX5_toss_35 C.2.2.2.2
    · obtain ⟨rfl, n1⟩ := hp
      have w : Wd G s u H1 locs1 := ⟨by unfold Qw at hB; rw [ht] at hB; exact hB, hS⟩
      replace h := h.1 n1
      refine lv_goto (tgt := 36) hx hb dX5_toss_26 (by decide) ?_
      refine lv_bipush (v := -15) hx hb dX5_toss_36 (by decide) ?_
      refine vx_ret ?_
      exact W.iret hx hb C.2.2.2.1 (fun t ht hW => ⟨⟨-15, u, rfl, h, by unfold Qw; rw [ht]; exact w.1⟩, w.2.F ht⟩) w.2.2.2 dX5_toss_38 C.2.2.2.2
  · replace h := h.2 c1
    refine lv_iload_n hx hb dX5_toss_10 rfl (lv_at hl 0 rfl) ?_
    refine W.widen (k := 1) (n := 6) (by omega) (by omega) (vx_ret ?_)
    exact W.iret hx hb C.2.2.2.1 (fun t ht hW => ⟨⟨r2, M1, rfl, h, by unfold Qw; rw [ht]; exact w.1⟩, w.2.F ht⟩) w.2.2.2 dX5_toss_11 C.2.2.2.2
/-- the law's long array of one place -/
def outC (cJ : ClassId) (o : Int64) : Cell := vp_cell cJ (1, .inr (.inl (fun _ => o)))
def Ao (G : GG) (sz qo : Nat) : Nat → Prop := fun q => Af G sz q ∨ q = qo
def Po (G : GG) (sz : Nat) (M : Mem) (cJ : ClassId) (qo : Nat) (o : Int64) : State → Prop := fun U => Pe G sz M U ∧ U.heap[qo]? = some (outC cJ o) ∧ ArrOfT U cJ .long ∧ va_RA U cJ .long
def q_L_element (M : Mem) (o : Int64) (x1 x2 : Int32) (post : Int32 → Int64 → Mem → Prop) : Prop := q_X5_element M x1 x2 (fun r M1 => post 0 r M1) (fun M1 => post 1 o M1) (fun M1 => post 2 o M1)
theorem wl_outD {G : GG} {M : Mem} {sz qo : Nat} {e : va_E} (hG : Ag G) (hqo : ∀ i, i < 69 → qo ≠ ga G i) : va_D (Ao G sz qo) (wl G M ++ [(qo, e)]) := by
  refine va_D.app ((wl_D (sz := sz) hG).weaken (fun _ _ _ h => Or.inl h)) ?_ ?_
  · refine ⟨fun i j p q hp hq _ => ?_, fun k q hk => ?_⟩
    · have h1 : i < 1 := (List.getElem?_eq_some_iff.mp hp).1
      have h2 : j < 1 := (List.getElem?_eq_some_iff.mp hq).1
      omega
    · have hz : k < 1 := (List.getElem?_eq_some_iff.mp hk).1
      rw [show k = 0 by omega] at hk
      cases hk
      exact Or.inr rfl
  · intro i j x y hx hy hxy
    obtain ⟨h1, rfl⟩ := wl_inv hx
    have hz : j < 1 := (List.getElem?_eq_some_iff.mp hy).1
    rw [show j = 0 by omega] at hy
    cases hy
    exact hqo i h1 hxy.symm
set_option maxHeartbeats 4000000 in
set_option maxRecDepth 100000 in
theorem k_L_element (l : Launch) (hst : l.stackTraces = false) (G : GG) (hG : Ag G) (sz : Nat) (M : Mem) (cJ : ClassId) (qo : Nat) (hqo : ∀ i, i < 69 → qo ≠ ga G i) (hqz : gz G ≤ qo) (hqs : qo < sz) (o : Int64) (x1 x2 : Int32) (post : Int32 → Int64 → Mem → Prop) (h : q_L_element M o x1 x2 post) : vx_Met l yL_element (Cond.codeWith yL_element cL_element 5 (some .int) [(0, 9, 12, 13), (0, 9, 16, 15)] :: wsL_law) (rmc 10 1 6) (va_Pc [.ref (ga G 0), .int x1, .int x2, .ref qo] (Po G sz M cJ qo o)) (va_Qi (S := Int64 × Mem) (fun r u => post r u.1 u.2) (fun u t => Qw G u.2 t ∧ t.heap[qo]? = some (outC cJ u.1)) (Ao G sz qo)) (vx_X (fun _ : Unit => False) (fun _ _ _ => True) (Ao G sz qo)) 1 6 (Ao G sz qo) := by
  refine vx_ofWH (cc := cL_element) (maxL := 5) (ret := some .int) (hh := [(0, 9, 12, 13), (0, 9, 16, 15)]) (by decide) rfl ?_
  intro p e s m args below meth c s₁ B hml hv
  obtain ⟨rfl, ⟨⟨hsz, hE, hP⟩, hX⟩, ho, hJ, hJ2⟩ := hv
  subst hsz
  have C := Cx.ofH (own := RL) hG hE rfl hml B
  have htab := vx_table (x := yL_element) B (C.ws kf_38_4)
  have w : Wd G s M s.heap [] := ⟨hP, va_S.rf⟩
  have hl := lv_entry [.ref (ga G 0), .int x1, .int x2, .ref qo] (n := 5) (Nat.le_of_ble_eq_true rfl)
  rw [lg_entry_eq]
  generalize (lg_sl [.ref (ga G 0), .int x1, .int x2, .ref qo] ++ List.replicate (5 - (lg_sl [.ref (ga G 0), .int x1, .int x2, .ref qo]).length) Slot.unset).toArray = ls at hl ⊢
  have hl : lv_has ls 5 [(0, .ref (ga G 0)), (1, .int x1), (2, .int x2), (3, .ref qo)] := hl
  have hx := C.1.1
  have hb := C.1.2.1
  have hnA : ∀ H : Heap, qo < H.size → ¬ Af G H.size qo := fun H hh z => z.elim (fun ⟨i, hi, e⟩ => hqo i hi e) (fun z => Nat.not_le.mpr hh z)
  show W p l e (rmc 10 1 6) s m _ below meth c s.heap [] 0 0 _ _
  unfold q_L_element at h
  refine lv_aload_n hx hb dL_element_0 rfl (lv_at hl 3 rfl) ?_
  refine lv_iconst (v := 0) hx hb dL_element_1 (by decide) ?_
  refine lv_aload_n hx hb dL_element_2 rfl (lv_at hl 0 rfl) ?_
  refine lv_iload_n hx hb dL_element_3 rfl (lv_at hl 1 rfl) ?_
  refine lv_iload_n hx hb dL_element_4 rfl (lv_at hl 2 rfl) ?_
  refine vx_calll (vx_runV (C := RX5) (As := [.int x1, .int x2]) (rest := [.int 0, .ref qo]) C.1 (k_X5_element l hst G C.2.2.1 _ _ x1 x2 _ _ _ h) ⟨callB_of 2 C.1.2.2.2.2 (good_y kf_38_10) rfl rfl rfl (C.ws kf_1_2) (C.ws kf_38_7) hd_X5_el ⟨by decide, by decide⟩, C.ws kf_38_8, C.ws kf_38_9⟩ ⟨Pe.blind, w.recv C (i := 0) (by decide) pE_5 rfl, w.pe C hX⟩ rfl rfl hl.1 rfl (lv_room (Nat.le_of_ble_eq_true rfl)) dL_element_5 ⟨by decide, by decide⟩) w.2 (fun q _ h => w.af q h) w.af (fun q _ h => w.af q h) (fun E ce q9 u t H1 locs1 ht _ hpx hB hz1 hk1 hS hce hcv hcl => ?_) (fun r u t H1 locs1 ht _ hp hB hz1 hk1 hS => ?_)
  · obtain ⟨hE9, hB⟩ := hB
    have w : Wd G s u.2 H1 locs1 := ⟨by unfold Qw at hB; rw [ht] at hB; exact hB, hS⟩
    have ho1 : H1[qo]? = some (outC cJ o) := by rw [hk1 qo hqs (hnA _ hqs)]; exact ho
    obtain ⟨h1, h2, h3, h4, ⟨g1, g2, g3⟩, h5, ⟨a1, h6⟩, ⟨a2, h7⟩, ⟨a3, h8⟩⟩ := hX
    obtain ⟨ub, uM⟩ := u
    cases ub with
    | true =>
      replace h := hpx.1 rfl
      have hE9 : E = "java/lang/IllegalArgumentException" := hE9
      subst hE9
      refine vx_catch (name := "java/lang/IllegalArgumentException") C.1.2.2.2.1 [] _ _ htab (fun z hz9 => nomatch hz9) (by decide) (by decide) (C.ws kf_38_5) (va_Nw.use rfl h3) hce hcv hcl ?_
      show W p l e (rmc 10 1 6) s m _ below meth c H1 locs1 (0 + 1) (0 + 6) _ (F0 m 12 ls [.ref q9])
      refine lv_astore (lv' := [(4, .ref q9), (0, .ref (ga G 0)), (1, .int x1), (2, .int x2), (3, .ref qo)]) hx hb dL_element_12 hl (by decide) rfl (fun ls hl => ?_)
      refine lv_iconst (v := 1) hx hb dL_element_14 (by decide) ?_
      refine vx_ret ?_
      exact W.iret hx hb C.2.2.2.1 (fun t ht hW => ⟨⟨1, (o, uM), rfl, h, by unfold Qw; rw [ht]; exact w.1, by rw [ht]; exact ho1⟩, ⟨by rw [ht]; exact w.2.1, fun q z1 z2 => by rw [ht]; exact w.2.2.1 q z1 (fun z => z2 (Or.inl z))⟩⟩) (fun q hq => Or.inl (w.2.2.2 q hq)) dL_element_15 C.2.2.2.2
    | false =>
      replace h := hpx.2 rfl
      have hE9 : E = "java/lang/IllegalStateException" := hE9
      subst hE9
      refine vx_catch (name := "java/lang/IllegalStateException") C.1.2.2.2.1 [_] _ [] htab (fun z hz9 => ?_) (by decide) (by decide) (C.ws kf_38_6) (va_Nw.use rfl h4) hce hcv hcl ?_
      · rcases List.mem_singleton.mp hz9 with rfl
        exact Or.inr ⟨by decide, "java/lang/IllegalArgumentException", C.ws kf_38_5, h5⟩
      show W p l e (rmc 10 1 6) s m _ below meth c H1 locs1 (0 + 1) (0 + 6) _ (F0 m 16 ls [.ref q9])
      refine lv_astore (lv' := [(4, .ref q9), (0, .ref (ga G 0)), (1, .int x1), (2, .int x2), (3, .ref qo)]) hx hb dL_element_16 hl (by decide) rfl (fun ls hl => ?_)
      refine lv_iconst (v := 2) hx hb dL_element_18 (by decide) ?_
      refine vx_ret ?_
      exact W.iret hx hb C.2.2.2.1 (fun t ht hW => ⟨⟨2, (o, uM), rfl, h, by unfold Qw; rw [ht]; exact w.1, by rw [ht]; exact ho1⟩, ⟨by rw [ht]; exact w.2.1, fun q z1 z2 => by rw [ht]; exact w.2.2.1 q z1 (fun z => z2 (Or.inl z))⟩⟩) (fun q hq => Or.inl (w.2.2.2 q hq)) dL_element_19 C.2.2.2.2
  · have w : Wd G s u H1 locs1 := ⟨by unfold Qw at hB; rw [ht] at hB; exact hB, hS⟩
    have ho1 : H1[qo]? = some (outC cJ o) := by rw [hk1 qo hqs (hnA _ hqs)]; exact ho
    have hKo : va_K (gD G) vwCl [(cJ, .long)] s := ⟨C.2.1.1.1, fun k q hk => by
      have hz : k < 1 := (List.getElem?_eq_some_iff.mp hk).1
      rw [show k = 0 by omega] at hk
      cases hk
      exact ⟨hJ, hJ2⟩⟩
    have hPo : va_P (gD G) vwCl (wl G u ++ [(qo, .inl (cJ, 1, .inr (.inl (fun _ => o))))]) H1 := w.1.app (fun k q hk => by
      have hz : k < 1 := (List.getElem?_eq_some_iff.mp hk).1
      rw [show k = 0 by omega] at hk
      cases hk
      exact ho1)
    have hSo : va_S (Ao G s.heap.size qo) s.heap H1 locs1 := ⟨w.2.1, fun q z1 z2 => w.2.2.1 q z1 (fun z => z2 (Or.inl z)), fun q hq => Or.inl (w.2.2.2 q hq)⟩
    have hlen : (wl G u).length = 69 := by simp [wl]
    refine va_last hx hb hKo hPo (wl_outD C.2.2.1 hqo) hSo 69 0 (by rw [List.getElem?_append_right (by omega), hlen]; rfl) rfl (vl (by decide)) dL_element_8 (fun H2 locs2 hP2 hD2 hS2 => ?_)
    rw [List.set_append_right _ _ (by omega), hlen] at hP2
    have hw2 : va_P (gD G) vwCl (wl G u) H2 := fun k q hk => hP2 k q (by rw [List.getElem?_append_left (List.getElem?_eq_some_iff.mp hk).1]; exact hk)
    have ho2 : H2[qo]? = some (outC cJ r) := by
      have := hP2 69 (qo, .inl (cJ, 1, .inr (.inl (vp_updL (fun _ => o) (0 : Int32).toNatClampNeg r)))) (by rw [List.getElem?_append_right (by omega), hlen]; rfl)
      have e9 : vp_cell cJ (1, .inr (.inl (vp_updL (fun _ => o) (0 : Int32).toNatClampNeg r))) = outC cJ r := by
        unfold outC
        rw [vp_cell_l, vp_cell_l]
        unfold arrV
        congr 1
      rw [← e9]
      exact this
    refine lv_goto (tgt := 20) hx hb dL_element_9 (by decide) ?_
    refine lv_iconst (v := 0) hx hb dL_element_20 (by decide) ?_
    refine vx_ret ?_
    exact W.iret hx hb C.2.2.2.1 (fun t ht hW => ⟨⟨0, (r, u), rfl, hp, by unfold Qw; rw [ht]; exact hw2, by rw [ht]; exact ho2⟩, hS2.F ht⟩) hS2.2.2 dL_element_21 C.2.2.2.2
