theorem dX1_cost_0 : decode cX1_cost 0 = .ok (.aload_n 0, 1) := by decide +kernel
theorem dX1_cost_1 : decode cX1_cost 1 = .ok (.getfield 11, 3) := by decide +kernel
theorem dX1_cost_4 : decode cX1_cost 4 = .ok (.aload_n 0, 1) := by decide +kernel
theorem dX1_cost_5 : decode cX1_cost 5 = .ok (.getfield 15, 3) := by decide +kernel
theorem dX1_cost_8 : decode cX1_cost 8 = .ok (.aload_n 0, 1) := by decide +kernel
theorem dX1_cost_9 : decode cX1_cost 9 = .ok (.getfield 18, 3) := by decide +kernel
theorem dX1_cost_12 : decode cX1_cost 12 = .ok (.invokestatic 52, 3) := by decide +kernel
theorem dX1_cost_15 : decode cX1_cost 15 = .ok (.ireturn, 1) := by decide +kernel
theorem dX5_refusalOfPiece_0 : decode cX5_refusalOfPiece 0 = .ok (.aload_n 0, 1) := by decide +kernel
theorem dX5_refusalOfPiece_1 : decode cX5_refusalOfPiece 1 = .ok (.iload_n 1, 1) := by decide +kernel
theorem dX5_refusalOfPiece_2 : decode cX5_refusalOfPiece 2 = .ok (.iconst 1, 1) := by decide +kernel
theorem dX5_refusalOfPiece_3 : decode cX5_refusalOfPiece 3 = .ok (.invokevirtual 315, 3) := by decide +kernel
theorem dX5_refusalOfPiece_6 : decode cX5_refusalOfPiece 6 = .ok (.ireturn, 1) := by decide +kernel
theorem dX5_price_0 : decode cX5_price 0 = .ok (.aload_n 0, 1) := by decide +kernel
theorem dX5_price_1 : decode cX5_price 1 = .ok (.iload_n 1, 1) := by decide +kernel
theorem dX5_price_2 : decode cX5_price 2 = .ok (.invokevirtual 297, 3) := by decide +kernel
theorem dX5_price_5 : decode cX5_price 5 = .ok (.istore_n 2, 1) := by decide +kernel
theorem dX5_price_6 : decode cX5_price 6 = .ok (.iload_n 2, 1) := by decide +kernel
theorem dX5_price_7 : decode cX5_price 7 = .ok (.ifCond .ge 7, 3) := by decide +kernel
theorem dX5_price_10 : decode cX5_price 10 = .ok (.iload_n 2, 1) := by decide +kernel
theorem dX5_price_11 : decode cX5_price 11 = .ok (.goto 15, 3) := by decide +kernel
theorem dX5_price_14 : decode cX5_price 14 = .ok (.aload_n 0, 1) := by decide +kernel
theorem dX5_price_15 : decode cX5_price 15 = .ok (.getfield 45, 3) := by decide +kernel
theorem dX5_price_18 : decode cX5_price 18 = .ok (.iload_n 1, 1) := by decide +kernel
theorem dX5_price_19 : decode cX5_price 19 = .ok (.aaload, 1) := by decide +kernel
theorem dX5_price_20 : decode cX5_price 20 = .ok (.getfield 300, 3) := by decide +kernel
theorem dX5_price_23 : decode cX5_price 23 = .ok (.invokevirtual 303, 3) := by decide +kernel
theorem dX5_price_26 : decode cX5_price 26 = .ok (.ireturn, 1) := by decide +kernel
theorem dX6_wrongKept_0 : decode cX6_wrongKept 0 = .ok (.iload_n 1, 1) := by decide +kernel
theorem dX6_wrongKept_1 : decode cX6_wrongKept 1 = .ok (.invokestatic 94, 3) := by decide +kernel
theorem dX6_wrongKept_4 : decode cX6_wrongKept 4 = .ok (.ifCond .ne 7, 3) := by decide +kernel
theorem dX6_wrongKept_7 : decode cX6_wrongKept 7 = .ok (.iconst (-1), 1) := by decide +kernel
theorem dX6_wrongKept_8 : decode cX6_wrongKept 8 = .ok (.goto 33, 3) := by decide +kernel
theorem dX6_wrongKept_11 : decode cX6_wrongKept 11 = .ok (.aload_n 0, 1) := by decide +kernel
theorem dX6_wrongKept_12 : decode cX6_wrongKept 12 = .ok (.getfield 22, 3) := by decide +kernel
theorem dX6_wrongKept_15 : decode cX6_wrongKept 15 = .ok (.iload_n 1, 1) := by decide +kernel
theorem dX6_wrongKept_16 : decode cX6_wrongKept 16 = .ok (.iaload, 1) := by decide +kernel
theorem dX6_wrongKept_17 : decode cX6_wrongKept 17 = .ok (.ifCond .ne 8, 3) := by decide +kernel
theorem dX6_wrongKept_20 : decode cX6_wrongKept 20 = .ok (.bipush (-11), 2) := by decide +kernel
theorem dX6_wrongKept_22 : decode cX6_wrongKept 22 = .ok (.goto 19, 3) := by decide +kernel
theorem dX6_wrongKept_25 : decode cX6_wrongKept 25 = .ok (.aload_n 0, 1) := by decide +kernel
theorem dX6_wrongKept_26 : decode cX6_wrongKept 26 = .ok (.getfield 22, 3) := by decide +kernel
theorem dX6_wrongKept_29 : decode cX6_wrongKept 29 = .ok (.iload_n 1, 1) := by decide +kernel
theorem dX6_wrongKept_30 : decode cX6_wrongKept 30 = .ok (.iaload, 1) := by decide +kernel
theorem dX6_wrongKept_31 : decode cX6_wrongKept 31 = .ok (.iconst 1, 1) := by decide +kernel
theorem dX6_wrongKept_32 : decode cX6_wrongKept 32 = .ok (.if_icmp .ne 7, 3) := by decide +kernel
theorem dX6_wrongKept_35 : decode cX6_wrongKept 35 = .ok (.iconst 0, 1) := by decide +kernel
theorem dX6_wrongKept_36 : decode cX6_wrongKept 36 = .ok (.goto 5, 3) := by decide +kernel
theorem dX6_wrongKept_39 : decode cX6_wrongKept 39 = .ok (.bipush (-12), 2) := by decide +kernel
theorem dX6_wrongKept_41 : decode cX6_wrongKept 41 = .ok (.ireturn, 1) := by decide +kernel
theorem dX6_price_0 : decode cX6_price 0 = .ok (.aload_n 0, 1) := by decide +kernel
theorem dX6_price_1 : decode cX6_price 1 = .ok (.iload_n 1, 1) := by decide +kernel
theorem dX6_price_2 : decode cX6_price 2 = .ok (.invokevirtual 258, 3) := by decide +kernel
theorem dX6_price_5 : decode cX6_price 5 = .ok (.istore_n 2, 1) := by decide +kernel
theorem dX6_price_6 : decode cX6_price 6 = .ok (.iload_n 2, 1) := by decide +kernel
theorem dX6_price_7 : decode cX6_price 7 = .ok (.ifCond .eq 7, 3) := by decide +kernel
theorem dX6_price_10 : decode cX6_price 10 = .ok (.iload_n 2, 1) := by decide +kernel
theorem dX6_price_11 : decode cX6_price 11 = .ok (.goto 9, 3) := by decide +kernel
theorem dX6_price_14 : decode cX6_price 14 = .ok (.aload_n 0, 1) := by decide +kernel
theorem dX6_price_15 : decode cX6_price 15 = .ok (.getfield 34, 3) := by decide +kernel
theorem dX6_price_18 : decode cX6_price 18 = .ok (.iload_n 1, 1) := by decide +kernel
theorem dX6_price_19 : decode cX6_price 19 = .ok (.iaload, 1) := by decide +kernel
theorem dX6_price_20 : decode cX6_price 20 = .ok (.ireturn, 1) := by decide +kernel
theorem dX1_numberOfFailure_0 : decode cX1_numberOfFailure 0 = .ok (.aload_n 0, 1) := by decide +kernel
theorem dX1_numberOfFailure_1 : decode cX1_numberOfFailure 1 = .ok (.getfield 11, 3) := by decide +kernel
theorem dX1_numberOfFailure_4 : decode cX1_numberOfFailure 4 = .ok (.lookupswitch 45 #[(4, 28), (7, 36)], 28) := by decide +kernel
theorem dX1_numberOfFailure_32 : decode cX1_numberOfFailure 32 = .ok (.aload_n 0, 1) := by decide +kernel
theorem dX1_numberOfFailure_33 : decode cX1_numberOfFailure 33 = .ok (.getfield 21, 3) := by decide +kernel
theorem dX1_numberOfFailure_36 : decode cX1_numberOfFailure 36 = .ok (.bipush 100, 2) := by decide +kernel
theorem dX1_numberOfFailure_38 : decode cX1_numberOfFailure 38 = .ok (.iadd, 1) := by decide +kernel
theorem dX1_numberOfFailure_39 : decode cX1_numberOfFailure 39 = .ok (.ireturn, 1) := by decide +kernel
theorem dX1_numberOfFailure_40 : decode cX1_numberOfFailure 40 = .ok (.sipush 200, 3) := by decide +kernel
theorem dX1_numberOfFailure_43 : decode cX1_numberOfFailure 43 = .ok (.aload_n 0, 1) := by decide +kernel
theorem dX1_numberOfFailure_44 : decode cX1_numberOfFailure 44 = .ok (.getfield 36, 3) := by decide +kernel
theorem dX1_numberOfFailure_47 : decode cX1_numberOfFailure 47 = .ok (.iadd, 1) := by decide +kernel
theorem dX1_numberOfFailure_48 : decode cX1_numberOfFailure 48 = .ok (.ireturn, 1) := by decide +kernel
theorem dX1_numberOfFailure_49 : decode cX1_numberOfFailure 49 = .ok (.aload_n 0, 1) := by decide +kernel
theorem dX1_numberOfFailure_50 : decode cX1_numberOfFailure 50 = .ok (.getfield 21, 3) := by decide +kernel
theorem dX1_numberOfFailure_53 : decode cX1_numberOfFailure 53 = .ok (.ireturn, 1) := by decide +kernel
theorem dX6_toss_0 : decode cX6_toss 0 = .ok (.aload_n 0, 1) := by decide +kernel
theorem dX6_toss_1 : decode cX6_toss 1 = .ok (.iload_n 1, 1) := by decide +kernel
theorem dX6_toss_2 : decode cX6_toss 2 = .ok (.invokevirtual 258, 3) := by decide +kernel
theorem dX6_toss_5 : decode cX6_toss 5 = .ok (.istore_n 2, 1) := by decide +kernel
theorem dX6_toss_6 : decode cX6_toss 6 = .ok (.iload_n 2, 1) := by decide +kernel
theorem dX6_toss_7 : decode cX6_toss 7 = .ok (.ifCond .eq 7, 3) := by decide +kernel
theorem dX6_toss_10 : decode cX6_toss 10 = .ok (.iload_n 2, 1) := by decide +kernel
theorem dX6_toss_11 : decode cX6_toss 11 = .ok (.goto 9, 3) := by decide +kernel
theorem dX6_toss_14 : decode cX6_toss 14 = .ok (.aload_n 0, 1) := by decide +kernel
theorem dX6_toss_15 : decode cX6_toss 15 = .ok (.getfield 37, 3) := by decide +kernel
theorem dX6_toss_18 : decode cX6_toss 18 = .ok (.iload_n 1, 1) := by decide +kernel
theorem dX6_toss_19 : decode cX6_toss 19 = .ok (.iaload, 1) := by decide +kernel
theorem dX6_toss_20 : decode cX6_toss 20 = .ok (.ireturn, 1) := by decide +kernel
section WALK
variable {p : Program} {l : Launch} {e : Env} {s : State} {m : MethodId} {args : Array Value} {below : List Frame} {meth : Method} {c : Code} {G : GG}

def q_X1_cost (M : Mem) (a0 : Nat) (post : Int32 → Mem → Prop) : Prop := q_X1_costOf 4 M (M a0 0) (M a0 1) (M a0 2) (fun r1 M2 => post r1 M2)
set_option maxHeartbeats 4000000 in
set_option maxRecDepth 100000 in
theorem c_X1_cost (l : Launch) (G : GG) (hG : Ag G) (sz : Nat) (M : Mem) (a0 : Nat) (ha0 : 30 ≤ a0 ∧ a0 < 57) (post : Int32 → Mem → Prop) (h : q_X1_cost M a0 post) : Met l yX1_cost (Cond.code yX1_cost cX1_cost 1 (some .int) :: wsL_law) (rmk 5) (va_Pc [.ref (ga G a0)] (Pw G sz M)) (va_Qi post (Qw G) (Af G sz)) 0 0 (Af G sz) := by
  refine Met.ofW (cc := cX1_cost) (maxL := 1) (ret := (some .int)) (by decide) rfl ?_
  intro p e s m args below meth c s₁ B hml hv
  obtain ⟨rfl, hsz, hE, hP⟩ := hv
  subst hsz
  have C := Cx.of (own := RX1) hG hE rfl hml B
  have w : Wd G s M s.heap [] := ⟨hP, va_S.rf⟩
  have hl := lv_entry [.ref (ga G a0)] (n := 1) (Nat.le_of_ble_eq_true rfl)
  rw [lg_entry_eq]
  generalize (lg_sl [.ref (ga G a0)] ++ List.replicate (1 - (lg_sl [.ref (ga G a0)]).length) Slot.unset).toArray = ls at hl ⊢
  have hl : lv_has ls 1 [(0, .ref (ga G a0))] := hl
  have hx := C.1.1
  have hb := C.1.2.1
  show W p l e (rmk 5) s m _ below meth c s.heap [] 0 0 _ _
  unfold q_X1_cost at h
  refine lv_aload_n hx hb dX1_cost_0 rfl (lv_at hl 0 rfl) ?_
  refine gt_1_0 C w ha0 kw_3_10 dX1_cost_1 ?_
  refine lv_aload_n hx hb dX1_cost_4 rfl (lv_at hl 0 rfl) ?_
  refine gt_1_1 C w ha0 kw_3_11 dX1_cost_5 ?_
  refine lv_aload_n hx hb dX1_cost_8 rfl (lv_at hl 0 rfl) ?_
  refine gt_1_2 C w ha0 kw_3_12 dX1_cost_9 ?_
  refine end_i w (run_S (As := [.int (M a0 0), .int (M a0 1), .int (M a0 2)]) C w hl.1 (c_X1_costOf l G C.2.2.1 4 _ _ (M a0 0) (M a0 1) (M a0 2) _ h) kw_40_1 kw_2_1 kw_39_23 kw_40_0 hd_X1_costOf ⟨by decide, by decide⟩ rfl (Nat.le_of_ble_eq_true rfl) dX1_cost_12) (fun r1 M2 H locs h w => ?_)
  exact ret_i C w h dX1_cost_15
def q_X5_refusalOfPiece (M : Mem) (x1 : Int32) (post : Int32 → Mem → Prop) : Prop := q_X5_refusalOfHolding M x1 (1 : Int32) (fun r1 M2 => post r1 M2)
set_option maxHeartbeats 4000000 in
set_option maxRecDepth 100000 in
theorem c_X5_refusalOfPiece (l : Launch) (G : GG) (hG : Ag G) (sz : Nat) (M : Mem) (x1 : Int32) (post : Int32 → Mem → Prop) (h : q_X5_refusalOfPiece M x1 post) : Met l yX5_refusalOfPiece (Cond.code yX5_refusalOfPiece cX5_refusalOfPiece 2 (some .int) :: wsL_law) (rmk 4) (va_Pc [.ref (ga G 0), .int x1] (Pw G sz M)) (va_Qi post (Qw G) (Af G sz)) 0 0 (Af G sz) := by
  refine Met.ofW (cc := cX5_refusalOfPiece) (maxL := 2) (ret := (some .int)) (by decide) rfl ?_
  intro p e s m args below meth c s₁ B hml hv
  obtain ⟨rfl, hsz, hE, hP⟩ := hv
  subst hsz
  have C := Cx.of (own := RX5) hG hE rfl hml B
  have w : Wd G s M s.heap [] := ⟨hP, va_S.rf⟩
  have hl := lv_entry [.ref (ga G 0), .int x1] (n := 2) (Nat.le_of_ble_eq_true rfl)
  rw [lg_entry_eq]
  generalize (lg_sl [.ref (ga G 0), .int x1] ++ List.replicate (2 - (lg_sl [.ref (ga G 0), .int x1]).length) Slot.unset).toArray = ls at hl ⊢
  have hl : lv_has ls 2 [(0, .ref (ga G 0)), (1, .int x1)] := hl
  have hx := C.1.1
  have hb := C.1.2.1
  show W p l e (rmk 4) s m _ below meth c s.heap [] 0 0 _ _
  unfold q_X5_refusalOfPiece at h
  refine lv_aload_n hx hb dX5_refusalOfPiece_0 rfl (lv_at hl 0 rfl) ?_
  refine lv_iload_n hx hb dX5_refusalOfPiece_1 rfl (lv_at hl 1 rfl) ?_
  refine lv_iconst (v := 1) hx hb dX5_refusalOfPiece_2 (by decide) ?_
  refine end_i w (run_V (As := [.int x1, .int (1 : Int32)]) C w hl.1 (c_X5_refusalOfHolding l G C.2.2.1 _ _ x1 (1 : Int32)  _ h) kw_6_2 kw_1_2 kw_5_23 kw_6_0 kw_6_1 hd_X5_refusalOfHolding ⟨by decide, by decide⟩ (w.recv C (i := 0) (by decide) (pE_5) rfl) rfl (Nat.le_of_ble_eq_true rfl) dX5_refusalOfPiece_3) (fun r1 M2 H locs h w => ?_)
  exact ret_i C w h dX5_refusalOfPiece_6
def j_X5_price_26 (post : Int32 → Mem → Prop) (M : Mem) (y0 : Int32) : Prop := post y0 M
def q_X5_price (M : Mem) (x1 : Int32) (post : Int32 → Mem → Prop) : Prop := q_X5_refusalOfPiece M x1 (fun r1 M2 => (0 ≤ r1 → (vp_in x1 8 ∧ (q_X1_cost M2 (16 + (14 + x1.toNatClampNeg)) (fun r5 M6 => j_X5_price_26 post M6 r5)))) ∧ (¬ (0 ≤ r1) → (j_X5_price_26 post M2 r1)))
set_option maxHeartbeats 4000000 in
set_option maxRecDepth 100000 in
theorem t_X5_price_26 (C : Cx G p s m args meth c RX5 cX5_price 3 (some .int)) {post : Int32 → Mem → Prop} (M : Mem) (y0 : Int32) {H : Heap} {locs : List Loc} {ls : Array Slot} (w : Wd G s M H locs) (hl : lv_has ls 3 []) (h : j_X5_price_26 post M y0) : W p l e (rmk 6) s m args below meth c H locs 0 0 (MQ below (va_Qi post (Qw G) (Af G s.heap.size)) args s 0 0 (Af G s.heap.size)) (F0 m 26 ls [.int y0]) := by
  have hx := C.1.1
  have hb := C.1.2.1
  unfold j_X5_price_26 at h
  exact ret_i C w h dX5_price_26
set_option maxHeartbeats 4000000 in
set_option maxRecDepth 100000 in
theorem c_X5_price (l : Launch) (G : GG) (hG : Ag G) (sz : Nat) (M : Mem) (x1 : Int32) (post : Int32 → Mem → Prop) (h : q_X5_price M x1 post) : Met l yX5_price (Cond.code yX5_price cX5_price 3 (some .int) :: wsL_law) (rmk 6) (va_Pc [.ref (ga G 0), .int x1] (Pw G sz M)) (va_Qi post (Qw G) (Af G sz)) 0 0 (Af G sz) := by
  refine Met.ofW (cc := cX5_price) (maxL := 3) (ret := (some .int)) (by decide) rfl ?_
  intro p e s m args below meth c s₁ B hml hv
  obtain ⟨rfl, hsz, hE, hP⟩ := hv
  subst hsz
  have C := Cx.of (own := RX5) hG hE rfl hml B
  have w : Wd G s M s.heap [] := ⟨hP, va_S.rf⟩
  have hl := lv_entry [.ref (ga G 0), .int x1] (n := 3) (Nat.le_of_ble_eq_true rfl)
  rw [lg_entry_eq]
  generalize (lg_sl [.ref (ga G 0), .int x1] ++ List.replicate (3 - (lg_sl [.ref (ga G 0), .int x1]).length) Slot.unset).toArray = ls at hl ⊢
  have hl : lv_has ls 3 [(0, .ref (ga G 0)), (1, .int x1)] := hl
  have hx := C.1.1
  have hb := C.1.2.1
  show W p l e (rmk 6) s m _ below meth c s.heap [] 0 0 _ _
  unfold q_X5_price at h
  refine lv_aload_n hx hb dX5_price_0 rfl (lv_at hl 0 rfl) ?_
  refine lv_iload_n hx hb dX5_price_1 rfl (lv_at hl 1 rfl) ?_
  refine end_i w (run_V (As := [.int x1]) C w hl.1 (c_X5_refusalOfPiece l G C.2.2.1 _ _ x1  _ h) kw_39_19 kw_1_2 kw_39_16 kw_39_17 kw_39_18 hd_X5_refusalOfPiece ⟨by decide, by decide⟩ (w.recv C (i := 0) (by decide) (pE_5) rfl) rfl (Nat.le_of_ble_eq_true rfl) dX5_price_2) (fun r1 M2 H locs h w => ?_)
  refine lv_istore_n (lv' := [(2, .int r1), (0, .ref (ga G 0)), (1, .int x1)]) hx hb dX5_price_5 rfl hl (by decide) rfl (fun ls hl => ?_)
  refine lv_iload_n hx hb dX5_price_6 rfl (lv_at hl 0 rfl) ?_
  refine lv_if_ge (tgt := 14) hx hb dX5_price_7 (by decide) (fun c3 => ?_) (fun c3 => ?_)
  · replace h := h.1 c3
    refine lv_aload_n hx hb dX5_price_14 rfl (lv_at hl 1 rfl) ?_
    refine gt_5_6 C w kw_2_8 dX5_price_15 ?_
    refine lv_iload_n hx hb dX5_price_18 rfl (lv_at hl 2 rfl) ?_
    have hin4 := h.1
    replace h := h.2
    have hz_hin4 := in_lt hin4
    refine pw_ldS C w hin4 rfl dX5_price_19 ?_
    refine gn_3_1 C w (by omega) kn_30 dX5_price_20 ?_
    refine end_i w (run_VN (As := []) C w hl.1 (c_X1_cost l G C.2.2.1 _ _ (16 + (14 + x1.toNatClampNeg)) (by omega) _ h) kw_39_22 kw_2_1 kn_87 kw_39_20 kw_39_21 hd_X1_cost ⟨by decide, by decide⟩ (w.recv C (i := (16 + (14 + x1.toNatClampNeg))) (by omega) (pE_1 (by omega)) rfl) rfl (Nat.le_of_ble_eq_true rfl) dX5_price_23) (fun r5 M6 H locs h w => ?_)
    exact t_X5_price_26 C M6 r5  w (lv_sub hl [] rfl) h
  replace h := h.2 c3
  refine lv_iload_n hx hb dX5_price_10 rfl (lv_at hl 0 rfl) ?_
  refine lv_goto (tgt := 26) hx hb dX5_price_11 (by decide) ?_
  exact t_X5_price_26 C M2 r1  w (lv_sub hl [] rfl) h
def j_X6_wrongKept_41 (post : Int32 → Mem → Prop) (M : Mem) (y0 : Int32) : Prop := post y0 M
def q_X6_wrongKept (M : Mem) (x1 : Int32) (post : Int32 → Mem → Prop) : Prop := q_X6_isShelf M x1 (fun r1 M2 => (r1 = 0 → (j_X6_wrongKept_41 post M2 (-1 : Int32))) ∧ (¬ (r1 = 0) → (vp_in x1 8 ∧ (((M2 62 x1.toNatClampNeg) = 0 → (j_X6_wrongKept_41 post M2 (-11 : Int32))) ∧ (¬ ((M2 62 x1.toNatClampNeg) = 0) → (((M2 62 x1.toNatClampNeg) = (1 : Int32) → (j_X6_wrongKept_41 post M2 (0 : Int32))) ∧ (¬ ((M2 62 x1.toNatClampNeg) = (1 : Int32)) → (j_X6_wrongKept_41 post M2 (-12 : Int32)))))))))
set_option maxHeartbeats 4000000 in
set_option maxRecDepth 100000 in
theorem t_X6_wrongKept_41 (C : Cx G p s m args meth c RX6 cX6_wrongKept 2 (some .int)) {post : Int32 → Mem → Prop} (M : Mem) (y0 : Int32) {H : Heap} {locs : List Loc} {ls : Array Slot} (w : Wd G s M H locs) (hl : lv_has ls 2 []) (h : j_X6_wrongKept_41 post M y0) : W p l e (rmk 3) s m args below meth c H locs 0 0 (MQ below (va_Qi post (Qw G) (Af G s.heap.size)) args s 0 0 (Af G s.heap.size)) (F0 m 41 ls [.int y0]) := by
  have hx := C.1.1
  have hb := C.1.2.1
  unfold j_X6_wrongKept_41 at h
  exact ret_i C w h dX6_wrongKept_41
set_option maxHeartbeats 4000000 in
set_option maxRecDepth 100000 in
theorem c_X6_wrongKept (l : Launch) (G : GG) (hG : Ag G) (sz : Nat) (M : Mem) (x1 : Int32) (post : Int32 → Mem → Prop) (h : q_X6_wrongKept M x1 post) : Met l yX6_wrongKept (Cond.code yX6_wrongKept cX6_wrongKept 2 (some .int) :: wsL_law) (rmk 3) (va_Pc [.ref (ga G 57), .int x1] (Pw G sz M)) (va_Qi post (Qw G) (Af G sz)) 0 0 (Af G sz) := by
  refine Met.ofW (cc := cX6_wrongKept) (maxL := 2) (ret := (some .int)) (by decide) rfl ?_
  intro p e s m args below meth c s₁ B hml hv
  obtain ⟨rfl, hsz, hE, hP⟩ := hv
  subst hsz
  have C := Cx.of (own := RX6) hG hE rfl hml B
  have w : Wd G s M s.heap [] := ⟨hP, va_S.rf⟩
  have hl := lv_entry [.ref (ga G 57), .int x1] (n := 2) (Nat.le_of_ble_eq_true rfl)
  rw [lg_entry_eq]
  generalize (lg_sl [.ref (ga G 57), .int x1] ++ List.replicate (2 - (lg_sl [.ref (ga G 57), .int x1]).length) Slot.unset).toArray = ls at hl ⊢
  have hl : lv_has ls 2 [(0, .ref (ga G 57)), (1, .int x1)] := hl
  have hx := C.1.1
  have hb := C.1.2.1
  show W p l e (rmk 3) s m _ below meth c s.heap [] 0 0 _ _
  unfold q_X6_wrongKept at h
  refine lv_iload_n hx hb dX6_wrongKept_0 rfl (lv_at hl 1 rfl) ?_
  refine end_i w (run_S (As := [.int x1]) C w hl.1 (c_X6_isShelf l G C.2.2.1 _ _ x1  _ h) kw_12_1 kw_1_5 kw_11_23 kw_12_0 hd_X6_isShelf ⟨by decide, by decide⟩ rfl (Nat.le_of_ble_eq_true rfl) dX6_wrongKept_1) (fun r1 M2 H locs h w => ?_)
  refine lv_if_ne (tgt := 11) hx hb dX6_wrongKept_4 (by decide) (fun c3 => ?_) (fun c3 => ?_)
  · replace h := h.2 c3
    refine lv_aload_n hx hb dX6_wrongKept_11 rfl (lv_at hl 0 rfl) ?_
    refine gt_6_4 C w kw_5_4 dX6_wrongKept_12 ?_
    refine lv_iload_n hx hb dX6_wrongKept_15 rfl (lv_at hl 1 rfl) ?_
    have hin4 := h.1
    replace h := h.2
    have hz_hin4 := in_lt hin4
    refine pw_ld C w (i := 62) (by decide) pE_62 hin4 rfl dX6_wrongKept_16 ?_
    refine lv_if_ne (tgt := 25) hx hb dX6_wrongKept_17 (by decide) (fun c5 => ?_) (fun c5 => ?_)
    · replace h := h.2 c5
      refine lv_aload_n hx hb dX6_wrongKept_25 rfl (lv_at hl 0 rfl) ?_
      refine gt_6_4 C w kw_5_4 dX6_wrongKept_26 ?_
      refine lv_iload_n hx hb dX6_wrongKept_29 rfl (lv_at hl 1 rfl) ?_
      refine pw_ld C w (i := 62) (by decide) pE_62 hin4 rfl dX6_wrongKept_30 ?_
      refine lv_iconst (v := 1) hx hb dX6_wrongKept_31 (by decide) ?_
      refine lv_icmp_ne (tgt := 39) hx hb dX6_wrongKept_32 (by decide) (fun c6 => ?_) (fun c6 => ?_)
      · replace h := h.2 c6
        refine lv_bipush (v := -12) hx hb dX6_wrongKept_39 (by decide) ?_
        exact t_X6_wrongKept_41 C M2 (-12 : Int32)  w (lv_sub hl [] rfl) h
      replace h := h.1 c6
      refine lv_iconst (v := 0) hx hb dX6_wrongKept_35 (by decide) ?_
      refine lv_goto (tgt := 41) hx hb dX6_wrongKept_36 (by decide) ?_
      exact t_X6_wrongKept_41 C M2 (0 : Int32)  w (lv_sub hl [] rfl) h
    replace h := h.1 c5
    refine lv_bipush (v := -11) hx hb dX6_wrongKept_20 (by decide) ?_
    refine lv_goto (tgt := 41) hx hb dX6_wrongKept_22 (by decide) ?_
    exact t_X6_wrongKept_41 C M2 (-11 : Int32)  w (lv_sub hl [] rfl) h
  replace h := h.1 c3
  refine lv_iconst (v := -1) hx hb dX6_wrongKept_7 (by decide) ?_
  refine lv_goto (tgt := 41) hx hb dX6_wrongKept_8 (by decide) ?_
  exact t_X6_wrongKept_41 C M2 (-1 : Int32)  w (lv_sub hl [] rfl) h
def j_X6_price_20 (post : Int32 → Mem → Prop) (M : Mem) (y0 : Int32) : Prop := post y0 M
def q_X6_price (M : Mem) (x1 : Int32) (post : Int32 → Mem → Prop) : Prop := q_X6_wrongKept M x1 (fun r1 M2 => (r1 = 0 → (vp_in x1 8 ∧ (j_X6_price_20 post M2 (M2 66 x1.toNatClampNeg)))) ∧ (¬ (r1 = 0) → (j_X6_price_20 post M2 r1)))
set_option maxHeartbeats 4000000 in
set_option maxRecDepth 100000 in
theorem t_X6_price_20 (C : Cx G p s m args meth c RX6 cX6_price 3 (some .int)) {post : Int32 → Mem → Prop} (M : Mem) (y0 : Int32) {H : Heap} {locs : List Loc} {ls : Array Slot} (w : Wd G s M H locs) (hl : lv_has ls 3 []) (h : j_X6_price_20 post M y0) : W p l e (rmk 4) s m args below meth c H locs 0 0 (MQ below (va_Qi post (Qw G) (Af G s.heap.size)) args s 0 0 (Af G s.heap.size)) (F0 m 20 ls [.int y0]) := by
  have hx := C.1.1
  have hb := C.1.2.1
  unfold j_X6_price_20 at h
  exact ret_i C w h dX6_price_20
set_option maxHeartbeats 4000000 in
set_option maxRecDepth 100000 in
theorem c_X6_price (l : Launch) (G : GG) (hG : Ag G) (sz : Nat) (M : Mem) (x1 : Int32) (post : Int32 → Mem → Prop) (h : q_X6_price M x1 post) : Met l yX6_price (Cond.code yX6_price cX6_price 3 (some .int) :: wsL_law) (rmk 4) (va_Pc [.ref (ga G 57), .int x1] (Pw G sz M)) (va_Qi post (Qw G) (Af G sz)) 0 0 (Af G sz) := by
  refine Met.ofW (cc := cX6_price) (maxL := 3) (ret := (some .int)) (by decide) rfl ?_
  intro p e s m args below meth c s₁ B hml hv
  obtain ⟨rfl, hsz, hE, hP⟩ := hv
  subst hsz
  have C := Cx.of (own := RX6) hG hE rfl hml B
  have w : Wd G s M s.heap [] := ⟨hP, va_S.rf⟩
  have hl := lv_entry [.ref (ga G 57), .int x1] (n := 3) (Nat.le_of_ble_eq_true rfl)
  rw [lg_entry_eq]
  generalize (lg_sl [.ref (ga G 57), .int x1] ++ List.replicate (3 - (lg_sl [.ref (ga G 57), .int x1]).length) Slot.unset).toArray = ls at hl ⊢
  have hl : lv_has ls 3 [(0, .ref (ga G 57)), (1, .int x1)] := hl
  have hx := C.1.1
  have hb := C.1.2.1
  show W p l e (rmk 4) s m _ below meth c s.heap [] 0 0 _ _
  unfold q_X6_price at h
  refine lv_aload_n hx hb dX6_price_0 rfl (lv_at hl 0 rfl) ?_
  refine lv_iload_n hx hb dX6_price_1 rfl (lv_at hl 1 rfl) ?_
  refine end_i w (run_V (As := [.int x1]) C w hl.1 (c_X6_wrongKept l G C.2.2.1 _ _ x1  _ h) kw_40_9 kw_1_5 kw_40_6 kw_40_7 kw_40_8 hd_X6_wrongKept ⟨by decide, by decide⟩ (w.recv C (i := 57) (by decide) (pE_6) rfl) rfl (Nat.le_of_ble_eq_true rfl) dX6_price_2) (fun r1 M2 H locs h w => ?_)
  refine lv_istore_n (lv' := [(2, .int r1), (0, .ref (ga G 57)), (1, .int x1)]) hx hb dX6_price_5 rfl hl (by decide) rfl (fun ls hl => ?_)
  refine lv_iload_n hx hb dX6_price_6 rfl (lv_at hl 0 rfl) ?_
  refine lv_if_eq (tgt := 14) hx hb dX6_price_7 (by decide) (fun c3 => ?_) (fun c3 => ?_)
  · replace h := h.1 c3
    refine lv_aload_n hx hb dX6_price_14 rfl (lv_at hl 1 rfl) ?_
    refine gt_6_8 C w kw_5_8 dX6_price_15 ?_
    refine lv_iload_n hx hb dX6_price_18 rfl (lv_at hl 2 rfl) ?_
    have hin4 := h.1
    replace h := h.2
    have hz_hin4 := in_lt hin4
    refine pw_ld C w (i := 66) (by decide) pE_66 hin4 rfl dX6_price_19 ?_
    exact t_X6_price_20 C M2 (M2 66 x1.toNatClampNeg)  w (lv_sub hl [] rfl) h
  replace h := h.2 c3
  refine lv_iload_n hx hb dX6_price_10 rfl (lv_at hl 0 rfl) ?_
  refine lv_goto (tgt := 20) hx hb dX6_price_11 (by decide) ?_
  exact t_X6_price_20 C M2 r1  w (lv_sub hl [] rfl) h
def q_X1_numberOfFailure (M : Mem) (a0 : Nat) (post : Int32 → Mem → Prop) : Prop := ((M a0 0) = (4 : Int32) → (post ((M a0 3) + (100 : Int32)) M)) ∧ (¬ (M a0 0) = (4 : Int32) → (((M a0 0) = (7 : Int32) → (post ((200 : Int32) + (M a0 8)) M)) ∧ (¬ (M a0 0) = (7 : Int32) → (post (M a0 3) M))))
set_option maxHeartbeats 4000000 in
set_option maxRecDepth 100000 in
theorem c_X1_numberOfFailure (l : Launch) (G : GG) (hG : Ag G) (sz : Nat) (M : Mem) (a0 : Nat) (ha0 : 30 ≤ a0 ∧ a0 < 57) (post : Int32 → Mem → Prop) (h : q_X1_numberOfFailure M a0 post) : Met l yX1_numberOfFailure (Cond.code yX1_numberOfFailure cX1_numberOfFailure 1 (some .int) :: wsL_law) (rmk 1) (va_Pc [.ref (ga G a0)] (Pw G sz M)) (va_Qi post (Qw G) (Af G sz)) 0 0 (Af G sz) := by
  refine Met.ofW (cc := cX1_numberOfFailure) (maxL := 1) (ret := (some .int)) (by decide) rfl ?_
  intro p e s m args below meth c s₁ B hml hv
  obtain ⟨rfl, hsz, hE, hP⟩ := hv
  subst hsz
  have C := Cx.of (own := RX1) hG hE rfl hml B
  have w : Wd G s M s.heap [] := ⟨hP, va_S.rf⟩
  have hl := lv_entry [.ref (ga G a0)] (n := 1) (Nat.le_of_ble_eq_true rfl)
  rw [lg_entry_eq]
  generalize (lg_sl [.ref (ga G a0)] ++ List.replicate (1 - (lg_sl [.ref (ga G a0)]).length) Slot.unset).toArray = ls at hl ⊢
  have hl : lv_has ls 1 [(0, .ref (ga G a0))] := hl
  have hx := C.1.1
  have hb := C.1.2.1
  show W p l e (rmk 1) s m _ below meth c s.heap [] 0 0 _ _
  unfold q_X1_numberOfFailure at h
  refine lv_aload_n hx hb dX1_numberOfFailure_0 rfl (lv_at hl 0 rfl) ?_
  refine gt_1_0 C w ha0 kw_3_10 dX1_numberOfFailure_1 ?_
  by_cases c1 : (M a0 0) = (4 : Int32)
  · replace h := h.1 c1
    refine lv_lookup (off := 28) (tgt := 32) hx hb dX1_numberOfFailure_4 (by decide) (by rw [c1]; decide) (by decide) ?_
    refine lv_aload_n hx hb dX1_numberOfFailure_32 rfl (lv_at hl 0 rfl) ?_
    refine gt_1_3 C w ha0 kw_3_13 dX1_numberOfFailure_33 ?_
    refine lv_bipush (v := 100) hx hb dX1_numberOfFailure_36 (by decide) ?_
    refine lv_iadd hx hb dX1_numberOfFailure_38 ?_
    exact ret_i C w h dX1_numberOfFailure_39
  replace h := h.2 c1
  by_cases c2 : (M a0 0) = (7 : Int32)
  · replace h := h.1 c2
    refine lv_lookup (off := 36) (tgt := 40) hx hb dX1_numberOfFailure_4 (by decide) (by rw [c2]; decide) (by decide) ?_
    refine lv_sipush (v := 200) hx hb dX1_numberOfFailure_40 (by decide) ?_
    refine lv_aload_n hx hb dX1_numberOfFailure_43 rfl (lv_at hl 0 rfl) ?_
    refine gt_1_8 C w ha0 kw_3_18 dX1_numberOfFailure_44 ?_
    refine lv_iadd hx hb dX1_numberOfFailure_47 ?_
    exact ret_i C w h dX1_numberOfFailure_48
  replace h := h.2 c2
  refine lv_lookup (off := 45) (tgt := 49) hx hb dX1_numberOfFailure_4 (by decide) ((lv_osw c1 (by decide)).trans ((lv_osw c2 (by decide)).trans rfl)) (by decide) ?_
  refine lv_aload_n hx hb dX1_numberOfFailure_49 rfl (lv_at hl 0 rfl) ?_
  refine gt_1_3 C w ha0 kw_3_13 dX1_numberOfFailure_50 ?_
  exact ret_i C w h dX1_numberOfFailure_53
def j_X6_toss_20 (post : Int32 → Mem → Prop) (M : Mem) (y0 : Int32) : Prop := post y0 M
def q_X6_toss (M : Mem) (x1 : Int32) (post : Int32 → Mem → Prop) : Prop := q_X6_wrongKept M x1 (fun r1 M2 => (r1 = 0 → (vp_in x1 8 ∧ (j_X6_toss_20 post M2 (M2 67 x1.toNatClampNeg)))) ∧ (¬ (r1 = 0) → (j_X6_toss_20 post M2 r1)))
set_option maxHeartbeats 4000000 in
set_option maxRecDepth 100000 in
theorem t_X6_toss_20 (C : Cx G p s m args meth c RX6 cX6_toss 3 (some .int)) {post : Int32 → Mem → Prop} (M : Mem) (y0 : Int32) {H : Heap} {locs : List Loc} {ls : Array Slot} (w : Wd G s M H locs) (hl : lv_has ls 3 []) (h : j_X6_toss_20 post M y0) : W p l e (rmk 4) s m args below meth c H locs 0 0 (MQ below (va_Qi post (Qw G) (Af G s.heap.size)) args s 0 0 (Af G s.heap.size)) (F0 m 20 ls [.int y0]) := by
  have hx := C.1.1
  have hb := C.1.2.1
  unfold j_X6_toss_20 at h
  exact ret_i C w h dX6_toss_20
set_option maxHeartbeats 4000000 in
set_option maxRecDepth 100000 in
theorem c_X6_toss (l : Launch) (G : GG) (hG : Ag G) (sz : Nat) (M : Mem) (x1 : Int32) (post : Int32 → Mem → Prop) (h : q_X6_toss M x1 post) : Met l yX6_toss (Cond.code yX6_toss cX6_toss 3 (some .int) :: wsL_law) (rmk 4) (va_Pc [.ref (ga G 57), .int x1] (Pw G sz M)) (va_Qi post (Qw G) (Af G sz)) 0 0 (Af G sz) := by
  refine Met.ofW (cc := cX6_toss) (maxL := 3) (ret := (some .int)) (by decide) rfl ?_
  intro p e s m args below meth c s₁ B hml hv
  obtain ⟨rfl, hsz, hE, hP⟩ := hv
  subst hsz
  have C := Cx.of (own := RX6) hG hE rfl hml B
  have w : Wd G s M s.heap [] := ⟨hP, va_S.rf⟩
  have hl := lv_entry [.ref (ga G 57), .int x1] (n := 3) (Nat.le_of_ble_eq_true rfl)
  rw [lg_entry_eq]
  generalize (lg_sl [.ref (ga G 57), .int x1] ++ List.replicate (3 - (lg_sl [.ref (ga G 57), .int x1]).length) Slot.unset).toArray = ls at hl ⊢
  have hl : lv_has ls 3 [(0, .ref (ga G 57)), (1, .int x1)] := hl
  have hx := C.1.1
  have hb := C.1.2.1
  show W p l e (rmk 4) s m _ below meth c s.heap [] 0 0 _ _
  unfold q_X6_toss at h
  refine lv_aload_n hx hb dX6_toss_0 rfl (lv_at hl 0 rfl) ?_
  refine lv_iload_n hx hb dX6_toss_1 rfl (lv_at hl 1 rfl) ?_
  refine end_i w (run_V (As := [.int x1]) C w hl.1 (c_X6_wrongKept l G C.2.2.1 _ _ x1  _ h) kw_40_9 kw_1_5 kw_40_6 kw_40_7 kw_40_8 hd_X6_wrongKept ⟨by decide, by decide⟩ (w.recv C (i := 57) (by decide) (pE_6) rfl) rfl (Nat.le_of_ble_eq_true rfl) dX6_toss_2) (fun r1 M2 H locs h w => ?_)
  refine lv_istore_n (lv' := [(2, .int r1), (0, .ref (ga G 57)), (1, .int x1)]) hx hb dX6_toss_5 rfl hl (by decide) rfl (fun ls hl => ?_)
  refine lv_iload_n hx hb dX6_toss_6 rfl (lv_at hl 0 rfl) ?_
  refine lv_if_eq (tgt := 14) hx hb dX6_toss_7 (by decide) (fun c3 => ?_) (fun c3 => ?_)
  · replace h := h.1 c3
    refine lv_aload_n hx hb dX6_toss_14 rfl (lv_at hl 1 rfl) ?_
    refine gt_6_9 C w kw_5_9 dX6_toss_15 ?_
    refine lv_iload_n hx hb dX6_toss_18 rfl (lv_at hl 2 rfl) ?_
    have hin4 := h.1
    replace h := h.2
    have hz_hin4 := in_lt hin4
    refine pw_ld C w (i := 67) (by decide) pE_67 hin4 rfl dX6_toss_19 ?_
    exact t_X6_toss_20 C M2 (M2 67 x1.toNatClampNeg)  w (lv_sub hl [] rfl) h
  replace h := h.2 c3
  refine lv_iload_n hx hb dX6_toss_10 rfl (lv_at hl 0 rfl) ?_
  refine lv_goto (tgt := 20) hx hb dX6_toss_11 (by decide) ?_
  exact t_X6_toss_20 C M2 r1  w (lv_sub hl [] rfl) h
end WALK
