section FX
variable {p : Program} {l : Launch} {e : Env} {R : Room} {s : State} {m : MethodId} {args : Array Value} {below : List Frame} {meth : Method} {c : Code} {H : Heap} {locs : List Loc} {cells slots : Nat} {Q : State → Prop}
variable {cc : ByteArray} {pc nL : Nat} {ls : Array Slot} {rest : List Value} {G : GG} {M : Mem} {own : String} {ret : Option FieldType}

theorem pt_6_11 (C : Cx G p s m args meth c own cc nL ret) (w : Wd G s M H locs) {v : Int32} {idx : Nat} (hk : Cond.fieldLink own idx "TowThatJerksModel" "thrown" "I" ∈ wsL_law) (hdg : decode cc pc = .ok (.putfield idx, 3)) (kk : ∀ (H1 : Heap) (locs1 : List Loc), Wd G s (mup M 57 11 v) H1 locs1 → W p l e R s m args below meth c H1 locs1 cells slots Q (F0 m (pc + 3) ls rest)) : W p l e R s m args below meth c H locs cells slots Q (F0 m pc ls (.int v :: .ref (ga G 57) :: rest)) := pw_put C w inlX6 tyX6 tyX6_ok nmX6 (by decide) pE_6 rfl 11 (by decide) rfl hk rfl (ty := .int) (by decide +kernel) rfl rfl (by simp) (by rw [pE_6]; rfl) hdg kk
end FX
section RL9
variable {p : Program} {l : Launch} {e : Env} {R : Room} {s : State} {m : MethodId} {args : Array Value} {below : List Frame} {meth : Method} {c : Code} {H : Heap} {locs : List Loc}
variable {cc : ByteArray} {pc nL : Nat} {ls : Array Slot} {G : GG} {M : Mem} {own : String}
theorem ret_l (C : Cx G p s m args meth c own cc nL (some .long)) (w : Wd G s M H locs) {v : Int64} {post : Int64 → Mem → Prop} (hp : post v M) (hdg : decode cc pc = .ok (.lreturn, 1)) : W p l e R s m args below meth c H locs 0 0 (MQ below (va_Ql post (Qw G) (Af G s.heap.size)) args s 0 0 (Af G s.heap.size)) (F0 m pc ls [.long v]) :=
  W.lret C.1.1 C.1.2.1 C.2.2.2.1 (fun t ht hW => ⟨⟨v, M, rfl, hp, by unfold Qw; rw [ht]; exact w.1⟩, w.2.F ht⟩) w.2.2.2 hdg C.2.2.2.2
end RL9
theorem dX6_element_0 : decode cX6_element 0 = .ok (.aload_n 0, 1) := by decide +kernel
theorem dX6_element_1 : decode cX6_element 1 = .ok (.iload_n 1, 1) := by decide +kernel
theorem dX6_element_2 : decode cX6_element 2 = .ok (.invokestatic 94, 3) := by decide +kernel
theorem dX6_element_5 : decode cX6_element 5 = .ok (.ifCond .ne 7, 3) := by decide +kernel
theorem dX6_element_8 : decode cX6_element 8 = .ok (.iconst 1, 1) := by decide +kernel
theorem dX6_element_9 : decode cX6_element 9 = .ok (.goto 36, 3) := by decide +kernel
theorem dX6_element_12 : decode cX6_element 12 = .ok (.aload_n 0, 1) := by decide +kernel
theorem dX6_element_13 : decode cX6_element 13 = .ok (.getfield 22, 3) := by decide +kernel
theorem dX6_element_16 : decode cX6_element 16 = .ok (.iload_n 1, 1) := by decide +kernel
theorem dX6_element_17 : decode cX6_element 17 = .ok (.iaload, 1) := by decide +kernel
theorem dX6_element_18 : decode cX6_element 18 = .ok (.iconst 2, 1) := by decide +kernel
theorem dX6_element_19 : decode cX6_element 19 = .ok (.if_icmp .ne 21, 3) := by decide +kernel
theorem dX6_element_22 : decode cX6_element 22 = .ok (.iload_n 2, 1) := by decide +kernel
theorem dX6_element_23 : decode cX6_element 23 = .ok (.i2l, 1) := by decide +kernel
theorem dX6_element_24 : decode cX6_element 24 = .ok (.lconst 0, 1) := by decide +kernel
theorem dX6_element_25 : decode cX6_element 25 = .ok (.aload_n 0, 1) := by decide +kernel
theorem dX6_element_26 : decode cX6_element 26 = .ok (.getfield 28, 3) := by decide +kernel
theorem dX6_element_29 : decode cX6_element 29 = .ok (.iload_n 1, 1) := by decide +kernel
theorem dX6_element_30 : decode cX6_element 30 = .ok (.iaload, 1) := by decide +kernel
theorem dX6_element_31 : decode cX6_element 31 = .ok (.iconst 1, 1) := by decide +kernel
theorem dX6_element_32 : decode cX6_element 32 = .ok (.isub, 1) := by decide +kernel
theorem dX6_element_33 : decode cX6_element 33 = .ok (.i2l, 1) := by decide +kernel
theorem dX6_element_34 : decode cX6_element 34 = .ok (.invokestatic 47, 3) := by decide +kernel
theorem dX6_element_37 : decode cX6_element 37 = .ok (.ifCond .ne 7, 3) := by decide +kernel
theorem dX6_element_40 : decode cX6_element 40 = .ok (.iconst 2, 1) := by decide +kernel
theorem dX6_element_41 : decode cX6_element 41 = .ok (.goto 4, 3) := by decide +kernel
theorem dX6_element_44 : decode cX6_element 44 = .ok (.iconst 0, 1) := by decide +kernel
theorem dX6_element_45 : decode cX6_element 45 = .ok (.putfield 43, 3) := by decide +kernel
theorem dX6_element_48 : decode cX6_element 48 = .ok (.aload_n 0, 1) := by decide +kernel
theorem dX6_element_49 : decode cX6_element 49 = .ok (.getfield 43, 3) := by decide +kernel
theorem dX6_element_52 : decode cX6_element 52 = .ok (.ifCond .ne 18, 3) := by decide +kernel
theorem dX6_element_55 : decode cX6_element 55 = .ok (.aload_n 0, 1) := by decide +kernel
theorem dX6_element_56 : decode cX6_element 56 = .ok (.getfield 31, 3) := by decide +kernel
theorem dX6_element_59 : decode cX6_element 59 = .ok (.bipush 100, 2) := by decide +kernel
theorem dX6_element_61 : decode cX6_element 61 = .ok (.iload_n 1, 1) := by decide +kernel
theorem dX6_element_62 : decode cX6_element 62 = .ok (.imul, 1) := by decide +kernel
theorem dX6_element_63 : decode cX6_element 63 = .ok (.iload_n 2, 1) := by decide +kernel
theorem dX6_element_64 : decode cX6_element 64 = .ok (.iadd, 1) := by decide +kernel
theorem dX6_element_65 : decode cX6_element 65 = .ok (.iaload, 1) := by decide +kernel
theorem dX6_element_66 : decode cX6_element 66 = .ok (.i2l, 1) := by decide +kernel
theorem dX6_element_67 : decode cX6_element 67 = .ok (.goto 4, 3) := by decide +kernel
theorem dX6_element_70 : decode cX6_element 70 = .ok (.lconst 0, 1) := by decide +kernel
theorem dX6_element_71 : decode cX6_element 71 = .ok (.lreturn, 1) := by decide +kernel
section WALK
variable {p : Program} {l : Launch} {e : Env} {s : State} {m : MethodId} {args : Array Value} {below : List Frame} {meth : Method} {c : Code} {G : GG}

def j_X6_element_71 (post : Int64 → Mem → Prop) (M : Mem) (y0 : Int64) : Prop := post y0 M
def j_X6_element_45 (post : Int64 → Mem → Prop) (M : Mem) (y0 : Int32) (x1 : Int32) (x2 : Int32) : Prop := ∀ M1 : Mem, M1 = (mup M 57 11 y0) → (((M1 57 11) = 0 → (vp_in (((100 : Int32) * x1) + x2) 800 ∧ (j_X6_element_71 post M1 ((M1 65 (((100 : Int32) * x1) + x2).toNatClampNeg).toInt64)))) ∧ (¬ ((M1 57 11) = 0) → (j_X6_element_71 post M1 (0 : Int64))))
def j_X6_element_40 (post : Int64 → Mem → Prop) (M : Mem) (x1 : Int32) (x2 : Int32) : Prop := j_X6_element_45 post M (2 : Int32) x1 x2
def q_X6_element (M : Mem) (x1 : Int32) (x2 : Int32) (post : Int64 → Mem → Prop) : Prop := q_X6_isShelf M x1 (fun r4 M5 => (r4 = 0 → (j_X6_element_45 post M5 (1 : Int32) x1 x2)) ∧ (¬ (r4 = 0) → (vp_in x1 8 ∧ (((M5 62 x1.toNatClampNeg) = (2 : Int32) → (q_X6_isIn M5 x2.toInt64 (0 : Int64) (((M5 64 x1.toNatClampNeg) - (1 : Int32)).toInt64) (fun r9 M10 => (r9 = 0 → (j_X6_element_40 post M10 x1 x2)) ∧ (¬ (r9 = 0) → (j_X6_element_45 post M10 (0 : Int32) x1 x2))))) ∧ (¬ ((M5 62 x1.toNatClampNeg) = (2 : Int32)) → (j_X6_element_40 post M5 x1 x2))))))
set_option maxHeartbeats 4000000 in
set_option maxRecDepth 100000 in
theorem t_X6_element_71 (C : Cx G p s m args meth c RX6 cX6_element 3 (some .long)) {post : Int64 → Mem → Prop} (M : Mem) (y0 : Int64) {H : Heap} {locs : List Loc} {ls : Array Slot} (w : Wd G s M H locs) (hl : lv_has ls 3 []) (h : j_X6_element_71 post M y0) : W p l e (rmk 3) s m args below meth c H locs 0 0 (MQ below (va_Ql post (Qw G) (Af G s.heap.size)) args s 0 0 (Af G s.heap.size)) (F0 m 71 ls [.long y0]) := by
  have hx := C.1.1
  have hb := C.1.2.1
  unfold j_X6_element_71 at h
  exact ret_l C w h dX6_element_71
set_option maxHeartbeats 4000000 in
set_option maxRecDepth 100000 in
theorem t_X6_element_45 (C : Cx G p s m args meth c RX6 cX6_element 3 (some .long)) {post : Int64 → Mem → Prop} (M : Mem) (y0 : Int32) (x1 : Int32) (x2 : Int32) {H : Heap} {locs : List Loc} {ls : Array Slot} (w : Wd G s M H locs) (hl : lv_has ls 3 [(0, .ref (ga G 57)), (1, .int x1), (2, .int x2)]) (h : j_X6_element_45 post M y0 x1 x2) : W p l e (rmk 3) s m args below meth c H locs 0 0 (MQ below (va_Ql post (Qw G) (Af G s.heap.size)) args s 0 0 (Af G s.heap.size)) (F0 m 45 ls [.int y0, .ref (ga G 57)]) := by
  have hx := C.1.1
  have hb := C.1.2.1
  unfold j_X6_element_45 at h
  refine pt_6_11 C w kw_38_19 dX6_element_45 (fun H locs w => ?_)
  obtain ⟨M1, eM1⟩ : ∃ z : Mem, z = (mup M 57 11 y0) := ⟨_, rfl⟩
  replace w : Wd G s M1 H locs := by rw [eM1]; exact w
  replace h := h M1 eM1
  refine lv_aload_n hx hb dX6_element_48 rfl (lv_at hl 0 rfl) ?_
  refine gt_6_11 C w kw_38_19 dX6_element_49 ?_
  refine lv_if_ne (tgt := 70) hx hb dX6_element_52 (by decide) (fun c2 => ?_) (fun c2 => ?_)
  · replace h := h.2 c2
    refine lv_lconst (v := 0) hx hb dX6_element_70 (by decide) ?_
    exact t_X6_element_71 C M1 (0 : Int64)  w (lv_sub hl [] rfl) h
  replace h := h.1 c2
  refine lv_aload_n hx hb dX6_element_55 rfl (lv_at hl 0 rfl) ?_
  refine gt_6_7 C w kw_5_7 dX6_element_56 ?_
  refine lv_bipush (v := 100) hx hb dX6_element_59 (by decide) ?_
  refine lv_iload_n hx hb dX6_element_61 rfl (lv_at hl 1 rfl) ?_
  refine lv_imul hx hb dX6_element_62 ?_
  refine lv_iload_n hx hb dX6_element_63 rfl (lv_at hl 2 rfl) ?_
  refine lv_iadd hx hb dX6_element_64 ?_
  have hin3 := h.1
  replace h := h.2
  have hz_hin3 := in_lt hin3
  refine pw_ld C w (i := 65) (by decide) pE_65 hin3 rfl dX6_element_65 ?_
  refine lv_i2l hx hb dX6_element_66 rfl ?_
  refine lv_goto (tgt := 71) hx hb dX6_element_67 (by decide) ?_
  exact t_X6_element_71 C M1 ((M1 65 (((100 : Int32) * x1) + x2).toNatClampNeg).toInt64)  w (lv_sub hl [] rfl) h
set_option maxHeartbeats 4000000 in
set_option maxRecDepth 100000 in
theorem t_X6_element_40 (C : Cx G p s m args meth c RX6 cX6_element 3 (some .long)) {post : Int64 → Mem → Prop} (M : Mem) (x1 : Int32) (x2 : Int32) {H : Heap} {locs : List Loc} {ls : Array Slot} (w : Wd G s M H locs) (hl : lv_has ls 3 [(0, .ref (ga G 57)), (1, .int x1), (2, .int x2)]) (h : j_X6_element_40 post M x1 x2) : W p l e (rmk 3) s m args below meth c H locs 0 0 (MQ below (va_Ql post (Qw G) (Af G s.heap.size)) args s 0 0 (Af G s.heap.size)) (F0 m 40 ls [.ref (ga G 57)]) := by
  have hx := C.1.1
  have hb := C.1.2.1
  unfold j_X6_element_40 at h
  refine lv_iconst (v := 2) hx hb dX6_element_40 (by decide) ?_
  refine lv_goto (tgt := 45) hx hb dX6_element_41 (by decide) ?_
  exact t_X6_element_45 C M (2 : Int32) x1 x2  w (lv_sub hl [0, 1, 2] rfl) h
set_option maxHeartbeats 4000000 in
set_option maxRecDepth 100000 in
theorem c_X6_element (l : Launch) (G : GG) (hG : Ag G) (sz : Nat) (M : Mem) (x1 : Int32) (x2 : Int32) (post : Int64 → Mem → Prop) (h : q_X6_element M x1 x2 post) : Met l yX6_element (Cond.code yX6_element cX6_element 3 (some .long) :: wsL_law) (rmk 3) (va_Pc [.ref (ga G 57), .int x1, .int x2] (Pw G sz M)) (va_Ql post (Qw G) (Af G sz)) 0 0 (Af G sz) := by
  refine Met.ofW (cc := cX6_element) (maxL := 3) (ret := (some .long)) (by decide) rfl ?_
  intro p e s m args below meth c s₁ B hml hv
  obtain ⟨rfl, hsz, hE, hP⟩ := hv
  subst hsz
  have C := Cx.of (own := RX6) hG hE rfl hml B
  have w : Wd G s M s.heap [] := ⟨hP, va_S.rf⟩
  have hl := lv_entry [.ref (ga G 57), .int x1, .int x2] (n := 3) (Nat.le_of_ble_eq_true rfl)
  rw [lg_entry_eq]
  generalize (lg_sl [.ref (ga G 57), .int x1, .int x2] ++ List.replicate (3 - (lg_sl [.ref (ga G 57), .int x1, .int x2]).length) Slot.unset).toArray = ls at hl ⊢
  have hl : lv_has ls 3 [(0, .ref (ga G 57)), (1, .int x1), (2, .int x2)] := hl
  have hx := C.1.1
  have hb := C.1.2.1
  show W p l e (rmk 3) s m _ below meth c s.heap [] 0 0 _ _
  unfold q_X6_element at h
  refine lv_aload_n hx hb dX6_element_0 rfl (lv_at hl 0 rfl) ?_
  refine lv_iload_n hx hb dX6_element_1 rfl (lv_at hl 1 rfl) ?_
  refine end_i w (run_S (As := [.int x1]) C w hl.1 (c_X6_isShelf l G C.2.2.1 _ _ x1  _ h) kw_12_1 kw_1_5 kw_11_23 kw_12_0 hd_X6_isShelf ⟨by decide, by decide⟩ rfl (Nat.le_of_ble_eq_true rfl) dX6_element_2) (fun r4 M5 H locs h w => ?_)
  refine lv_if_ne (tgt := 12) hx hb dX6_element_5 (by decide) (fun c6 => ?_) (fun c6 => ?_)
  · replace h := h.2 c6
    refine lv_aload_n hx hb dX6_element_12 rfl (lv_at hl 0 rfl) ?_
    refine gt_6_4 C w kw_5_4 dX6_element_13 ?_
    refine lv_iload_n hx hb dX6_element_16 rfl (lv_at hl 1 rfl) ?_
    have hin7 := h.1
    replace h := h.2
    have hz_hin7 := in_lt hin7
    refine pw_ld C w (i := 62) (by decide) pE_62 hin7 rfl dX6_element_17 ?_
    refine lv_iconst (v := 2) hx hb dX6_element_18 (by decide) ?_
    refine lv_icmp_ne (tgt := 40) hx hb dX6_element_19 (by decide) (fun c8 => ?_) (fun c8 => ?_)
    · replace h := h.2 c8
      exact t_X6_element_40 C M5 x1 x2  w (lv_sub hl [0, 1, 2] rfl) h
    replace h := h.1 c8
    refine lv_iload_n hx hb dX6_element_22 rfl (lv_at hl 2 rfl) ?_
    refine lv_i2l hx hb dX6_element_23 rfl ?_
    refine lv_lconst (v := 0) hx hb dX6_element_24 (by decide) ?_
    refine lv_aload_n hx hb dX6_element_25 rfl (lv_at hl 0 rfl) ?_
    refine gt_6_6 C w kw_5_6 dX6_element_26 ?_
    refine lv_iload_n hx hb dX6_element_29 rfl (lv_at hl 1 rfl) ?_
    refine pw_ld C w (i := 64) (by decide) pE_64 hin7 rfl dX6_element_30 ?_
    refine lv_iconst (v := 1) hx hb dX6_element_31 (by decide) ?_
    refine lv_isub hx hb dX6_element_32 ?_
    refine lv_i2l hx hb dX6_element_33 rfl ?_
    refine end_i w (run_S (As := [.long x2.toInt64, .long (0 : Int64), .long ((M5 64 x1.toNatClampNeg) - (1 : Int32)).toInt64]) C w hl.1 (c_X6_isIn l G C.2.2.1 _ _ x2.toInt64 (0 : Int64) (((M5 64 x1.toNatClampNeg) - (1 : Int32)).toInt64)  _ h) kw_12_5 kw_1_5 kw_12_3 kw_12_4 hd_X6_isIn ⟨by decide, by decide⟩ rfl (Nat.le_of_ble_eq_true rfl) dX6_element_34) (fun r9 M10 H locs h w => ?_)
    refine lv_if_ne (tgt := 44) hx hb dX6_element_37 (by decide) (fun c11 => ?_) (fun c11 => ?_)
    · replace h := h.2 c11
      refine lv_iconst (v := 0) hx hb dX6_element_44 (by decide) ?_
      exact t_X6_element_45 C M10 (0 : Int32) x1 x2  w (lv_sub hl [0, 1, 2] rfl) h
    replace h := h.1 c11
    exact t_X6_element_40 C M10 x1 x2  w (lv_sub hl [0, 1, 2] rfl) h
  replace h := h.1 c6
  refine lv_iconst (v := 1) hx hb dX6_element_8 (by decide) ?_
  refine lv_goto (tgt := 45) hx hb dX6_element_9 (by decide) ?_
  exact t_X6_element_45 C M5 (1 : Int32) x1 x2  w (lv_sub hl [0, 1, 2] rfl) h
end WALK
