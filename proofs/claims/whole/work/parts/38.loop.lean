/-! the law: what both systems owe each other at every call; the loop -/
def lh_0 (Rel : Mem → Prop) : Prop := (∀ (M : Mem) (x1 : Int32), Rel M → q_X5_tow M x1 (fun r M1 => q_X6_tow M1 x1 (fun r2 M2 => r = r2 ∧ Rel M2)))
def lh_1 (Rel : Mem → Prop) : Prop := (∀ (M : Mem) (x1 x2 : Int32), Rel M → q_X5_piece M x1 x2 (fun r M1 => q_X6_piece M1 x1 x2 (fun r2 M2 => r = r2 ∧ Rel M2)))
def lh_2 (Rel : Mem → Prop) : Prop := (∀ (M : Mem) (x1 x2 : Int32), Rel M → q_X5_set M x1 x2 (fun r M1 => q_X6_set M1 x1 x2 (fun r2 M2 => r = r2 ∧ Rel M2)))
def lh_3 (Rel : Mem → Prop) : Prop := (∀ (M : Mem) (x1 : Int32), Rel M → q_X5_line M x1 (fun r M1 => q_X6_line M1 x1 (fun r2 M2 => r = r2 ∧ Rel M2)))
def lh_4 (Rel : Mem → Prop) : Prop := (∀ (M : Mem) (x1 : Int32), Rel M → q_X5_apart M x1 (fun r M1 => q_X6_apart M1 x1 (fun r2 M2 => r = r2 ∧ Rel M2)))
def lh_5 (Rel : Mem → Prop) : Prop := (∀ (M : Mem) (x1 : Int32), Rel M → q_X5_pull M x1 (fun r M1 => q_X6_pull M1 x1 (fun r2 M2 => r = r2 ∧ Rel M2)))
def lh_6 (Rel : Mem → Prop) : Prop := (∀ (M : Mem), Rel M → q_X5_tenth M (fun r M1 => q_X6_tenth M1 (fun r2 M2 => r = r2 ∧ Rel M2)))
def lh_7 (Rel : Mem → Prop) : Prop := (∀ (M : Mem) (x1 : Int32), Rel M → q_X5_greatest M x1 (fun r M1 => q_X6_greatest M1 x1 (fun r2 M2 => r = r2 ∧ Rel M2)))
def lh_8 (Rel : Mem → Prop) : Prop := (∀ (M : Mem) (x1 x2 : Int32), Rel M → q_X5_holds M x1 x2 (fun r M1 => q_X6_holds M1 x1 x2 (fun r2 M2 => r = r2 ∧ Rel M2)))
def lh_9 (Rel : Mem → Prop) : Prop := (∀ (M : Mem) (x1 : Int32), Rel M → q_X5_fastest M x1 (fun r M1 => q_X6_fastest M1 x1 (fun r2 M2 => r = r2 ∧ Rel M2)))
def lh_10 (Rel : Mem → Prop) : Prop := (∀ (M : Mem) (x1 x2 : Int32), Rel M → q_X5_longer M x1 x2 (fun r M1 => q_X6_longer M1 x1 x2 (fun r2 M2 => r = r2 ∧ Rel M2)))
def lh_11 (Rel : Mem → Prop) : Prop := (∀ (M : Mem) (x1 x2 : Int32), Rel M → q_X5_stock M x1 x2 (fun r M1 => q_X6_stock M1 x1 x2 (fun r2 M2 => r = r2 ∧ Rel M2)))
def lh_12 (Rel : Mem → Prop) : Prop := (∀ (M : Mem) (x1 x2 : Int32), Rel M → q_X5_bridge M x1 x2 (fun r M1 => q_X6_bridge M1 x1 x2 (fun r2 M2 => r = r2 ∧ Rel M2)))
def lh_13 (Rel : Mem → Prop) : Prop := (∀ (M : Mem), Rel M → q_X5_fouls M (fun r M1 => q_X6_fouls M1 (fun r2 M2 => r = r2 ∧ Rel M2)))
def lh_14 (Rel : Mem → Prop) : Prop := (∀ (M : Mem), Rel M → q_X5_takeIn M (fun r M1 => q_X6_takeIn M1 (fun r2 M2 => r = r2 ∧ Rel M2)))
def lh_15 (Rel : Mem → Prop) : Prop := (∀ (M : Mem), Rel M → q_X5_shallowest M (fun r M1 => q_X6_shallowest M1 (fun r2 M2 => r = r2 ∧ Rel M2)))
def lh_16 (Rel : Mem → Prop) : Prop := (∀ (M : Mem) (x1 x2 : Int32), Rel M → q_X5_odds M x1 x2 (fun r M1 => q_X6_odds M1 x1 x2 (fun r2 M2 => r = r2 ∧ Rel M2)))
def lh_17 (Rel : Mem → Prop) : Prop := (∀ (M : Mem) (x1 : Int32), Rel M → q_X5_yaw M x1 (fun r M1 => q_X6_yaw M1 x1 (fun r2 M2 => r = r2 ∧ Rel M2)))
def lh_18 (Rel : Mem → Prop) : Prop := (∀ (M : Mem) (x1 : Int32), Rel M → q_X5_yaws M x1 (fun r M1 => q_X6_yaws M1 x1 (fun r2 M2 => r = r2 ∧ Rel M2)))
def lh_19 (Rel : Mem → Prop) : Prop := (∀ (M : Mem) (x1 x2 : Int32), Rel M → q_X5_swings M x1 x2 (fun r M1 => q_X6_swings M1 x1 x2 (fun r2 M2 => r = r2 ∧ Rel M2)))
def lh_20 (Rel : Mem → Prop) : Prop := (∀ (M : Mem), Rel M → q_X5_grows M (fun r M1 => q_X6_grows M1 (fun r2 M2 => r = r2 ∧ Rel M2)))
def lh_21 (Rel : Mem → Prop) : Prop := (∀ (M : Mem), Rel M → q_X5_held M (fun r M1 => q_X6_held M1 (fun r2 M2 => r = r2 ∧ Rel M2)))
def lh_22 (Rel : Mem → Prop) : Prop := (∀ (M : Mem) (x1 : Int32), Rel M → q_X5_whip M x1 (fun r M1 => q_X6_whip M1 x1 (fun r2 M2 => r = r2 ∧ Rel M2)))
def lh_23 (Rel : Mem → Prop) : Prop := (∀ (M : Mem) (x1 : Int32), Rel M → q_X5_renders M x1 (fun r M1 => q_X6_renders M1 x1 (fun r2 M2 => r = r2 ∧ Rel M2)))
def lh_24 (Rel : Mem → Prop) : Prop := (∀ (M : Mem) (x1 : Int32), Rel M → q_X5_winch M x1 (fun r M1 => q_X6_winch M1 x1 (fun r2 M2 => r = r2 ∧ Rel M2)))
def lh_25 (Rel : Mem → Prop) : Prop := (∀ (M : Mem) (x1 x2 : Int32), Rel M → q_X5_legs M x1 x2 (fun r M1 => q_X6_legs M1 x1 x2 (fun r2 M2 => r = r2 ∧ Rel M2)))
def lh_26 (Rel : Mem → Prop) : Prop := (∀ (M : Mem) (x1 : Int32), Rel M → q_X5_why M x1 (fun r M1 => q_X6_why M1 x1 (fun r2 M2 => r = r2 ∧ Rel M2)))
def lh_27 (Rel : Mem → Prop) : Prop := (∀ (M : Mem) (x1 : Int32), Rel M → q_X5_caravan M x1 (fun r M1 => q_X6_caravan M1 x1 (fun r2 M2 => r = r2 ∧ Rel M2)))
def lh_28 (Rel : Mem → Prop) : Prop := (∀ (M : Mem) (x1 : Int32), Rel M → q_X5_judge M x1 (fun r M1 => q_X6_judge M1 x1 (fun r2 M2 => r = r2 ∧ Rel M2)))
def lh_29 (Rel : Mem → Prop) : Prop := (∀ (M : Mem), Rel M → q_X5_image M (fun r M1 => q_X6_image M1 (fun r2 M2 => r = r2 ∧ Rel M2)))
def lh_30 (Rel : Mem → Prop) : Prop := (∀ (M : Mem), Rel M → q_X5_restore M (fun r M1 => q_X6_restore M1 (fun r2 M2 => r = r2 ∧ Rel M2)))
def lh_31 (Rel : Mem → Prop) : Prop := (∀ (M : Mem) (x1 : Int32), Rel M → q_X5_count M x1 (fun r M1 => q_X6_count M1 x1 (fun r2 M2 => r = r2 ∧ Rel M2)))
def lh_32 (Rel : Mem → Prop) : Prop := (∀ (M : Mem) (x1 x2 x3 : Int32), Rel M → q_X5_keep M x1 x2 x3 (fun r M1 => q_X6_keep M1 x1 x2 x3 (fun r2 M2 => r = r2 ∧ Rel M2)))
def lh_33 (Rel : Mem → Prop) : Prop := (∀ (M : Mem) (x1 x2 x3 : Int32), Rel M → q_X5_row M x1 x2 x3 (fun r M1 => q_X6_row M1 x1 x2 x3 (fun r2 M2 => r = r2 ∧ Rel M2)))
def lh_34 (Rel : Mem → Prop) : Prop := (∀ (M : Mem) (x1 x2 x3 : Int32), Rel M → q_X5_put M x1 x2 x3 (fun r M1 => q_X6_put M1 x1 x2 x3 (fun r2 M2 => r = r2 ∧ Rel M2)))
def lh_35 (Rel : Mem → Prop) : Prop := (∀ (M : Mem) (x1 x2 : Int32), Rel M → ∀ o : Int64, q_L_element M o x1 x2 (fun k o1 M1 => q_X6_element M1 x1 x2 (fun r2 M2 => q_X6_thrown M2 (fun t M3 => t = k ∧ (k = 0 → o1 = r2) ∧ Rel M3))))
def lh_36 (Rel : Mem → Prop) : Prop := (∀ (M : Mem) (x1 x2 x3 x4 x5 : Int32), Rel M → q_X5_copy M x1 x2 x3 x4 x5 (fun r M1 => q_X6_copy M1 x1 x2 x3 x4 x5 (fun r2 M2 => r = r2 ∧ Rel M2)))
def lh_37 (Rel : Mem → Prop) : Prop := (∀ (M : Mem) (x1 : Int32), Rel M → q_X5_price M x1 (fun r M1 => q_X6_price M1 x1 (fun r2 M2 => r = r2 ∧ Rel M2)))
def lh_38 (Rel : Mem → Prop) : Prop := (∀ (M : Mem) (x1 : Int32), Rel M → q_X5_toss M x1 (fun r M1 => q_X6_toss M1 x1 (fun r2 M2 => r = r2 ∧ Rel M2)))
def LH (Rel : Mem → Prop) : Prop := lh_0 Rel ∧ lh_1 Rel ∧ lh_2 Rel ∧ lh_3 Rel ∧ lh_4 Rel ∧ lh_5 Rel ∧ lh_6 Rel ∧ lh_7 Rel ∧ lh_8 Rel ∧ lh_9 Rel ∧ lh_10 Rel ∧ lh_11 Rel ∧ lh_12 Rel ∧ lh_13 Rel ∧ lh_14 Rel ∧ lh_15 Rel ∧ lh_16 Rel ∧ lh_17 Rel ∧ lh_18 Rel ∧ lh_19 Rel ∧ lh_20 Rel ∧ lh_21 Rel ∧ lh_22 Rel ∧ lh_23 Rel ∧ lh_24 Rel ∧ lh_25 Rel ∧ lh_26 Rel ∧ lh_27 Rel ∧ lh_28 Rel ∧ lh_29 Rel ∧ lh_30 Rel ∧ lh_31 Rel ∧ lh_32 Rel ∧ lh_33 Rel ∧ lh_34 Rel ∧ lh_35 Rel ∧ lh_36 Rel ∧ lh_37 Rel ∧ lh_38 Rel
theorem sub6 : ∀ L j : Nat, L ≤ 384 → j ≤ L → (nI L - 6 < nI j ↔ L < j + 6) := by
  intro L j hL hj
  rw [Int32.lt_iff_toInt_lt, nI_toInt (by omega), Int32.toInt_sub, nI_toInt (by omega), show (6 : Int32).toInt = 6 from rfl, Int.bmod_eq_of_le (by omega) (by omega)]
  omega
set_option maxHeartbeats 4000000 in
set_option maxRecDepth 100000 in
theorem lw_loop {p : Program} {l : Launch} {e : Env} {s : State} {m : MethodId} {below : List Frame} {meth : Method} {c : Code} {G : GG} {b L qo : Nat} {xs : Nat → Int32} {cJ : ClassId} (X : LX G p l s m meth c b L xs cJ qo) (hL : L ≤ 384) {Rel : Mem → Prop} (HR : LH Rel) : ∀ (n j : Nat) (M : Mem) (H : Heap) (locs : List Loc) (ls : Array Slot) (cells slots : Nat), j ≤ L → L + 6 ≤ j + 6 * n → cells + n ≤ 200 → slots + 6 * n ≤ 4000 → Rel M → LW G s M H locs cJ qo → lv_has ls 8 [(0, .ref b), (1, .ref (ga G 0)), (2, .ref (ga G 57)), (3, .ref qo), (4, .int (nI j))] → W p l e room_1 s m #[Value.ref b] below meth c H locs cells slots (lw_Z below #[Value.ref b] s) (F0 m 23 ls []) := by
  have C := X.1
  have hx := C.1.1
  have hb := C.1.2.1
  intro n
  induction n with
  | zero => intro j M H locs ls cells slots h1 h2; omega
  | succ n ih =>
    intro j M H locs ls cells slots g1 g2 g3 g4 hR w hl
    refine lv_iload hx hb dl_23 (lv_at hl 4 rfl) ?_
    refine lv_aload_n hx hb dl_25 rfl (lv_at hl 0 rfl) ?_
    refine va_slen hx hb X.2.2.2.1 X.2.2.2.2.1 (X.nb) w.1.2 dl_26 ?_
    refine lv_bipush (v := 6) hx hb dl_27 (by decide) ?_
    refine lv_isub hx hb dl_29 ?_
    refine lv_icmp_gt (tgt := 1367) hx hb dl_30 (by decide) (fun c1 => ?_) (fun c1 => ?_)
    · refine lv_iconst (v := 1) hx hb dl_1367 (by decide) ?_
      refine va_forget (fun q hq => ?_) ?_
      · rcases w.1.2.2.2 q hq with ⟨i, hi, e⟩ | z
        · rw [e]
          have := C.2.2.1.2 i hi
          rw [X.2.2.2.2.2.1] at this
          exact this
        · exact z
      · exact W.widen (k := 600128) (n := 7301098) (by omega) (by omega) (lw_ret hx hb C.2.2.2.1 C.2.2.2.2 dl_1368)
    have hj : j + 6 ≤ L := by
      have := (not_congr (sub6 L j hL g1)).mp c1
      omega
    refine lv_aload_n hx hb dl_33 rfl (lv_at hl 0 rfl) ?_
    refine lv_iload hx hb dl_34 (lv_at hl 4 rfl) ?_
    refine va_sld hx hb X.2.2.2.1 X.2.2.2.2.1 (X.nb) w.1.2 (nI_in (N := L) (by omega) (by omega)) dl_36 ?_
    rw [nI_clamp (n := j) (by omega)]
    refine lv_bipush (v := 63) hx hb dl_37 (by decide) ?_
    refine lv_iand hx hb dl_39 ?_
    generalize xs j &&& 63 = x
    have kk : ∀ (M2 : Mem) (H2 : Heap) (locs2 : List Loc) (ls2 : Array Slot) (cells2 slots2 : Nat), Rel M2 → LW G s M2 H2 locs2 cJ qo → lv_has ls2 8 [(0, .ref b), (1, .ref (ga G 0)), (2, .ref (ga G 57)), (3, .ref qo), (4, .int (nI j))] → cells2 ≤ cells + 1 → slots2 ≤ slots + 6 → W p l e room_1 s m #[Value.ref b] below meth c H2 locs2 cells2 slots2 (lw_Z below #[Value.ref b] s) (F0 m 1361 ls2 []) := by
      intro M2 H2 locs2 ls2 cells2 slots2 hR2 w2 hl2 hc2 hs2
      refine lv_iinc (v := nI (j + 6)) (lv' := [(4, .int (nI (j + 6))), (0, .ref b), (1, .ref (ga G 0)), (2, .ref (ga G 57)), (3, .ref qo)]) hx hb dl_1361 hl2 (k := 4) rfl (by rw [← nI_add]; rfl) (by decide) rfl (fun ls3 hl3 => ?_)
      refine lv_goto (tgt := 23) hx hb dl_1364 (by decide) ?_
      exact ih (j + 6) M2 H2 locs2 ls3 cells2 slots2 hj (by omega) (by omega) (by omega) hR2 w2 (lv_sub hl3 [1, 2, 3, 4, 0] rfl)
    have hcs : cells + 1 ≤ 600128 ∧ slots + 6 ≤ 7301098 := ⟨by omega, by omega⟩
    obtain ⟨r0, r1, r2, r3, r4, r5, r6, r7, r8, r9, r10, r11, r12, r13, r14, r15, r16, r17, r18, r19, r20, r21, r22, r23, r24, r25, r26, r27, r28, r29, r30, r31, r32, r33, r34, r35, r36, r37, r38⟩ := HR
    by_cases hxo : x.toInt < 0 ∨ 38 < x.toInt
    · refine lv_tableOut hx hb dl_40 hxo (tgt := 1361) (by decide) ?_
      exact kk M H locs ls _ _ hR w hl (by omega) (by omega)
    · obtain ⟨k, hk, rfl⟩ : ∃ k : Nat, k ≤ 38 ∧ x = nI k := nI_of2 (M := 38) (n := 38) rfl (by rw [Int32.lt_iff_toInt_lt, Int32.toInt_zero]; omega) (by rw [Int32.le_iff_toInt_le, show (38 : Int32).toInt = 38 from rfl]; omega)
      rcases (show k = 0 ∨ k = 1 ∨ k = 2 ∨ k = 3 ∨ k = 4 ∨ k = 5 ∨ k = 6 ∨ k = 7 ∨ k = 8 ∨ k = 9 ∨ k = 10 ∨ k = 11 ∨ k = 12 ∨ k = 13 ∨ k = 14 ∨ k = 15 ∨ k = 16 ∨ k = 17 ∨ k = 18 ∨ k = 19 ∨ k = 20 ∨ k = 21 ∨ k = 22 ∨ k = 23 ∨ k = 24 ∨ k = 25 ∨ k = 26 ∨ k = 27 ∨ k = 28 ∨ k = 29 ∨ k = 30 ∨ k = 31 ∨ k = 32 ∨ k = 33 ∨ k = 34 ∨ k = 35 ∨ k = 36 ∨ k = 37 ∨ k = 38 by omega) with rfl | rfl | rfl | rfl | rfl | rfl | rfl | rfl | rfl | rfl | rfl | rfl | rfl | rfl | rfl | rfl | rfl | rfl | rfl | rfl | rfl | rfl | rfl | rfl | rfl | rfl | rfl | rfl | rfl | rfl | rfl | rfl | rfl | rfl | rfl | rfl | rfl | rfl | rfl
      · refine lv_tableIn (off := 172) (tgt := 212) hx hb dl_40 (by decide) (by decide) rfl (by decide) ?_
        exact lc_0 X hj hL w hl hcs (r0 M (xs (j + 1)) hR) kk
      · refine lv_tableIn (off := 197) (tgt := 237) hx hb dl_40 (by decide) (by decide) rfl (by decide) ?_
        exact lc_1 X hj hL w hl hcs (r1 M (xs (j + 1)) (xs (j + 2)) hR) kk
      · refine lv_tableIn (off := 234) (tgt := 274) hx hb dl_40 (by decide) (by decide) rfl (by decide) ?_
        exact lc_2 X hj hL w hl hcs (r2 M (xs (j + 1)) (xs (j + 2)) hR) kk
      · refine lv_tableIn (off := 271) (tgt := 311) hx hb dl_40 (by decide) (by decide) rfl (by decide) ?_
        exact lc_3 X hj hL w hl hcs (r3 M (xs (j + 1)) hR) kk
      · refine lv_tableIn (off := 296) (tgt := 336) hx hb dl_40 (by decide) (by decide) rfl (by decide) ?_
        exact lc_4 X hj hL w hl hcs (r4 M (xs (j + 1)) hR) kk
      · refine lv_tableIn (off := 321) (tgt := 361) hx hb dl_40 (by decide) (by decide) rfl (by decide) ?_
        exact lc_5 X hj hL w hl hcs (r5 M (xs (j + 1)) hR) kk
      · refine lv_tableIn (off := 346) (tgt := 386) hx hb dl_40 (by decide) (by decide) rfl (by decide) ?_
        exact lc_6 X hj hL w hl hcs (r6 M hR) kk
      · refine lv_tableIn (off := 359) (tgt := 399) hx hb dl_40 (by decide) (by decide) rfl (by decide) ?_
        exact lc_7 X hj hL w hl hcs (r7 M (xs (j + 1)) hR) kk
      · refine lv_tableIn (off := 384) (tgt := 424) hx hb dl_40 (by decide) (by decide) rfl (by decide) ?_
        exact lc_8 X hj hL w hl hcs (r8 M (xs (j + 1)) (xs (j + 2)) hR) kk
      · refine lv_tableIn (off := 421) (tgt := 461) hx hb dl_40 (by decide) (by decide) rfl (by decide) ?_
        exact lc_9 X hj hL w hl hcs (r9 M (xs (j + 1)) hR) kk
      · refine lv_tableIn (off := 446) (tgt := 486) hx hb dl_40 (by decide) (by decide) rfl (by decide) ?_
        exact lc_10 X hj hL w hl hcs (r10 M (xs (j + 1)) (xs (j + 2)) hR) kk
      · refine lv_tableIn (off := 483) (tgt := 523) hx hb dl_40 (by decide) (by decide) rfl (by decide) ?_
        exact lc_11 X hj hL w hl hcs (r11 M (xs (j + 1)) (xs (j + 2)) hR) kk
      · refine lv_tableIn (off := 520) (tgt := 560) hx hb dl_40 (by decide) (by decide) rfl (by decide) ?_
        exact lc_12 X hj hL w hl hcs (r12 M (xs (j + 1)) (xs (j + 2)) hR) kk
      · refine lv_tableIn (off := 557) (tgt := 597) hx hb dl_40 (by decide) (by decide) rfl (by decide) ?_
        exact lc_13 X hj hL w hl hcs (r13 M hR) kk
      · refine lv_tableIn (off := 570) (tgt := 610) hx hb dl_40 (by decide) (by decide) rfl (by decide) ?_
        exact lc_14 X hj hL w hl hcs (r14 M hR) kk
      · refine lv_tableIn (off := 583) (tgt := 623) hx hb dl_40 (by decide) (by decide) rfl (by decide) ?_
        exact lc_15 X hj hL w hl hcs (r15 M hR) kk
      · refine lv_tableIn (off := 596) (tgt := 636) hx hb dl_40 (by decide) (by decide) rfl (by decide) ?_
        exact lc_16 X hj hL w hl hcs (r16 M (xs (j + 1)) (xs (j + 2)) hR) kk
      · refine lv_tableIn (off := 633) (tgt := 673) hx hb dl_40 (by decide) (by decide) rfl (by decide) ?_
        exact lc_17 X hj hL w hl hcs (r17 M (xs (j + 1)) hR) kk
      · refine lv_tableIn (off := 658) (tgt := 698) hx hb dl_40 (by decide) (by decide) rfl (by decide) ?_
        exact lc_18 X hj hL w hl hcs (r18 M (xs (j + 1)) hR) kk
      · refine lv_tableIn (off := 683) (tgt := 723) hx hb dl_40 (by decide) (by decide) rfl (by decide) ?_
        exact lc_19 X hj hL w hl hcs (r19 M (xs (j + 1)) (xs (j + 2)) hR) kk
      · refine lv_tableIn (off := 720) (tgt := 760) hx hb dl_40 (by decide) (by decide) rfl (by decide) ?_
        exact lc_20 X hj hL w hl hcs (r20 M hR) kk
      · refine lv_tableIn (off := 733) (tgt := 773) hx hb dl_40 (by decide) (by decide) rfl (by decide) ?_
        exact lc_21 X hj hL w hl hcs (r21 M hR) kk
      · refine lv_tableIn (off := 746) (tgt := 786) hx hb dl_40 (by decide) (by decide) rfl (by decide) ?_
        exact lc_22 X hj hL w hl hcs (r22 M (xs (j + 1)) hR) kk
      · refine lv_tableIn (off := 771) (tgt := 811) hx hb dl_40 (by decide) (by decide) rfl (by decide) ?_
        exact lc_23 X hj hL w hl hcs (r23 M (xs (j + 1)) hR) kk
      · refine lv_tableIn (off := 796) (tgt := 836) hx hb dl_40 (by decide) (by decide) rfl (by decide) ?_
        exact lc_24 X hj hL w hl hcs (r24 M (xs (j + 1)) hR) kk
      · refine lv_tableIn (off := 821) (tgt := 861) hx hb dl_40 (by decide) (by decide) rfl (by decide) ?_
        exact lc_25 X hj hL w hl hcs (r25 M (xs (j + 1)) (xs (j + 2)) hR) kk
      · refine lv_tableIn (off := 858) (tgt := 898) hx hb dl_40 (by decide) (by decide) rfl (by decide) ?_
        exact lc_26 X hj hL w hl hcs (r26 M (xs (j + 1)) hR) kk
      · refine lv_tableIn (off := 883) (tgt := 923) hx hb dl_40 (by decide) (by decide) rfl (by decide) ?_
        exact lc_27 X hj hL w hl hcs (r27 M (xs (j + 1)) hR) kk
      · refine lv_tableIn (off := 908) (tgt := 948) hx hb dl_40 (by decide) (by decide) rfl (by decide) ?_
        exact lc_28 X hj hL w hl hcs (r28 M (xs (j + 1)) hR) kk
      · refine lv_tableIn (off := 933) (tgt := 973) hx hb dl_40 (by decide) (by decide) rfl (by decide) ?_
        exact lc_29 X hj hL w hl hcs (r29 M hR) kk
      · refine lv_tableIn (off := 946) (tgt := 986) hx hb dl_40 (by decide) (by decide) rfl (by decide) ?_
        exact lc_30 X hj hL w hl hcs (r30 M hR) kk
      · refine lv_tableIn (off := 959) (tgt := 999) hx hb dl_40 (by decide) (by decide) rfl (by decide) ?_
        exact lc_31 X hj hL w hl hcs (r31 M (xs (j + 1)) hR) kk
      · refine lv_tableIn (off := 984) (tgt := 1024) hx hb dl_40 (by decide) (by decide) rfl (by decide) ?_
        exact lc_32 X hj hL w hl hcs (r32 M (xs (j + 1)) (xs (j + 2)) (xs (j + 3)) hR) kk
      · refine lv_tableIn (off := 1033) (tgt := 1073) hx hb dl_40 (by decide) (by decide) rfl (by decide) ?_
        exact lc_33 X hj hL w hl hcs (r33 M (xs (j + 1)) (xs (j + 2)) (xs (j + 3)) hR) kk
      · refine lv_tableIn (off := 1082) (tgt := 1122) hx hb dl_40 (by decide) (by decide) rfl (by decide) ?_
        exact lc_34 X hj hL w hl hcs (r34 M (xs (j + 1)) (xs (j + 2)) (xs (j + 3)) hR) kk
      · refine lv_tableIn (off := 1131) (tgt := 1171) hx hb dl_40 (by decide) (by decide) rfl (by decide) ?_
        exact lc_35 X hj hL w hl hcs (r35 M (xs (j + 1)) (xs (j + 2)) hR) kk
      · refine lv_tableIn (off := 1198) (tgt := 1238) hx hb dl_40 (by decide) (by decide) rfl (by decide) ?_
        exact lc_36 X hj hL w hl hcs (r36 M (xs (j + 1)) (xs (j + 2)) (xs (j + 3)) (xs (j + 4)) (xs (j + 5)) hR) kk
      · refine lv_tableIn (off := 1271) (tgt := 1311) hx hb dl_40 (by decide) (by decide) rfl (by decide) ?_
        exact lc_37 X hj hL w hl hcs (r37 M (xs (j + 1)) hR) kk
      · refine lv_tableIn (off := 1296) (tgt := 1336) hx hb dl_40 (by decide) (by decide) rfl (by decide) ?_
        exact lc_38 X hj hL w hl hcs (r38 M (xs (j + 1)) hR) kk
