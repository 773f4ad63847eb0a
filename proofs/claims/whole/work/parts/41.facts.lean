theorem ks_1_1 : Cond.instantiable RX5 8 ∈ wsL_law := kin_1 (List.mem_of_getElem? (i := 1) rfl)
theorem ks_1_4 : Cond.instantiable RX6 24 ∈ wsL_law := kin_1 (List.mem_of_getElem? (i := 4) rfl)
theorem ks_1_14 : Cond.instantiable RX4 9 ∈ wsL_law := kin_1 (List.mem_of_getElem? (i := 14) rfl)
theorem ks_1_20 : Cond.instantiable RX0 6 ∈ wsL_law := kin_1 (List.mem_of_getElem? (i := 20) rfl)
theorem ks_2_0 : Cond.instantiable RX1 9 ∈ wsL_law := kin_2 (List.mem_of_getElem? (i := 0) rfl)
theorem ks_2_4 : Cond.instantiable RX2 3 ∈ wsL_law := kin_2 (List.mem_of_getElem? (i := 4) rfl)
theorem ks_2_10 : Cond.instantiable RX3 5 ∈ wsL_law := kin_2 (List.mem_of_getElem? (i := 10) rfl)
/-! THE START: what the claim gives of it -/
def gvn : List Cond := flatC (Cond.and given_1 narrow_1)
theorem gv_len (C n d : String) (z : Int32) : (Cond.eq (.length (.static C n d)) (.int z)) = Cond.eq (.length (.static C n d)) (.int z) := rfl
theorem gv_least : ∀ j, j < 7 → Cond.eq (.elem (.static RX5 "LEAST_SET" "[I") (.int (Int32.ofNat j))) (.int (leastT j)) ∈ gvn := by decide +kernel
theorem gv_most : ∀ j, j < 7 → Cond.eq (.elem (.static RX5 "MOST_SET" "[I") (.int (Int32.ofNat j))) (.int (mostT j)) ∈ gvn := by decide +kernel
theorem gv_first : ∀ j, j < 7 → Cond.eq (.elem (.static RX5 "FIRST_SET" "[I") (.int (Int32.ofNat j))) (.int (firstT j)) ∈ gvn := by decide +kernel
theorem gv_len3 : ∀ n ∈ ["FIRST_SET", "LEAST_SET", "MOST_SET"], Cond.arrayOf (.static RX5 n "[I") .int ∈ gvn ∧ Cond.eq (.length (.static RX5 n "[I")) (.int 7) ∈ gvn ∧ Cond.exactly (.static RX5 n "[I") "[I" ∈ gvn ∧ Cond.laysStatic RX5 n "[I" ∈ lw_tbl := by decide +kernel
theorem gv_ex : ∀ i, i < 7 → Cond.exactly (.string RX2 (sIdx i)) "java/lang/String" ∈ gvn ∧ Cond.eq (.field (.string RX2 (sIdx i)) "java/lang/String" "coder" "B") (.int 0) ∈ gvn ∧ Cond.arrayOf (.field (.string RX2 (sIdx i)) "java/lang/String" "value" "[B") .byte ∈ gvn ∧ Cond.eq (.length (.field (.string RX2 (sIdx i)) "java/lang/String" "value" "[B")) (.int (Int32.ofNat (sLen.getD i 0))) ∈ gvn ∧ Cond.stringRef RX2 (sIdx i) (sTx i) ∈ lw_tbl := by decide +kernel
theorem gv_el : ∀ i, i < 7 → ∀ j, j < sLen.getD i 0 → Cond.eq (.elem (.field (.string RX2 (sIdx i)) "java/lang/String" "value" "[B") (.int (Int32.ofNat j))) (.int ((sByt.getD i []).getD j 0)) ∈ gvn := by decide +kernel
theorem gv_ne : ∀ i, i < 7 → ∀ j, j < 7 → i ≠ j → Cond.not (Cond.eq (.string RX2 (sIdx i)) (.string RX2 (sIdx j))) ∈ gvn ∨ Cond.not (Cond.eq (.string RX2 (sIdx j)) (.string RX2 (sIdx i))) ∈ gvn := by decide +kernel
theorem gv_m : (Cond.eq (.static "java/lang/String" "COMPACT_STRINGS" "Z") (.int 1) ∈ gvn ∧ Cond.isRef (.static "jdk/internal/util/Preconditions" "SIOOBE_FORMATTER" "Ljava/util/function/BiFunction;") ∈ gvn) ∧ (Cond.isRef (.static Bundle.tN "UNASSIGNED_STACK" Bundle.steD) ∈ gvn ∧ Cond.isRef (.static Bundle.tN "SUPPRESSED_SENTINEL" Bundle.listD) ∈ gvn) ∧ Cond.not (.castable "java/lang/IllegalStateException" "java/lang/IllegalArgumentException") ∈ gvn ∧ (Cond.exactly (.string RX1 63) "java/lang/String" ∈ gvn ∧ Cond.exactly (.string RX5 272) "java/lang/String" ∈ gvn ∧ Cond.exactly (.string RX5 279) "java/lang/String" ∈ gvn) := by decide +kernel
def gvt : List Cond := [Cond.laysStatic "java/lang/String" "COMPACT_STRINGS" "Z", .initialized "java/lang/String", .laysStatic "jdk/internal/util/Preconditions" "SIOOBE_FORMATTER" "Ljava/util/function/BiFunction;", .initialized "jdk/internal/util/Preconditions", .laysStatic Bundle.tN "UNASSIGNED_STACK" Bundle.steD, .laysStatic Bundle.tN "SUPPRESSED_SENTINEL" Bundle.listD, .initialized Bundle.tN, .castable "java/lang/IllegalArgumentException" "java/lang/IllegalArgumentException", .castable "java/lang/IllegalStateException" "java/lang/IllegalStateException", .declares (Bundle.initS "java/lang/RuntimeException"), .declares (Bundle.initS "java/lang/Exception"), .declares (Bundle.initS Bundle.tN), .stringRef RX1 63 "the piece fails", .stringRef RX5 272 "no such shelf", .stringRef RX5 279 "no row, or no such place in it", .castable "[I" "java/lang/Cloneable", .arrayOver (.object RX1), .arrayOver (.object RX3), .initialized RX5, .arrayClass .int, .arrayClass .long]
theorem gv_t : ∀ w ∈ gvt, w ∈ lw_tbl := by decide +kernel
theorem len_ex {args : Array Value} {s : State} {t : Term} {a : Nat} {cell : Cell} (h : (Term.length t).eval args s none [] s = some (.int 7)) (ht : t.eval args s none [] s = some (.ref a)) (hc : s.heap[a]? = some cell) : cell.slots.size = 7 := by
  simp only [Term.eval, Option.bind_eq_bind, ht, Option.bind_some] at h
  obtain ⟨c2, h2, h3⟩ := Option.bind_eq_some_iff.mp h
  obtain ⟨h4, -, -, -⟩ := State.arrayAt?_spec h2
  cases hc.symm.trans h4
  by_cases hn : cell.slots.size < 2 ^ 31
  · rw [if_pos hn] at h3
    have h5 : Int32.ofNat cell.slots.size = Int32.ofNat 7 := Value.int.inj (Option.some.inj h3)
    exact (nI_eq (a := cell.slots.size) (b := 7) hn (by decide)).mp h5
  · rw [if_neg hn] at h3; cases h3
theorem nest_tab {w : Cond} (h : isNest w = true) : w.onTables = true := by
  cases w <;> first | rfl | (simp [isNest] at h; done)
set_option maxHeartbeats 2000000 in
theorem start_facts {s : State} {b : Nat} (hts : ∀ w ∈ lw_tbl, w.before #[Value.ref b] s = true) (hgv : (Jvm.Cond.and given_1 narrow_1).before #[Value.ref b] s = true) : ∃ (D : va_G) (cI cP cS : ClassId) (K V : Nat → Nat) (gl gm t : Nat), ∀ as : List Nat, Ec (mkG D cI cP cS as K V s.heap.size gl gm) s ∧ Ef (mkG D cI cP cS as K V s.heap.size gl gm) t s ∧ Ex (mkG D cI cP cS as K V s.heap.size gl gm) s := by
  have hs : ∀ w ∈ gvn, w.before #[Value.ref b] s = true := flat_of_before _ hgv
  have hw : ∀ w ∈ wsL_law, w.before #[Value.ref b] s = true := fun w h => hts w (law_in w h)
  have hv : ∀ w ∈ gvt, w.before #[Value.ref b] s = true := fun w h => hts w (gv_t w h)
  obtain ⟨c0, i0, hk0⟩ := u_known (C := RX0) (T := TX0) (N := 6) (n := 6) hw inlX0 (hw _ ks_1_20)
  obtain ⟨c1, i1, hk1⟩ := u_known (C := RX1) (T := TX1) (N := 9) (n := 9) hw inlX1 (hw _ ks_2_0)
  obtain ⟨c2, i2, hk2⟩ := u_known (C := RX2) (T := TX2) (N := 3) (n := 3) hw inlX2 (hw _ ks_2_4)
  obtain ⟨c3, i3, hk3⟩ := u_known (C := RX3) (T := TX3) (N := 5) (n := 5) hw inlX3 (hw _ ks_2_10)
  obtain ⟨c4, i4, hk4⟩ := u_known (C := RX4) (T := TX4) (N := 9) (n := 9) hw inlX4 (hw _ ks_1_14)
  obtain ⟨c5, i5, hk5⟩ := u_known (C := RX5) (T := TX5) (N := 8) (n := 8) hw inlX5 (hw _ ks_1_1)
  obtain ⟨c6, i6, hk6⟩ := u_known (C := RX6) (T := TX6) (N := 24) (n := 24) hw inlX6 (hw _ ks_1_4)
  have hA : ∀ a : Nat, a < s.heap.size → ¬ (fun q : Nat => s.heap.size ≤ q) a := fun a h => Nat.not_le.mpr h
  have hini : (Cond.initialized RX5).before #[Value.ref b] s = true := hv _ (List.mem_of_getElem? (i := 18) rfl)
  obtain ⟨cI, kI, xI, eI1, eI2, eI3⟩ := Cond.arrayClass_spec (args := #[Value.ref b]) (first := s) (o := none) (s := s) (idx := []) (hv (.arrayClass .int) (List.mem_of_getElem? (i := 19) rfl))
  have hoP : va_AO RX1 s := va_AO.of (hv _ (List.mem_of_getElem? (i := 16) rfl))
  have hoS : va_AO RX3 s := va_AO.of (hv _ (List.mem_of_getElem? (i := 17) rfl))
  obtain ⟨xP, cP, kP, eP1, eP2, eP3, eP4, eP5⟩ := Cond.arrayOver_spec hoP
  obtain ⟨xS, cS, kS, eS1, eS2, eS3, eS4, eS5⟩ := Cond.arrayOver_spec hoS
  obtain ⟨fa1, fl1, fe1, fs1⟩ := gv_len3 "FIRST_SET" (List.mem_of_getElem? (i := 0) rfl)
  obtain ⟨fa2, fl2, fe2, fs2⟩ := gv_len3 "LEAST_SET" (List.mem_of_getElem? (i := 1) rfl)
  obtain ⟨fa3, fl3, fe3, fs3⟩ := gv_len3 "MOST_SET" (List.mem_of_getElem? (i := 2) rfl)
  obtain ⟨gl, hl1, hl2⟩ := va_Tof (N := 7) (f := fun j => .int (leastT j)) (A := fun q : Nat => s.heap.size ≤ q) (by decide) (hs _ fa2) (va_eqt (hs _ fl2)) (fun j hj => va_eqt (hs _ (gv_least j hj))) hA
  obtain ⟨gm, hm1, hm2⟩ := va_Tof (N := 7) (f := fun j => .int (mostT j)) (A := fun q : Nat => s.heap.size ≤ q) (by decide) (hs _ fa3) (va_eqt (hs _ fl3)) (fun j hj => va_eqt (hs _ (gv_most j hj))) hA
  obtain ⟨t, ht1, ht2⟩ := va_Tof (N := 7) (f := fun j => .int (firstT j)) (A := fun q : Nat => s.heap.size ≤ q) (by decide) (hs _ fa1) (va_eqt (hs _ fl1)) (fun j hj => va_eqt (hs _ (gv_first j hj))) hA
  have hz2 := va_Zof (hts _ fs2) hini hl1 hA
  have hz3 := va_Zof (hts _ fs3) hini hm1 hA
  have hz1 := va_Zof (hts _ fs1) hini ht1 hA
  obtain ⟨⟨gm1, gm2⟩, ⟨gm3, gm4⟩, gm5, gm6, gm7, gm8⟩ := gv_m
  have hcs := va_Zof (A := fun q : Nat => s.heap.size ≤ q) (hv _ (List.mem_of_getElem? (i := 0) rfl)) (hv _ (List.mem_of_getElem? (i := 1) rfl)) (va_eqt (hs _ gm1)) hA
  have hsi := va_Zqof (A := fun q : Nat => s.heap.size ≤ q) (hv _ (List.mem_of_getElem? (i := 2) rfl)) (hv _ (List.mem_of_getElem? (i := 3) rfl)) (hs _ gm2) hA
  have hx1 := vx_Zqof (A := fun q : Nat => s.heap.size ≤ q) (hv _ (List.mem_of_getElem? (i := 4) rfl)) (hv _ (List.mem_of_getElem? (i := 6) rfl)) (hs _ gm3) hA
  have hx2 := vx_Zqof (A := fun q : Nat => s.heap.size ≤ q) (hv _ (List.mem_of_getElem? (i := 5) rfl)) (hv _ (List.mem_of_getElem? (i := 6) rfl)) (hs _ gm4) hA
  obtain ⟨K, V, hS1, hS2⟩ := vk_Sof (N := 7) (tm := fun i => .string RX2 (sIdx i)) (len := sLen) (byt := sByt) (A := fun q : Nat => s.heap.size ≤ q) (by decide) (fun i hi => hs _ (gv_ex i hi).1) (fun i hi => hs _ (gv_ex i hi).2.1) (fun i hi => hs _ (gv_ex i hi).2.2.1) (fun i hi => hs _ (gv_ex i hi).2.2.2.1) (fun i hi j hj => hs _ (gv_el i hi j hj)) (fun i j hi hj hij => (gv_ne i hi j hj hij).elim (fun h => Or.inl (hs _ h)) (fun h => Or.inr (hs _ h))) hA
  obtain ⟨sa1, -, -, -, sb1, -⟩ := Cond.exactly_spec (args := #[Value.ref b]) (first := s) (o := none) (s := s) (idx := []) (hs _ gm6)
  obtain ⟨sa2, -, -, -, sb2, -⟩ := Cond.exactly_spec (args := #[Value.ref b]) (first := s) (o := none) (s := s) (idx := []) (hs _ gm7)
  obtain ⟨sa3, -, -, -, sb3, -⟩ := Cond.exactly_spec (args := #[Value.ref b]) (first := s) (o := none) (s := s) (idx := []) (hs _ gm8)
  obtain ⟨ta, tc, tcell, tk, tq1, tq2, tq3, tq4, tq5, tq6, -⟩ := Cond.exactly_spec (args := #[Value.ref b]) (first := s) (o := none) (s := s) (idx := []) (hs _ fe1)
  cases ht1.symm.trans tq1
  obtain ⟨tc2, tr1, tr2, tr3, tr4, tr5, tr6, tr7⟩ := ht2
  cases tq3.symm.trans tr1
  cases eI1.symm.trans tq2
  have hsz : tcell.slots.size = 7 := len_ex (va_eqt (hs _ fl1)) ht1 tq3
  refine ⟨(fun k => if k = 0 then c0 else if k = 1 then c1 else if k = 2 then c2 else if k = 3 then c3 else if k = 4 then c4 else if k = 5 then c5 else c6, fun k => if k = 0 then i0 else if k = 1 then i1 else if k = 2 then i2 else if k = 3 then i3 else if k = 4 then i4 else if k = 5 then i5 else i6), cI, cP, cS, K, V, gl, gm, t, fun as => ⟨⟨⟨fun k q hq => ?_, fun k q hq => ?_⟩, fun w hw9 => ?_, Nat.le_refl _, ⟨hz2, hz3, hl2, hm2, hcs, hS1, hsi⟩, fun i hi => ?_⟩, ⟨hz1, ⟨(Array.getElem?_eq_some_iff.mp tq3).1, tcell, tq3, tq6, fun z h => ?_, tr3, hsz, tr6⟩, va_Nw.of rfl (hv _ (List.mem_of_getElem? (i := 15) rfl)), hoP, hoS⟩, ⟨hx1, hx2, va_Nw.of rfl (hv _ (List.mem_of_getElem? (i := 7) rfl)), va_Nw.of rfl (hv _ (List.mem_of_getElem? (i := 8) rfl)), ⟨va_Nw.of rfl (hv _ (List.mem_of_getElem? (i := 9) rfl)), va_Nw.of rfl (hv _ (List.mem_of_getElem? (i := 10) rfl)), va_Nw.of rfl (hv _ (List.mem_of_getElem? (i := 11) rfl))⟩, va_Nc.of (hs _ gm5), ⟨sa1, vk_R.of (hv _ (List.mem_of_getElem? (i := 12) rfl)) sb1⟩, ⟨sa2, vk_R.of (hv _ (List.mem_of_getElem? (i := 13) rfl)) sb2⟩, ⟨sa3, vk_R.of (hv _ (List.mem_of_getElem? (i := 14) rfl)) sb3⟩⟩⟩⟩
  · have hk7 : k < 7 := (List.getElem?_eq_some_iff.mp hq).1
    rcases (show k = 0 ∨ k = 1 ∨ k = 2 ∨ k = 3 ∨ k = 4 ∨ k = 5 ∨ k = 6 by omega) with rfl | rfl | rfl | rfl | rfl | rfl | rfl
    all_goals cases hq
    · exact hk0
    · exact hk1
    · exact hk2
    · exact hk3
    · exact hk4
    · exact hk5
    · exact hk6
  · have hk3 : k < 3 := (List.getElem?_eq_some_iff.mp hq).1
    rcases (show k = 0 ∨ k = 1 ∨ k = 2 by omega) with rfl | rfl | rfl
    all_goals cases hq
    · exact ⟨fun n z => ⟨fun k h => (by cases h), kI, eI2, xI, eI3⟩, eI1⟩
    · exact ⟨fun n z => ⟨fun k h => (by cases h), kP, eP3, xP, eP4⟩, kP, xP, eP3, eP4, eP1, eP5⟩
    · exact ⟨fun n z => ⟨fun k h => (by cases h), kS, eS3, xS, eS4⟩, kS, xS, eS3, eS4, eS1, eS5⟩
  · exact va_Nw.of (nest_tab (List.all_eq_true.mp nestA_ok w hw9)) (hts w (nest_in w hw9))
  · exact vk_R.of (hts _ (gv_ex i hi).2.2.2.2) (hS2 i hi)
  · rw [h] at tq5; cases tq5
