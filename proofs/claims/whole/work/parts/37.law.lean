/-! THE CLAIM OUT OF ONE WALK OF THE LAW'S BODY. Your part is whole_start (and what it stands on); all else here is the same for every law, but numbers. -/
def R_law : String := "TowThatJerksLaw"
def lw_P (b : Addr) (xs : List Int32) (args : Array Value) (s : State) : Prop := args = #[.ref b] ∧ s.IntsAt b xs ∧ xs.length ≤ 384 ∧ (Jvm.Cond.and given_1 narrow_1).before args s = true
def lw_Q (_ : Array Value) (s : State) (o : Outcome) (t : State) : Prop := o = .returned (some (.int 1)) ∧ Framed s o t [] 600128 7301098
def lw_Z (below : List Frame) (a : Array Value) (s : State) : State → Prop := fun t => ∃ o, t.status = .running ∧ Ended t below o ∧ lw_Q a s o t
/-- the law's own end, with 1 on the stack, nothing written that was there before, its room as the claim has it -/
theorem lw_ret {p : Program} {l : Launch} {e : Env} {s : State} {m : MethodId} {below : List Frame} {meth : Method} {c : Code} {b : Nat} (hx : p.tables.exec = Jvm.exec) (hb : c.code = code) (hr : meth.sig.returnType = ret) (hlocks : meth.locks = false) {pc : Nat} {H : Heap} {ls : Array Slot} (hdg : decode code pc = .ok (.ireturn, 1)) : W p l e room_1 s m #[Value.ref b] below meth c H [] 600128 7301098 (lw_Z below #[Value.ref b] s) (F0 m pc ls [.int 1]) := by
  intro T hT X
  obtain ⟨fs, hret, hrun, hended, hW, hframe⟩ := X.leave (v := some (.int 1)) (hlocks := hlocks) (fun h => by rw [hr] at h; cases h)
  have hmeth' : T.vm.method? m = some meth := X.method'
  refine ⟨T.setFrames fs, ?_, .returned (some (.int 1)), hrun, hended, rfl, ⟨_, rfl⟩, hW, hframe⟩
  jvm_step X.here [X.here.top, hx, hb, hdg, hmeth', hr, ret, narrow_b1]
  (try refine ⟨rfl, ?_⟩); (try refine ⟨rfl, ?_⟩)
  first | (intro acts; rw [hret _ acts rfl rfl rfl]) | rw [hret _ _ rfl rfl rfl]
  exact Steps.refl _
/-- what holds at the law's entry: the machine, the code, the tables' words (any of lw_tbl by 'hts w (by decide +kernel)'), the script of L ints xs at the cell b, what the Statement gives of the start (any of its parts by flat_of_before) -/
def lw_At (p : Program) (s : State) (m : MethodId) (meth : Method) (c : Code) (b L : Nat) (xs : Nat → Int32) : Prop :=
  p.tables.exec = Jvm.exec ∧ c.code = code ∧ meth.sig.returnType = ret ∧ c.maxLocals = 8 ∧ s.vm.findClass R_law = some m.cls ∧ (∀ w ∈ lw_tbl, w.before #[Value.ref b] s = true) ∧ va_X b L xs s s.heap ∧ b < s.heap.size ∧ meth.locks = false ∧ (Jvm.Cond.and given_1 narrow_1).before #[Value.ref b] s = true
/-! THE LAW: its context, its cases -/
def LX (G : GG) (p : Program) (l : Launch) (s : State) (m : MethodId) (meth : Method) (c : Code) (b L : Nat) (xs : Nat → Int32) (cJ : ClassId) (qo : Nat) : Prop := Cx G p s m #[Value.ref b] meth c RL code 8 (some .boolean) ∧ Ex G s ∧ l.stackTraces = false ∧ va_X b L xs s s.heap ∧ b < s.heap.size ∧ gz G = s.heap.size ∧ (∀ i, i < 69 → qo ≠ ga G i) ∧ s.heap.size ≤ qo ∧ ArrOfT s cJ .long ∧ va_RA s cJ .long
def LW (G : GG) (s : State) (M : Mem) (H : Heap) (locs : List Loc) (cJ : ClassId) (qo : Nat) : Prop := Wd G s M H locs ∧ ∃ o : Int64, H[qo]? = some (outC cJ o)
section LAWC
variable {p : Program} {l : Launch} {s : State} {m : MethodId} {meth : Method} {c : Code} {G : GG} {b L qo : Nat} {xs : Nat → Int32} {cJ : ClassId} {M M1 : Mem} {H H1 : Heap} {locs locs1 : List Loc}
theorem LX.nb (X : LX G p l s m meth c b L xs cJ qo) : ¬ Af G s.heap.size b := fun z => by
  rcases z with ⟨i, hi, rfl⟩ | z
  · have := X.1.2.2.1.2 i hi
    have h1 := X.2.2.2.2.1
    have h2 := X.2.2.2.2.2.1
    omega
  · exact Nat.not_le.mpr X.2.2.2.2.1 z
theorem LX.no (X : LX G p l s m meth c b L xs cJ qo) {n : Nat} (h : qo < n) : ¬ Af G n qo := fun z => z.elim (fun ⟨i, hi, e⟩ => X.2.2.2.2.2.2.1 i hi e) (fun z => Nat.not_le.mpr h z)
theorem LW.on (X : LX G p l s m meth c b L xs cJ qo) (w : LW G s M H locs cJ qo) (w1 : Wd G s M1 H1 locs1) (hz : H.size ≤ H1.size) (hk : ∀ q : Nat, q < H.size → ¬ Af G H.size q → H1[q]? = H[q]?) : LW G s M1 H1 locs1 cJ qo := by
  obtain ⟨_, o, ho⟩ := w
  have hq : qo < H.size := (Array.getElem?_eq_some_iff.mp ho).1
  exact ⟨w1, o, by rw [hk qo hq (X.no hq)]; exact ho⟩
theorem LW.on2 (X : LX G p l s m meth c b L xs cJ qo) {o : Int64} (ho : H[qo]? = some (outC cJ o)) (w1 : Wd G s M1 H1 locs1) (hz : H.size ≤ H1.size) (hk : ∀ q : Nat, q < H.size → ¬ Af G H.size q → H1[q]? = H[q]?) : Wd G s M1 H1 locs1 ∧ ∃ o1 : Int64, H1[qo]? = some (outC cJ o1) ∧ o1 = o := by
  have hq : qo < H.size := (Array.getElem?_eq_some_iff.mp ho).1
  exact ⟨w1, o, by rw [hk qo hq (X.no hq)]; exact ho, rfl⟩
theorem LX.cw (X : LX G p l s m meth c b L xs cJ qo) {y : MethodName} {bytes : ByteArray} {maxL idx n mc ms d : Nat} {rt : Option FieldType} {hh : List (Nat × Nat × Nat × Nat)} (hy : Cond.codeWith y bytes maxL rt hh ∈ wsL_law) (hi : Cond.initialized y.cls ∈ wsL_law) (hk : Cond.methodLink RL idx y ∈ wsL_law) (hin : Cond.instanceMethod y ∈ wsL_law) (hse : Cond.selects y.cls y y ∈ wsL_law) (hd : y.cls ≠ "java/lang/invoke/MethodHandle" ∧ y.cls ≠ "java/lang/invoke/VarHandle" ∧ (parseMethodDescriptor y.desc).map (fun d => d.parameters.length) = some n) (hR : d + 1 ≤ room_1.frames ∧ 8 + (maxL + 11) + 64 * d ≤ room_1.locals) :
    vx_CVW room_1 s #[Value.ref b] RL y.cls idx y bytes maxL rt hh (Cond.codeWith y bytes maxL rt hh :: wsL_law) (rmc d mc ms) mc ms n :=
  ⟨⟨rfl, rfl, hR.1, hR.2, pay_in X.1.1.2.2.2.2 (good_h hy), List.mem_cons_self⟩, X.1.ws hy, X.1.ws hi, ⟨hd.1, hd.2.1⟩, fun sig h => by have h2 := hd.2.2; rw [h] at h2; exact (Option.some.inj h2).symm, X.1.ws hk, X.1.ws hin, X.1.ws hse⟩
theorem LX.cs (X : LX G p l s m meth c b L xs cJ qo) {y : MethodName} {bytes : ByteArray} {maxL idx n mc ms d : Nat} {rt : Option FieldType} {hh : List (Nat × Nat × Nat × Nat)} (hy : Cond.codeWith y bytes maxL rt hh ∈ wsL_law) (hi : Cond.initialized y.cls ∈ wsL_law) (hk : Cond.methodLink RL idx y ∈ wsL_law) (hst : Cond.static y ∈ wsL_law) (hd : y.cls ≠ "java/lang/invoke/MethodHandle" ∧ y.cls ≠ "java/lang/invoke/VarHandle" ∧ (parseMethodDescriptor y.desc).map (fun d => d.parameters.length) = some n) (hR : d + 1 ≤ room_1.frames ∧ 8 + (maxL + 11) + 64 * d ≤ room_1.locals) :
    vx_CSW room_1 s #[Value.ref b] RL idx y bytes maxL rt hh (Cond.codeWith y bytes maxL rt hh :: wsL_law) (rmc d mc ms) mc ms n :=
  ⟨⟨rfl, rfl, hR.1, hR.2, pay_in X.1.1.2.2.2.2 (good_h hy), List.mem_cons_self⟩, X.1.ws hy, X.1.ws hi, ⟨hd.1, hd.2.1⟩, fun sig h => by have h2 := hd.2.2; rw [h] at h2; exact (Option.some.inj h2).symm, X.1.ws hk, X.1.ws hst⟩
theorem Po.blind {av : List Value} {sz : Nat} {o : Int64} : FrameBlind (va_Pc av (Po G sz M cJ qo o)) := fun a U g mk h => ⟨h.1, (Pe.blind (G := G) (M := M) (av := av) (sz := sz) a U g mk ⟨h.1, h.2.1⟩).2, h.2.2.1, arrOfT_moved (u := U) (Vm.Alike.refl U.vm) h.2.2.2.1, h.2.2.2.2.moved (u := U) (Vm.Alike.refl U.vm)⟩
theorem Wd.po (X : LX G p l s m meth c b L xs cJ qo) (w : Wd G s M H locs) {o : Int64} (ho : H[qo]? = some (outC cJ o)) {av : List Value} : ∀ U : State, U.heap = H → s.WarmedH U.vm → va_Pc av (Po G H.size M cJ qo o) av.toArray U := fun U hU hW => ⟨rfl, (w.pe X.1 X.2.1 (av := av) U hU hW).2, by rw [hU]; exact ho, arrOfT_moved hW.alike X.2.2.2.2.2.2.2.2.1, X.2.2.2.2.2.2.2.2.2.moved hW.alike⟩
theorem Wd.ao (X : LX G p l s m meth c b L xs cJ qo) (w : Wd G s M H locs) : ∀ q, Ao G H.size qo q → Af G s.heap.size q := fun q h => h.elim (w.af q) (fun e => Or.inr (by rw [e]; exact X.2.2.2.2.2.2.2.1))
theorem one_P {D : va_G} {o : Int64} (ho : H[qo]? = some (outC cJ o)) : va_P D vwCl [(qo, .inl (cJ, 1, .inr (.inl (fun _ => o))))] H := fun k q hk => by
  have hz : k < 1 := (List.getElem?_eq_some_iff.mp hk).1
  rw [show k = 0 by omega] at hk
  cases hk
  exact ho
theorem LX.kj (X : LX G p l s m meth c b L xs cJ qo) : va_K (gD G) vwCl [(cJ, .long)] s := ⟨X.1.2.1.1.1, fun k q hk => by
  have hz : k < 1 := (List.getElem?_eq_some_iff.mp hk).1
  rw [show k = 0 by omega] at hk
  cases hk
  exact ⟨X.2.2.2.2.2.2.2.2.1, X.2.2.2.2.2.2.2.2.2⟩⟩
theorem cmp_same (x : Int64) : (if x > x then (1 : Int32) else if x = x then 0 else -1) = 0 := by simp
end LAWC
theorem kl_1_2 : Cond.initialized RX5 ∈ wsL_law := kin_1 (List.mem_of_getElem? (i := 2) rfl)
theorem kl_1_5 : Cond.initialized RX6 ∈ wsL_law := kin_1 (List.mem_of_getElem? (i := 5) rfl)
theorem kl_5_11 : Cond.methodLink RL 21 yX5_tow ∈ wsL_law := kin_5 (List.mem_of_getElem? (i := 11) rfl)
theorem kl_5_12 : Cond.instanceMethod yX5_tow ∈ wsL_law := kin_5 (List.mem_of_getElem? (i := 12) rfl)
theorem kl_5_13 : Cond.selects RX5 yX5_tow yX5_tow ∈ wsL_law := kin_5 (List.mem_of_getElem? (i := 13) rfl)
theorem kl_5_14 : Cond.code yX5_tow cX5_tow 4 (some .int) ∈ wsL_law := kin_5 (List.mem_of_getElem? (i := 14) rfl)
theorem kl_11_12 : Cond.methodLink RL 25 yX6_tow ∈ wsL_law := kin_11 (List.mem_of_getElem? (i := 12) rfl)
theorem kl_11_13 : Cond.instanceMethod yX6_tow ∈ wsL_law := kin_11 (List.mem_of_getElem? (i := 13) rfl)
theorem kl_11_14 : Cond.selects RX6 yX6_tow yX6_tow ∈ wsL_law := kin_11 (List.mem_of_getElem? (i := 14) rfl)
theorem kl_11_15 : Cond.code yX6_tow cX6_tow 7 (some .int) ∈ wsL_law := kin_11 (List.mem_of_getElem? (i := 15) rfl)
theorem kl_13_16 : Cond.methodLink RL 26 yX5_piece ∈ wsL_law := kin_13 (List.mem_of_getElem? (i := 16) rfl)
theorem kl_13_17 : Cond.instanceMethod yX5_piece ∈ wsL_law := kin_13 (List.mem_of_getElem? (i := 17) rfl)
theorem kl_13_18 : Cond.selects RX5 yX5_piece yX5_piece ∈ wsL_law := kin_13 (List.mem_of_getElem? (i := 18) rfl)
theorem kl_13_19 : Cond.code yX5_piece cX5_piece 4 (some .int) ∈ wsL_law := kin_13 (List.mem_of_getElem? (i := 19) rfl)
theorem kl_13_23 : Cond.methodLink RL 30 yX6_piece ∈ wsL_law := kin_13 (List.mem_of_getElem? (i := 23) rfl)
theorem kl_14_0 : Cond.instanceMethod yX6_piece ∈ wsL_law := kin_14 (List.mem_of_getElem? (i := 0) rfl)
theorem kl_14_1 : Cond.selects RX6 yX6_piece yX6_piece ∈ wsL_law := kin_14 (List.mem_of_getElem? (i := 1) rfl)
theorem kl_14_2 : Cond.code yX6_piece cX6_piece 5 (some .int) ∈ wsL_law := kin_14 (List.mem_of_getElem? (i := 2) rfl)
theorem kl_14_23 : Cond.methodLink RL 31 yX5_set ∈ wsL_law := kin_14 (List.mem_of_getElem? (i := 23) rfl)
theorem kl_15_0 : Cond.instanceMethod yX5_set ∈ wsL_law := kin_15 (List.mem_of_getElem? (i := 0) rfl)
theorem kl_15_1 : Cond.selects RX5 yX5_set yX5_set ∈ wsL_law := kin_15 (List.mem_of_getElem? (i := 1) rfl)
theorem kl_15_2 : Cond.code yX5_set cX5_set 4 (some .int) ∈ wsL_law := kin_15 (List.mem_of_getElem? (i := 2) rfl)
theorem kl_15_3 : Cond.methodLink RL 34 yX6_set ∈ wsL_law := kin_15 (List.mem_of_getElem? (i := 3) rfl)
theorem kl_15_4 : Cond.instanceMethod yX6_set ∈ wsL_law := kin_15 (List.mem_of_getElem? (i := 4) rfl)
theorem kl_15_5 : Cond.selects RX6 yX6_set yX6_set ∈ wsL_law := kin_15 (List.mem_of_getElem? (i := 5) rfl)
theorem kl_15_6 : Cond.code yX6_set cX6_set 4 (some .int) ∈ wsL_law := kin_15 (List.mem_of_getElem? (i := 6) rfl)
theorem kl_15_14 : Cond.methodLink RL 35 yX5_line ∈ wsL_law := kin_15 (List.mem_of_getElem? (i := 14) rfl)
theorem kl_15_15 : Cond.instanceMethod yX5_line ∈ wsL_law := kin_15 (List.mem_of_getElem? (i := 15) rfl)
theorem kl_15_16 : Cond.selects RX5 yX5_line yX5_line ∈ wsL_law := kin_15 (List.mem_of_getElem? (i := 16) rfl)
theorem kl_15_17 : Cond.code yX5_line cX5_line 2 (some .int) ∈ wsL_law := kin_15 (List.mem_of_getElem? (i := 17) rfl)
theorem kl_17_0 : Cond.methodLink RL 38 yX6_line ∈ wsL_law := kin_17 (List.mem_of_getElem? (i := 0) rfl)
theorem kl_17_1 : Cond.instanceMethod yX6_line ∈ wsL_law := kin_17 (List.mem_of_getElem? (i := 1) rfl)
theorem kl_17_2 : Cond.selects RX6 yX6_line yX6_line ∈ wsL_law := kin_17 (List.mem_of_getElem? (i := 2) rfl)
theorem kl_17_3 : Cond.code yX6_line cX6_line 2 (some .int) ∈ wsL_law := kin_17 (List.mem_of_getElem? (i := 3) rfl)
theorem kl_18_8 : Cond.methodLink RL 39 yX5_apart ∈ wsL_law := kin_18 (List.mem_of_getElem? (i := 8) rfl)
theorem kl_18_9 : Cond.instanceMethod yX5_apart ∈ wsL_law := kin_18 (List.mem_of_getElem? (i := 9) rfl)
theorem kl_18_10 : Cond.selects RX5 yX5_apart yX5_apart ∈ wsL_law := kin_18 (List.mem_of_getElem? (i := 10) rfl)
theorem kl_18_11 : Cond.code yX5_apart cX5_apart 2 (some .int) ∈ wsL_law := kin_18 (List.mem_of_getElem? (i := 11) rfl)
theorem kl_18_22 : Cond.methodLink RL 42 yX6_apart ∈ wsL_law := kin_18 (List.mem_of_getElem? (i := 22) rfl)
theorem kl_18_23 : Cond.instanceMethod yX6_apart ∈ wsL_law := kin_18 (List.mem_of_getElem? (i := 23) rfl)
theorem kl_19_0 : Cond.selects RX6 yX6_apart yX6_apart ∈ wsL_law := kin_19 (List.mem_of_getElem? (i := 0) rfl)
theorem kl_19_1 : Cond.code yX6_apart cX6_apart 2 (some .int) ∈ wsL_law := kin_19 (List.mem_of_getElem? (i := 1) rfl)
theorem kl_19_14 : Cond.methodLink RL 43 yX5_pull ∈ wsL_law := kin_19 (List.mem_of_getElem? (i := 14) rfl)
theorem kl_19_15 : Cond.instanceMethod yX5_pull ∈ wsL_law := kin_19 (List.mem_of_getElem? (i := 15) rfl)
theorem kl_19_16 : Cond.selects RX5 yX5_pull yX5_pull ∈ wsL_law := kin_19 (List.mem_of_getElem? (i := 16) rfl)
theorem kl_19_17 : Cond.code yX5_pull cX5_pull 2 (some .int) ∈ wsL_law := kin_19 (List.mem_of_getElem? (i := 17) rfl)
theorem kl_20_9 : Cond.methodLink RL 46 yX6_pull ∈ wsL_law := kin_20 (List.mem_of_getElem? (i := 9) rfl)
theorem kl_20_10 : Cond.instanceMethod yX6_pull ∈ wsL_law := kin_20 (List.mem_of_getElem? (i := 10) rfl)
theorem kl_20_11 : Cond.selects RX6 yX6_pull yX6_pull ∈ wsL_law := kin_20 (List.mem_of_getElem? (i := 11) rfl)
theorem kl_20_12 : Cond.code yX6_pull cX6_pull 2 (some .int) ∈ wsL_law := kin_20 (List.mem_of_getElem? (i := 12) rfl)
theorem kl_20_18 : Cond.methodLink RL 47 yX5_tenth ∈ wsL_law := kin_20 (List.mem_of_getElem? (i := 18) rfl)
theorem kl_20_19 : Cond.instanceMethod yX5_tenth ∈ wsL_law := kin_20 (List.mem_of_getElem? (i := 19) rfl)
theorem kl_20_20 : Cond.selects RX5 yX5_tenth yX5_tenth ∈ wsL_law := kin_20 (List.mem_of_getElem? (i := 20) rfl)
theorem kl_20_21 : Cond.code yX5_tenth cX5_tenth 1 (some .int) ∈ wsL_law := kin_20 (List.mem_of_getElem? (i := 21) rfl)
theorem kl_21_15 : Cond.methodLink RL 51 yX6_tenth ∈ wsL_law := kin_21 (List.mem_of_getElem? (i := 15) rfl)
theorem kl_21_16 : Cond.instanceMethod yX6_tenth ∈ wsL_law := kin_21 (List.mem_of_getElem? (i := 16) rfl)
theorem kl_21_17 : Cond.selects RX6 yX6_tenth yX6_tenth ∈ wsL_law := kin_21 (List.mem_of_getElem? (i := 17) rfl)
theorem kl_21_18 : Cond.code yX6_tenth cX6_tenth 1 (some .int) ∈ wsL_law := kin_21 (List.mem_of_getElem? (i := 18) rfl)
theorem kl_22_8 : Cond.methodLink RL 52 yX5_greatest ∈ wsL_law := kin_22 (List.mem_of_getElem? (i := 8) rfl)
theorem kl_22_9 : Cond.instanceMethod yX5_greatest ∈ wsL_law := kin_22 (List.mem_of_getElem? (i := 9) rfl)
theorem kl_22_10 : Cond.selects RX5 yX5_greatest yX5_greatest ∈ wsL_law := kin_22 (List.mem_of_getElem? (i := 10) rfl)
theorem kl_22_11 : Cond.code yX5_greatest cX5_greatest 2 (some .int) ∈ wsL_law := kin_22 (List.mem_of_getElem? (i := 11) rfl)
theorem kl_22_20 : Cond.methodLink RL 55 yX6_greatest ∈ wsL_law := kin_22 (List.mem_of_getElem? (i := 20) rfl)
theorem kl_22_21 : Cond.instanceMethod yX6_greatest ∈ wsL_law := kin_22 (List.mem_of_getElem? (i := 21) rfl)
theorem kl_22_22 : Cond.selects RX6 yX6_greatest yX6_greatest ∈ wsL_law := kin_22 (List.mem_of_getElem? (i := 22) rfl)
theorem kl_22_23 : Cond.code yX6_greatest cX6_greatest 3 (some .int) ∈ wsL_law := kin_22 (List.mem_of_getElem? (i := 23) rfl)
theorem kl_23_5 : Cond.methodLink RL 56 yX5_holds ∈ wsL_law := kin_23 (List.mem_of_getElem? (i := 5) rfl)
theorem kl_23_6 : Cond.instanceMethod yX5_holds ∈ wsL_law := kin_23 (List.mem_of_getElem? (i := 6) rfl)
theorem kl_23_7 : Cond.selects RX5 yX5_holds yX5_holds ∈ wsL_law := kin_23 (List.mem_of_getElem? (i := 7) rfl)
theorem kl_23_8 : Cond.code yX5_holds cX5_holds 4 (some .int) ∈ wsL_law := kin_23 (List.mem_of_getElem? (i := 8) rfl)
theorem kl_23_13 : Cond.methodLink RL 59 yX6_holds ∈ wsL_law := kin_23 (List.mem_of_getElem? (i := 13) rfl)
theorem kl_23_14 : Cond.instanceMethod yX6_holds ∈ wsL_law := kin_23 (List.mem_of_getElem? (i := 14) rfl)
theorem kl_23_15 : Cond.selects RX6 yX6_holds yX6_holds ∈ wsL_law := kin_23 (List.mem_of_getElem? (i := 15) rfl)
theorem kl_23_16 : Cond.code yX6_holds cX6_holds 4 (some .int) ∈ wsL_law := kin_23 (List.mem_of_getElem? (i := 16) rfl)
theorem kl_23_23 : Cond.methodLink RL 60 yX5_fastest ∈ wsL_law := kin_23 (List.mem_of_getElem? (i := 23) rfl)
theorem kl_24_0 : Cond.instanceMethod yX5_fastest ∈ wsL_law := kin_24 (List.mem_of_getElem? (i := 0) rfl)
theorem kl_24_1 : Cond.selects RX5 yX5_fastest yX5_fastest ∈ wsL_law := kin_24 (List.mem_of_getElem? (i := 1) rfl)
theorem kl_24_2 : Cond.code yX5_fastest cX5_fastest 3 (some .int) ∈ wsL_law := kin_24 (List.mem_of_getElem? (i := 2) rfl)
theorem kl_24_4 : Cond.methodLink RL 63 yX6_fastest ∈ wsL_law := kin_24 (List.mem_of_getElem? (i := 4) rfl)
theorem kl_24_5 : Cond.instanceMethod yX6_fastest ∈ wsL_law := kin_24 (List.mem_of_getElem? (i := 5) rfl)
theorem kl_24_6 : Cond.selects RX6 yX6_fastest yX6_fastest ∈ wsL_law := kin_24 (List.mem_of_getElem? (i := 6) rfl)
theorem kl_24_7 : Cond.code yX6_fastest cX6_fastest 5 (some .int) ∈ wsL_law := kin_24 (List.mem_of_getElem? (i := 7) rfl)
theorem kl_24_8 : Cond.methodLink RL 64 yX5_longer ∈ wsL_law := kin_24 (List.mem_of_getElem? (i := 8) rfl)
theorem kl_24_9 : Cond.instanceMethod yX5_longer ∈ wsL_law := kin_24 (List.mem_of_getElem? (i := 9) rfl)
theorem kl_24_10 : Cond.selects RX5 yX5_longer yX5_longer ∈ wsL_law := kin_24 (List.mem_of_getElem? (i := 10) rfl)
theorem kl_24_11 : Cond.code yX5_longer cX5_longer 4 (some .int) ∈ wsL_law := kin_24 (List.mem_of_getElem? (i := 11) rfl)
theorem kl_24_12 : Cond.methodLink RL 67 yX6_longer ∈ wsL_law := kin_24 (List.mem_of_getElem? (i := 12) rfl)
theorem kl_24_13 : Cond.instanceMethod yX6_longer ∈ wsL_law := kin_24 (List.mem_of_getElem? (i := 13) rfl)
theorem kl_24_14 : Cond.selects RX6 yX6_longer yX6_longer ∈ wsL_law := kin_24 (List.mem_of_getElem? (i := 14) rfl)
theorem kl_24_15 : Cond.code yX6_longer cX6_longer 6 (some .int) ∈ wsL_law := kin_24 (List.mem_of_getElem? (i := 15) rfl)
theorem kl_24_16 : Cond.methodLink RL 68 yX5_stock ∈ wsL_law := kin_24 (List.mem_of_getElem? (i := 16) rfl)
theorem kl_24_17 : Cond.instanceMethod yX5_stock ∈ wsL_law := kin_24 (List.mem_of_getElem? (i := 17) rfl)
theorem kl_24_18 : Cond.selects RX5 yX5_stock yX5_stock ∈ wsL_law := kin_24 (List.mem_of_getElem? (i := 18) rfl)
theorem kl_24_19 : Cond.code yX5_stock cX5_stock 7 (some .int) ∈ wsL_law := kin_24 (List.mem_of_getElem? (i := 19) rfl)
theorem kl_25_0 : Cond.methodLink RL 71 yX6_stock ∈ wsL_law := kin_25 (List.mem_of_getElem? (i := 0) rfl)
theorem kl_25_1 : Cond.instanceMethod yX6_stock ∈ wsL_law := kin_25 (List.mem_of_getElem? (i := 1) rfl)
theorem kl_25_2 : Cond.selects RX6 yX6_stock yX6_stock ∈ wsL_law := kin_25 (List.mem_of_getElem? (i := 2) rfl)
theorem kl_25_3 : Cond.code yX6_stock cX6_stock 8 (some .int) ∈ wsL_law := kin_25 (List.mem_of_getElem? (i := 3) rfl)
theorem kl_25_5 : Cond.methodLink RL 72 yX5_bridge ∈ wsL_law := kin_25 (List.mem_of_getElem? (i := 5) rfl)
theorem kl_25_6 : Cond.instanceMethod yX5_bridge ∈ wsL_law := kin_25 (List.mem_of_getElem? (i := 6) rfl)
theorem kl_25_7 : Cond.selects RX5 yX5_bridge yX5_bridge ∈ wsL_law := kin_25 (List.mem_of_getElem? (i := 7) rfl)
theorem kl_25_8 : Cond.code yX5_bridge cX5_bridge 4 (some .int) ∈ wsL_law := kin_25 (List.mem_of_getElem? (i := 8) rfl)
theorem kl_25_11 : Cond.methodLink RL 75 yX6_bridge ∈ wsL_law := kin_25 (List.mem_of_getElem? (i := 11) rfl)
theorem kl_25_12 : Cond.instanceMethod yX6_bridge ∈ wsL_law := kin_25 (List.mem_of_getElem? (i := 12) rfl)
theorem kl_25_13 : Cond.selects RX6 yX6_bridge yX6_bridge ∈ wsL_law := kin_25 (List.mem_of_getElem? (i := 13) rfl)
theorem kl_25_14 : Cond.code yX6_bridge cX6_bridge 6 (some .int) ∈ wsL_law := kin_25 (List.mem_of_getElem? (i := 14) rfl)
theorem kl_25_17 : Cond.methodLink RL 76 yX5_fouls ∈ wsL_law := kin_25 (List.mem_of_getElem? (i := 17) rfl)
theorem kl_25_18 : Cond.instanceMethod yX5_fouls ∈ wsL_law := kin_25 (List.mem_of_getElem? (i := 18) rfl)
theorem kl_25_19 : Cond.selects RX5 yX5_fouls yX5_fouls ∈ wsL_law := kin_25 (List.mem_of_getElem? (i := 19) rfl)
theorem kl_25_20 : Cond.code yX5_fouls cX5_fouls 1 (some .int) ∈ wsL_law := kin_25 (List.mem_of_getElem? (i := 20) rfl)
theorem kl_25_21 : Cond.methodLink RL 79 yX6_fouls ∈ wsL_law := kin_25 (List.mem_of_getElem? (i := 21) rfl)
theorem kl_25_22 : Cond.instanceMethod yX6_fouls ∈ wsL_law := kin_25 (List.mem_of_getElem? (i := 22) rfl)
theorem kl_25_23 : Cond.selects RX6 yX6_fouls yX6_fouls ∈ wsL_law := kin_25 (List.mem_of_getElem? (i := 23) rfl)
theorem kl_26_0 : Cond.code yX6_fouls cX6_fouls 1 (some .int) ∈ wsL_law := kin_26 (List.mem_of_getElem? (i := 0) rfl)
theorem kl_26_5 : Cond.methodLink RL 80 yX5_takeIn ∈ wsL_law := kin_26 (List.mem_of_getElem? (i := 5) rfl)
theorem kl_26_6 : Cond.instanceMethod yX5_takeIn ∈ wsL_law := kin_26 (List.mem_of_getElem? (i := 6) rfl)
theorem kl_26_7 : Cond.selects RX5 yX5_takeIn yX5_takeIn ∈ wsL_law := kin_26 (List.mem_of_getElem? (i := 7) rfl)
theorem kl_26_8 : Cond.code yX5_takeIn cX5_takeIn 6 (some .int) ∈ wsL_law := kin_26 (List.mem_of_getElem? (i := 8) rfl)
theorem kl_26_13 : Cond.methodLink RL 83 yX6_takeIn ∈ wsL_law := kin_26 (List.mem_of_getElem? (i := 13) rfl)
theorem kl_26_14 : Cond.instanceMethod yX6_takeIn ∈ wsL_law := kin_26 (List.mem_of_getElem? (i := 14) rfl)
theorem kl_26_15 : Cond.selects RX6 yX6_takeIn yX6_takeIn ∈ wsL_law := kin_26 (List.mem_of_getElem? (i := 15) rfl)
theorem kl_26_16 : Cond.code yX6_takeIn cX6_takeIn 7 (some .int) ∈ wsL_law := kin_26 (List.mem_of_getElem? (i := 16) rfl)
theorem kl_26_17 : Cond.methodLink RL 84 yX5_shallowest ∈ wsL_law := kin_26 (List.mem_of_getElem? (i := 17) rfl)
theorem kl_26_18 : Cond.instanceMethod yX5_shallowest ∈ wsL_law := kin_26 (List.mem_of_getElem? (i := 18) rfl)
theorem kl_26_19 : Cond.selects RX5 yX5_shallowest yX5_shallowest ∈ wsL_law := kin_26 (List.mem_of_getElem? (i := 19) rfl)
theorem kl_26_20 : Cond.code yX5_shallowest cX5_shallowest 3 (some .int) ∈ wsL_law := kin_26 (List.mem_of_getElem? (i := 20) rfl)
theorem kl_26_23 : Cond.methodLink RL 87 yX6_shallowest ∈ wsL_law := kin_26 (List.mem_of_getElem? (i := 23) rfl)
theorem kl_27_0 : Cond.instanceMethod yX6_shallowest ∈ wsL_law := kin_27 (List.mem_of_getElem? (i := 0) rfl)
theorem kl_27_1 : Cond.selects RX6 yX6_shallowest yX6_shallowest ∈ wsL_law := kin_27 (List.mem_of_getElem? (i := 1) rfl)
theorem kl_27_2 : Cond.code yX6_shallowest cX6_shallowest 2 (some .int) ∈ wsL_law := kin_27 (List.mem_of_getElem? (i := 2) rfl)
theorem kl_27_3 : Cond.methodLink RL 88 yX5_odds ∈ wsL_law := kin_27 (List.mem_of_getElem? (i := 3) rfl)
theorem kl_27_4 : Cond.instanceMethod yX5_odds ∈ wsL_law := kin_27 (List.mem_of_getElem? (i := 4) rfl)
theorem kl_27_5 : Cond.selects RX5 yX5_odds yX5_odds ∈ wsL_law := kin_27 (List.mem_of_getElem? (i := 5) rfl)
theorem kl_27_6 : Cond.code yX5_odds cX5_odds 5 (some .int) ∈ wsL_law := kin_27 (List.mem_of_getElem? (i := 6) rfl)
theorem kl_27_18 : Cond.methodLink RL 91 yX6_odds ∈ wsL_law := kin_27 (List.mem_of_getElem? (i := 18) rfl)
theorem kl_27_19 : Cond.instanceMethod yX6_odds ∈ wsL_law := kin_27 (List.mem_of_getElem? (i := 19) rfl)
theorem kl_27_20 : Cond.selects RX6 yX6_odds yX6_odds ∈ wsL_law := kin_27 (List.mem_of_getElem? (i := 20) rfl)
theorem kl_27_21 : Cond.code yX6_odds cX6_odds 10 (some .int) ∈ wsL_law := kin_27 (List.mem_of_getElem? (i := 21) rfl)
theorem kl_28_2 : Cond.methodLink RL 92 yX5_yaw ∈ wsL_law := kin_28 (List.mem_of_getElem? (i := 2) rfl)
theorem kl_28_3 : Cond.instanceMethod yX5_yaw ∈ wsL_law := kin_28 (List.mem_of_getElem? (i := 3) rfl)
theorem kl_28_4 : Cond.selects RX5 yX5_yaw yX5_yaw ∈ wsL_law := kin_28 (List.mem_of_getElem? (i := 4) rfl)
theorem kl_28_5 : Cond.code yX5_yaw cX5_yaw 2 (some .int) ∈ wsL_law := kin_28 (List.mem_of_getElem? (i := 5) rfl)
theorem kl_28_6 : Cond.methodLink RL 95 yX6_yaw ∈ wsL_law := kin_28 (List.mem_of_getElem? (i := 6) rfl)
theorem kl_28_7 : Cond.instanceMethod yX6_yaw ∈ wsL_law := kin_28 (List.mem_of_getElem? (i := 7) rfl)
theorem kl_28_8 : Cond.selects RX6 yX6_yaw yX6_yaw ∈ wsL_law := kin_28 (List.mem_of_getElem? (i := 8) rfl)
theorem kl_28_9 : Cond.code yX6_yaw cX6_yaw 2 (some .int) ∈ wsL_law := kin_28 (List.mem_of_getElem? (i := 9) rfl)
theorem kl_28_10 : Cond.methodLink RL 96 yX5_yaws ∈ wsL_law := kin_28 (List.mem_of_getElem? (i := 10) rfl)
theorem kl_28_11 : Cond.instanceMethod yX5_yaws ∈ wsL_law := kin_28 (List.mem_of_getElem? (i := 11) rfl)
theorem kl_28_12 : Cond.selects RX5 yX5_yaws yX5_yaws ∈ wsL_law := kin_28 (List.mem_of_getElem? (i := 12) rfl)
theorem kl_28_13 : Cond.code yX5_yaws cX5_yaws 2 (some .int) ∈ wsL_law := kin_28 (List.mem_of_getElem? (i := 13) rfl)
theorem kl_28_23 : Cond.methodLink RL 99 yX6_yaws ∈ wsL_law := kin_28 (List.mem_of_getElem? (i := 23) rfl)
theorem kl_29_0 : Cond.instanceMethod yX6_yaws ∈ wsL_law := kin_29 (List.mem_of_getElem? (i := 0) rfl)
theorem kl_29_1 : Cond.selects RX6 yX6_yaws yX6_yaws ∈ wsL_law := kin_29 (List.mem_of_getElem? (i := 1) rfl)
theorem kl_29_2 : Cond.code yX6_yaws cX6_yaws 3 (some .int) ∈ wsL_law := kin_29 (List.mem_of_getElem? (i := 2) rfl)
theorem kl_29_10 : Cond.methodLink RL 100 yX5_swings ∈ wsL_law := kin_29 (List.mem_of_getElem? (i := 10) rfl)
theorem kl_29_11 : Cond.instanceMethod yX5_swings ∈ wsL_law := kin_29 (List.mem_of_getElem? (i := 11) rfl)
theorem kl_29_12 : Cond.selects RX5 yX5_swings yX5_swings ∈ wsL_law := kin_29 (List.mem_of_getElem? (i := 12) rfl)
theorem kl_29_13 : Cond.code yX5_swings cX5_swings 4 (some .int) ∈ wsL_law := kin_29 (List.mem_of_getElem? (i := 13) rfl)
theorem kl_29_14 : Cond.methodLink RL 103 yX6_swings ∈ wsL_law := kin_29 (List.mem_of_getElem? (i := 14) rfl)
theorem kl_29_15 : Cond.instanceMethod yX6_swings ∈ wsL_law := kin_29 (List.mem_of_getElem? (i := 15) rfl)
theorem kl_29_16 : Cond.selects RX6 yX6_swings yX6_swings ∈ wsL_law := kin_29 (List.mem_of_getElem? (i := 16) rfl)
theorem kl_29_17 : Cond.code yX6_swings cX6_swings 5 (some .int) ∈ wsL_law := kin_29 (List.mem_of_getElem? (i := 17) rfl)
theorem kl_29_18 : Cond.methodLink RL 104 yX5_grows ∈ wsL_law := kin_29 (List.mem_of_getElem? (i := 18) rfl)
theorem kl_29_19 : Cond.instanceMethod yX5_grows ∈ wsL_law := kin_29 (List.mem_of_getElem? (i := 19) rfl)
theorem kl_29_20 : Cond.selects RX5 yX5_grows yX5_grows ∈ wsL_law := kin_29 (List.mem_of_getElem? (i := 20) rfl)
theorem kl_29_21 : Cond.code yX5_grows cX5_grows 1 (some .int) ∈ wsL_law := kin_29 (List.mem_of_getElem? (i := 21) rfl)
theorem kl_30_2 : Cond.methodLink RL 107 yX6_grows ∈ wsL_law := kin_30 (List.mem_of_getElem? (i := 2) rfl)
theorem kl_30_3 : Cond.instanceMethod yX6_grows ∈ wsL_law := kin_30 (List.mem_of_getElem? (i := 3) rfl)
theorem kl_30_4 : Cond.selects RX6 yX6_grows yX6_grows ∈ wsL_law := kin_30 (List.mem_of_getElem? (i := 4) rfl)
theorem kl_30_5 : Cond.code yX6_grows cX6_grows 1 (some .int) ∈ wsL_law := kin_30 (List.mem_of_getElem? (i := 5) rfl)
theorem kl_30_10 : Cond.methodLink RL 108 yX5_held ∈ wsL_law := kin_30 (List.mem_of_getElem? (i := 10) rfl)
theorem kl_30_11 : Cond.instanceMethod yX5_held ∈ wsL_law := kin_30 (List.mem_of_getElem? (i := 11) rfl)
theorem kl_30_12 : Cond.selects RX5 yX5_held yX5_held ∈ wsL_law := kin_30 (List.mem_of_getElem? (i := 12) rfl)
theorem kl_30_13 : Cond.code yX5_held cX5_held 2 (some .int) ∈ wsL_law := kin_30 (List.mem_of_getElem? (i := 13) rfl)
theorem kl_30_14 : Cond.methodLink RL 111 yX6_held ∈ wsL_law := kin_30 (List.mem_of_getElem? (i := 14) rfl)
theorem kl_30_15 : Cond.instanceMethod yX6_held ∈ wsL_law := kin_30 (List.mem_of_getElem? (i := 15) rfl)
theorem kl_30_16 : Cond.selects RX6 yX6_held yX6_held ∈ wsL_law := kin_30 (List.mem_of_getElem? (i := 16) rfl)
theorem kl_30_17 : Cond.code yX6_held cX6_held 4 (some .int) ∈ wsL_law := kin_30 (List.mem_of_getElem? (i := 17) rfl)
theorem kl_30_18 : Cond.methodLink RL 112 yX5_whip ∈ wsL_law := kin_30 (List.mem_of_getElem? (i := 18) rfl)
theorem kl_30_19 : Cond.instanceMethod yX5_whip ∈ wsL_law := kin_30 (List.mem_of_getElem? (i := 19) rfl)
theorem kl_30_20 : Cond.selects RX5 yX5_whip yX5_whip ∈ wsL_law := kin_30 (List.mem_of_getElem? (i := 20) rfl)
theorem kl_30_21 : Cond.code yX5_whip cX5_whip 3 (some .int) ∈ wsL_law := kin_30 (List.mem_of_getElem? (i := 21) rfl)
theorem kl_30_22 : Cond.methodLink RL 115 yX6_whip ∈ wsL_law := kin_30 (List.mem_of_getElem? (i := 22) rfl)
theorem kl_30_23 : Cond.instanceMethod yX6_whip ∈ wsL_law := kin_30 (List.mem_of_getElem? (i := 23) rfl)
theorem kl_31_0 : Cond.selects RX6 yX6_whip yX6_whip ∈ wsL_law := kin_31 (List.mem_of_getElem? (i := 0) rfl)
theorem kl_31_1 : Cond.code yX6_whip cX6_whip 2 (some .int) ∈ wsL_law := kin_31 (List.mem_of_getElem? (i := 1) rfl)
theorem kl_31_2 : Cond.methodLink RL 116 yX5_renders ∈ wsL_law := kin_31 (List.mem_of_getElem? (i := 2) rfl)
theorem kl_31_3 : Cond.instanceMethod yX5_renders ∈ wsL_law := kin_31 (List.mem_of_getElem? (i := 3) rfl)
theorem kl_31_4 : Cond.selects RX5 yX5_renders yX5_renders ∈ wsL_law := kin_31 (List.mem_of_getElem? (i := 4) rfl)
theorem kl_31_5 : Cond.code yX5_renders cX5_renders 2 (some .int) ∈ wsL_law := kin_31 (List.mem_of_getElem? (i := 5) rfl)
theorem kl_31_9 : Cond.methodLink RL 119 yX6_renders ∈ wsL_law := kin_31 (List.mem_of_getElem? (i := 9) rfl)
theorem kl_31_10 : Cond.instanceMethod yX6_renders ∈ wsL_law := kin_31 (List.mem_of_getElem? (i := 10) rfl)
theorem kl_31_11 : Cond.selects RX6 yX6_renders yX6_renders ∈ wsL_law := kin_31 (List.mem_of_getElem? (i := 11) rfl)
theorem kl_31_12 : Cond.code yX6_renders cX6_renders 2 (some .int) ∈ wsL_law := kin_31 (List.mem_of_getElem? (i := 12) rfl)
theorem kl_31_17 : Cond.methodLink RL 120 yX5_winch ∈ wsL_law := kin_31 (List.mem_of_getElem? (i := 17) rfl)
theorem kl_31_18 : Cond.instanceMethod yX5_winch ∈ wsL_law := kin_31 (List.mem_of_getElem? (i := 18) rfl)
theorem kl_31_19 : Cond.selects RX5 yX5_winch yX5_winch ∈ wsL_law := kin_31 (List.mem_of_getElem? (i := 19) rfl)
theorem kl_31_20 : Cond.code yX5_winch cX5_winch 5 (some .int) ∈ wsL_law := kin_31 (List.mem_of_getElem? (i := 20) rfl)
theorem kl_31_21 : Cond.methodLink RL 123 yX6_winch ∈ wsL_law := kin_31 (List.mem_of_getElem? (i := 21) rfl)
theorem kl_31_22 : Cond.instanceMethod yX6_winch ∈ wsL_law := kin_31 (List.mem_of_getElem? (i := 22) rfl)
theorem kl_31_23 : Cond.selects RX6 yX6_winch yX6_winch ∈ wsL_law := kin_31 (List.mem_of_getElem? (i := 23) rfl)
theorem kl_32_0 : Cond.code yX6_winch cX6_winch 3 (some .int) ∈ wsL_law := kin_32 (List.mem_of_getElem? (i := 0) rfl)
theorem kl_32_1 : Cond.methodLink RL 124 yX5_legs ∈ wsL_law := kin_32 (List.mem_of_getElem? (i := 1) rfl)
theorem kl_32_2 : Cond.instanceMethod yX5_legs ∈ wsL_law := kin_32 (List.mem_of_getElem? (i := 2) rfl)
theorem kl_32_3 : Cond.selects RX5 yX5_legs yX5_legs ∈ wsL_law := kin_32 (List.mem_of_getElem? (i := 3) rfl)
theorem kl_32_4 : Cond.code yX5_legs cX5_legs 5 (some .int) ∈ wsL_law := kin_32 (List.mem_of_getElem? (i := 4) rfl)
theorem kl_32_22 : Cond.methodLink RL 127 yX6_legs ∈ wsL_law := kin_32 (List.mem_of_getElem? (i := 22) rfl)
theorem kl_32_23 : Cond.instanceMethod yX6_legs ∈ wsL_law := kin_32 (List.mem_of_getElem? (i := 23) rfl)
theorem kl_33_0 : Cond.selects RX6 yX6_legs yX6_legs ∈ wsL_law := kin_33 (List.mem_of_getElem? (i := 0) rfl)
theorem kl_33_1 : Cond.code yX6_legs cX6_legs 9 (some .int) ∈ wsL_law := kin_33 (List.mem_of_getElem? (i := 1) rfl)
theorem kl_33_16 : Cond.methodLink RL 128 yX5_why ∈ wsL_law := kin_33 (List.mem_of_getElem? (i := 16) rfl)
theorem kl_33_17 : Cond.instanceMethod yX5_why ∈ wsL_law := kin_33 (List.mem_of_getElem? (i := 17) rfl)
theorem kl_33_18 : Cond.selects RX5 yX5_why yX5_why ∈ wsL_law := kin_33 (List.mem_of_getElem? (i := 18) rfl)
theorem kl_33_19 : Cond.code yX5_why cX5_why 3 (some .int) ∈ wsL_law := kin_33 (List.mem_of_getElem? (i := 19) rfl)
theorem kl_33_20 : Cond.methodLink RL 131 yX6_why ∈ wsL_law := kin_33 (List.mem_of_getElem? (i := 20) rfl)
theorem kl_33_21 : Cond.instanceMethod yX6_why ∈ wsL_law := kin_33 (List.mem_of_getElem? (i := 21) rfl)
theorem kl_33_22 : Cond.selects RX6 yX6_why yX6_why ∈ wsL_law := kin_33 (List.mem_of_getElem? (i := 22) rfl)
theorem kl_33_23 : Cond.code yX6_why cX6_why 2 (some .int) ∈ wsL_law := kin_33 (List.mem_of_getElem? (i := 23) rfl)
theorem kl_34_0 : Cond.methodLink RL 132 yX5_caravan ∈ wsL_law := kin_34 (List.mem_of_getElem? (i := 0) rfl)
theorem kl_34_1 : Cond.instanceMethod yX5_caravan ∈ wsL_law := kin_34 (List.mem_of_getElem? (i := 1) rfl)
theorem kl_34_2 : Cond.selects RX5 yX5_caravan yX5_caravan ∈ wsL_law := kin_34 (List.mem_of_getElem? (i := 2) rfl)
theorem kl_34_3 : Cond.code yX5_caravan cX5_caravan 4 (some .int) ∈ wsL_law := kin_34 (List.mem_of_getElem? (i := 3) rfl)
theorem kl_34_4 : Cond.methodLink RL 135 yX6_caravan ∈ wsL_law := kin_34 (List.mem_of_getElem? (i := 4) rfl)
theorem kl_34_5 : Cond.instanceMethod yX6_caravan ∈ wsL_law := kin_34 (List.mem_of_getElem? (i := 5) rfl)
theorem kl_34_6 : Cond.selects RX6 yX6_caravan yX6_caravan ∈ wsL_law := kin_34 (List.mem_of_getElem? (i := 6) rfl)
theorem kl_34_7 : Cond.code yX6_caravan cX6_caravan 4 (some .int) ∈ wsL_law := kin_34 (List.mem_of_getElem? (i := 7) rfl)
theorem kl_34_8 : Cond.methodLink RL 136 yX5_judge ∈ wsL_law := kin_34 (List.mem_of_getElem? (i := 8) rfl)
theorem kl_34_9 : Cond.instanceMethod yX5_judge ∈ wsL_law := kin_34 (List.mem_of_getElem? (i := 9) rfl)
theorem kl_34_10 : Cond.selects RX5 yX5_judge yX5_judge ∈ wsL_law := kin_34 (List.mem_of_getElem? (i := 10) rfl)
theorem kl_34_11 : Cond.code yX5_judge cX5_judge 7 (some .int) ∈ wsL_law := kin_34 (List.mem_of_getElem? (i := 11) rfl)
theorem kl_34_16 : Cond.methodLink RL 139 yX6_judge ∈ wsL_law := kin_34 (List.mem_of_getElem? (i := 16) rfl)
theorem kl_34_17 : Cond.instanceMethod yX6_judge ∈ wsL_law := kin_34 (List.mem_of_getElem? (i := 17) rfl)
theorem kl_34_18 : Cond.selects RX6 yX6_judge yX6_judge ∈ wsL_law := kin_34 (List.mem_of_getElem? (i := 18) rfl)
theorem kl_34_19 : Cond.code yX6_judge cX6_judge 5 (some .int) ∈ wsL_law := kin_34 (List.mem_of_getElem? (i := 19) rfl)
theorem kl_35_1 : Cond.methodLink RL 140 yX5_image ∈ wsL_law := kin_35 (List.mem_of_getElem? (i := 1) rfl)
theorem kl_35_2 : Cond.instanceMethod yX5_image ∈ wsL_law := kin_35 (List.mem_of_getElem? (i := 2) rfl)
theorem kl_35_3 : Cond.selects RX5 yX5_image yX5_image ∈ wsL_law := kin_35 (List.mem_of_getElem? (i := 3) rfl)
theorem kl_35_4 : Cond.code yX5_image cX5_image 1 (some .int) ∈ wsL_law := kin_35 (List.mem_of_getElem? (i := 4) rfl)
theorem kl_35_5 : Cond.methodLink RL 143 yX6_image ∈ wsL_law := kin_35 (List.mem_of_getElem? (i := 5) rfl)
theorem kl_35_6 : Cond.instanceMethod yX6_image ∈ wsL_law := kin_35 (List.mem_of_getElem? (i := 6) rfl)
theorem kl_35_7 : Cond.selects RX6 yX6_image yX6_image ∈ wsL_law := kin_35 (List.mem_of_getElem? (i := 7) rfl)
theorem kl_35_8 : Cond.code yX6_image cX6_image 1 (some .int) ∈ wsL_law := kin_35 (List.mem_of_getElem? (i := 8) rfl)
theorem kl_35_10 : Cond.methodLink RL 144 yX5_restore ∈ wsL_law := kin_35 (List.mem_of_getElem? (i := 10) rfl)
theorem kl_35_11 : Cond.instanceMethod yX5_restore ∈ wsL_law := kin_35 (List.mem_of_getElem? (i := 11) rfl)
theorem kl_35_12 : Cond.selects RX5 yX5_restore yX5_restore ∈ wsL_law := kin_35 (List.mem_of_getElem? (i := 12) rfl)
theorem kl_35_13 : Cond.code yX5_restore cX5_restore 1 (some .int) ∈ wsL_law := kin_35 (List.mem_of_getElem? (i := 13) rfl)
theorem kl_35_14 : Cond.methodLink RL 147 yX6_restore ∈ wsL_law := kin_35 (List.mem_of_getElem? (i := 14) rfl)
theorem kl_35_15 : Cond.instanceMethod yX6_restore ∈ wsL_law := kin_35 (List.mem_of_getElem? (i := 15) rfl)
theorem kl_35_16 : Cond.selects RX6 yX6_restore yX6_restore ∈ wsL_law := kin_35 (List.mem_of_getElem? (i := 16) rfl)
theorem kl_35_17 : Cond.code yX6_restore cX6_restore 1 (some .int) ∈ wsL_law := kin_35 (List.mem_of_getElem? (i := 17) rfl)
theorem kl_35_18 : Cond.methodLink RL 148 yX5_count ∈ wsL_law := kin_35 (List.mem_of_getElem? (i := 18) rfl)
theorem kl_35_19 : Cond.instanceMethod yX5_count ∈ wsL_law := kin_35 (List.mem_of_getElem? (i := 19) rfl)
theorem kl_35_20 : Cond.selects RX5 yX5_count yX5_count ∈ wsL_law := kin_35 (List.mem_of_getElem? (i := 20) rfl)
theorem kl_35_21 : Cond.code yX5_count cX5_count 2 (some .int) ∈ wsL_law := kin_35 (List.mem_of_getElem? (i := 21) rfl)
theorem kl_36_1 : Cond.methodLink RL 151 yX6_count ∈ wsL_law := kin_36 (List.mem_of_getElem? (i := 1) rfl)
theorem kl_36_2 : Cond.instanceMethod yX6_count ∈ wsL_law := kin_36 (List.mem_of_getElem? (i := 2) rfl)
theorem kl_36_3 : Cond.selects RX6 yX6_count yX6_count ∈ wsL_law := kin_36 (List.mem_of_getElem? (i := 3) rfl)
theorem kl_36_4 : Cond.code yX6_count cX6_count 4 (some .int) ∈ wsL_law := kin_36 (List.mem_of_getElem? (i := 4) rfl)
theorem kl_36_5 : Cond.methodLink RL 152 yX5_keep ∈ wsL_law := kin_36 (List.mem_of_getElem? (i := 5) rfl)
theorem kl_36_6 : Cond.instanceMethod yX5_keep ∈ wsL_law := kin_36 (List.mem_of_getElem? (i := 6) rfl)
theorem kl_36_7 : Cond.selects RX5 yX5_keep yX5_keep ∈ wsL_law := kin_36 (List.mem_of_getElem? (i := 7) rfl)
theorem kl_36_8 : Cond.code yX5_keep cX5_keep 4 (some .int) ∈ wsL_law := kin_36 (List.mem_of_getElem? (i := 8) rfl)
theorem kl_36_15 : Cond.methodLink RL 156 yX6_keep ∈ wsL_law := kin_36 (List.mem_of_getElem? (i := 15) rfl)
theorem kl_36_16 : Cond.instanceMethod yX6_keep ∈ wsL_law := kin_36 (List.mem_of_getElem? (i := 16) rfl)
theorem kl_36_17 : Cond.selects RX6 yX6_keep yX6_keep ∈ wsL_law := kin_36 (List.mem_of_getElem? (i := 17) rfl)
theorem kl_36_18 : Cond.code yX6_keep cX6_keep 5 (some .int) ∈ wsL_law := kin_36 (List.mem_of_getElem? (i := 18) rfl)
theorem kl_36_23 : Cond.methodLink RL 157 yX5_row ∈ wsL_law := kin_36 (List.mem_of_getElem? (i := 23) rfl)
theorem kl_37_0 : Cond.instanceMethod yX5_row ∈ wsL_law := kin_37 (List.mem_of_getElem? (i := 0) rfl)
theorem kl_37_1 : Cond.selects RX5 yX5_row yX5_row ∈ wsL_law := kin_37 (List.mem_of_getElem? (i := 1) rfl)
theorem kl_37_2 : Cond.code yX5_row cX5_row 4 (some .int) ∈ wsL_law := kin_37 (List.mem_of_getElem? (i := 2) rfl)
theorem kl_37_10 : Cond.methodLink RL 160 yX6_row ∈ wsL_law := kin_37 (List.mem_of_getElem? (i := 10) rfl)
theorem kl_37_11 : Cond.instanceMethod yX6_row ∈ wsL_law := kin_37 (List.mem_of_getElem? (i := 11) rfl)
theorem kl_37_12 : Cond.selects RX6 yX6_row yX6_row ∈ wsL_law := kin_37 (List.mem_of_getElem? (i := 12) rfl)
theorem kl_37_13 : Cond.code yX6_row cX6_row 5 (some .int) ∈ wsL_law := kin_37 (List.mem_of_getElem? (i := 13) rfl)
theorem kl_37_14 : Cond.methodLink RL 161 yX5_put ∈ wsL_law := kin_37 (List.mem_of_getElem? (i := 14) rfl)
theorem kl_37_15 : Cond.instanceMethod yX5_put ∈ wsL_law := kin_37 (List.mem_of_getElem? (i := 15) rfl)
theorem kl_37_16 : Cond.selects RX5 yX5_put yX5_put ∈ wsL_law := kin_37 (List.mem_of_getElem? (i := 16) rfl)
theorem kl_37_17 : Cond.code yX5_put cX5_put 5 (some .int) ∈ wsL_law := kin_37 (List.mem_of_getElem? (i := 17) rfl)
theorem kl_37_21 : Cond.methodLink RL 164 yX6_put ∈ wsL_law := kin_37 (List.mem_of_getElem? (i := 21) rfl)
theorem kl_37_22 : Cond.instanceMethod yX6_put ∈ wsL_law := kin_37 (List.mem_of_getElem? (i := 22) rfl)
theorem kl_37_23 : Cond.selects RX6 yX6_put yX6_put ∈ wsL_law := kin_37 (List.mem_of_getElem? (i := 23) rfl)
theorem kl_38_0 : Cond.code yX6_put cX6_put 5 (some .int) ∈ wsL_law := kin_38 (List.mem_of_getElem? (i := 0) rfl)
theorem kl_38_1 : Cond.methodLink RL 165 yL_element ∈ wsL_law := kin_38 (List.mem_of_getElem? (i := 1) rfl)
theorem kl_38_2 : Cond.static yL_element ∈ wsL_law := kin_38 (List.mem_of_getElem? (i := 2) rfl)
theorem kl_38_3 : Cond.initialized RL ∈ wsL_law := kin_38 (List.mem_of_getElem? (i := 3) rfl)
theorem kl_38_4 : Cond.codeWith yL_element cL_element 5 (some .int) [(0, 9, 12, 13), (0, 9, 16, 15)] ∈ wsL_law := kin_38 (List.mem_of_getElem? (i := 4) rfl)
theorem kl_38_15 : Cond.methodLink RL 170 yX6_element ∈ wsL_law := kin_38 (List.mem_of_getElem? (i := 15) rfl)
theorem kl_38_16 : Cond.instanceMethod yX6_element ∈ wsL_law := kin_38 (List.mem_of_getElem? (i := 16) rfl)
theorem kl_38_17 : Cond.selects RX6 yX6_element yX6_element ∈ wsL_law := kin_38 (List.mem_of_getElem? (i := 17) rfl)
theorem kl_38_18 : Cond.code yX6_element cX6_element 3 (some .long) ∈ wsL_law := kin_38 (List.mem_of_getElem? (i := 18) rfl)
theorem kl_38_20 : Cond.methodLink RL 171 yX6_thrown ∈ wsL_law := kin_38 (List.mem_of_getElem? (i := 20) rfl)
theorem kl_38_21 : Cond.instanceMethod yX6_thrown ∈ wsL_law := kin_38 (List.mem_of_getElem? (i := 21) rfl)
theorem kl_38_22 : Cond.selects RX6 yX6_thrown yX6_thrown ∈ wsL_law := kin_38 (List.mem_of_getElem? (i := 22) rfl)
theorem kl_38_23 : Cond.code yX6_thrown cX6_thrown 1 (some .int) ∈ wsL_law := kin_38 (List.mem_of_getElem? (i := 23) rfl)
theorem kl_39_0 : Cond.methodLink RL 174 yX5_copy ∈ wsL_law := kin_39 (List.mem_of_getElem? (i := 0) rfl)
theorem kl_39_1 : Cond.instanceMethod yX5_copy ∈ wsL_law := kin_39 (List.mem_of_getElem? (i := 1) rfl)
theorem kl_39_2 : Cond.selects RX5 yX5_copy yX5_copy ∈ wsL_law := kin_39 (List.mem_of_getElem? (i := 2) rfl)
theorem kl_39_3 : Cond.code yX5_copy cX5_copy 8 (some .int) ∈ wsL_law := kin_39 (List.mem_of_getElem? (i := 3) rfl)
theorem kl_39_8 : Cond.methodLink RL 178 yX6_copy ∈ wsL_law := kin_39 (List.mem_of_getElem? (i := 8) rfl)
theorem kl_39_9 : Cond.instanceMethod yX6_copy ∈ wsL_law := kin_39 (List.mem_of_getElem? (i := 9) rfl)
theorem kl_39_10 : Cond.selects RX6 yX6_copy yX6_copy ∈ wsL_law := kin_39 (List.mem_of_getElem? (i := 10) rfl)
theorem kl_39_11 : Cond.code yX6_copy cX6_copy 8 (some .int) ∈ wsL_law := kin_39 (List.mem_of_getElem? (i := 11) rfl)
theorem kl_39_12 : Cond.methodLink RL 179 yX5_price ∈ wsL_law := kin_39 (List.mem_of_getElem? (i := 12) rfl)
theorem kl_39_13 : Cond.instanceMethod yX5_price ∈ wsL_law := kin_39 (List.mem_of_getElem? (i := 13) rfl)
theorem kl_39_14 : Cond.selects RX5 yX5_price yX5_price ∈ wsL_law := kin_39 (List.mem_of_getElem? (i := 14) rfl)
theorem kl_39_15 : Cond.code yX5_price cX5_price 3 (some .int) ∈ wsL_law := kin_39 (List.mem_of_getElem? (i := 15) rfl)
theorem kl_40_2 : Cond.methodLink RL 182 yX6_price ∈ wsL_law := kin_40 (List.mem_of_getElem? (i := 2) rfl)
theorem kl_40_3 : Cond.instanceMethod yX6_price ∈ wsL_law := kin_40 (List.mem_of_getElem? (i := 3) rfl)
theorem kl_40_4 : Cond.selects RX6 yX6_price yX6_price ∈ wsL_law := kin_40 (List.mem_of_getElem? (i := 4) rfl)
theorem kl_40_5 : Cond.code yX6_price cX6_price 3 (some .int) ∈ wsL_law := kin_40 (List.mem_of_getElem? (i := 5) rfl)
theorem kl_40_10 : Cond.methodLink RL 183 yX5_toss ∈ wsL_law := kin_40 (List.mem_of_getElem? (i := 10) rfl)
theorem kl_40_11 : Cond.instanceMethod yX5_toss ∈ wsL_law := kin_40 (List.mem_of_getElem? (i := 11) rfl)
theorem kl_40_12 : Cond.selects RX5 yX5_toss yX5_toss ∈ wsL_law := kin_40 (List.mem_of_getElem? (i := 12) rfl)
theorem kl_40_13 : Cond.codeWith yX5_toss cX5_toss 5 (some .int) [(22, 26, 29, 277)] ∈ wsL_law := kin_40 (List.mem_of_getElem? (i := 13) rfl)
theorem kl_40_21 : Cond.methodLink RL 186 yX6_toss ∈ wsL_law := kin_40 (List.mem_of_getElem? (i := 21) rfl)
theorem kl_40_22 : Cond.instanceMethod yX6_toss ∈ wsL_law := kin_40 (List.mem_of_getElem? (i := 22) rfl)
theorem kl_40_23 : Cond.selects RX6 yX6_toss yX6_toss ∈ wsL_law := kin_40 (List.mem_of_getElem? (i := 23) rfl)
theorem kl_41_0 : Cond.code yX6_toss cX6_toss 3 (some .int) ∈ wsL_law := kin_41 (List.mem_of_getElem? (i := 0) rfl)
theorem hl_X5_tow : yX5_tow.cls ≠ "java/lang/invoke/MethodHandle" ∧ yX5_tow.cls ≠ "java/lang/invoke/VarHandle" ∧ (parseMethodDescriptor yX5_tow.desc).map (fun d => d.parameters.length) = some 1 := by decide +kernel
theorem hl_X6_tow : yX6_tow.cls ≠ "java/lang/invoke/MethodHandle" ∧ yX6_tow.cls ≠ "java/lang/invoke/VarHandle" ∧ (parseMethodDescriptor yX6_tow.desc).map (fun d => d.parameters.length) = some 1 := by decide +kernel
theorem hl_X5_piece : yX5_piece.cls ≠ "java/lang/invoke/MethodHandle" ∧ yX5_piece.cls ≠ "java/lang/invoke/VarHandle" ∧ (parseMethodDescriptor yX5_piece.desc).map (fun d => d.parameters.length) = some 2 := by decide +kernel
theorem hl_X6_piece : yX6_piece.cls ≠ "java/lang/invoke/MethodHandle" ∧ yX6_piece.cls ≠ "java/lang/invoke/VarHandle" ∧ (parseMethodDescriptor yX6_piece.desc).map (fun d => d.parameters.length) = some 2 := by decide +kernel
theorem hl_X5_set : yX5_set.cls ≠ "java/lang/invoke/MethodHandle" ∧ yX5_set.cls ≠ "java/lang/invoke/VarHandle" ∧ (parseMethodDescriptor yX5_set.desc).map (fun d => d.parameters.length) = some 2 := by decide +kernel
theorem hl_X6_set : yX6_set.cls ≠ "java/lang/invoke/MethodHandle" ∧ yX6_set.cls ≠ "java/lang/invoke/VarHandle" ∧ (parseMethodDescriptor yX6_set.desc).map (fun d => d.parameters.length) = some 2 := by decide +kernel
theorem hl_X5_line : yX5_line.cls ≠ "java/lang/invoke/MethodHandle" ∧ yX5_line.cls ≠ "java/lang/invoke/VarHandle" ∧ (parseMethodDescriptor yX5_line.desc).map (fun d => d.parameters.length) = some 1 := by decide +kernel
theorem hl_X6_line : yX6_line.cls ≠ "java/lang/invoke/MethodHandle" ∧ yX6_line.cls ≠ "java/lang/invoke/VarHandle" ∧ (parseMethodDescriptor yX6_line.desc).map (fun d => d.parameters.length) = some 1 := by decide +kernel
theorem hl_X5_apart : yX5_apart.cls ≠ "java/lang/invoke/MethodHandle" ∧ yX5_apart.cls ≠ "java/lang/invoke/VarHandle" ∧ (parseMethodDescriptor yX5_apart.desc).map (fun d => d.parameters.length) = some 1 := by decide +kernel
theorem hl_X6_apart : yX6_apart.cls ≠ "java/lang/invoke/MethodHandle" ∧ yX6_apart.cls ≠ "java/lang/invoke/VarHandle" ∧ (parseMethodDescriptor yX6_apart.desc).map (fun d => d.parameters.length) = some 1 := by decide +kernel
theorem hl_X5_pull : yX5_pull.cls ≠ "java/lang/invoke/MethodHandle" ∧ yX5_pull.cls ≠ "java/lang/invoke/VarHandle" ∧ (parseMethodDescriptor yX5_pull.desc).map (fun d => d.parameters.length) = some 1 := by decide +kernel
theorem hl_X6_pull : yX6_pull.cls ≠ "java/lang/invoke/MethodHandle" ∧ yX6_pull.cls ≠ "java/lang/invoke/VarHandle" ∧ (parseMethodDescriptor yX6_pull.desc).map (fun d => d.parameters.length) = some 1 := by decide +kernel
theorem hl_X5_tenth : yX5_tenth.cls ≠ "java/lang/invoke/MethodHandle" ∧ yX5_tenth.cls ≠ "java/lang/invoke/VarHandle" ∧ (parseMethodDescriptor yX5_tenth.desc).map (fun d => d.parameters.length) = some 0 := by decide +kernel
theorem hl_X6_tenth : yX6_tenth.cls ≠ "java/lang/invoke/MethodHandle" ∧ yX6_tenth.cls ≠ "java/lang/invoke/VarHandle" ∧ (parseMethodDescriptor yX6_tenth.desc).map (fun d => d.parameters.length) = some 0 := by decide +kernel
theorem hl_X5_greatest : yX5_greatest.cls ≠ "java/lang/invoke/MethodHandle" ∧ yX5_greatest.cls ≠ "java/lang/invoke/VarHandle" ∧ (parseMethodDescriptor yX5_greatest.desc).map (fun d => d.parameters.length) = some 1 := by decide +kernel
theorem hl_X6_greatest : yX6_greatest.cls ≠ "java/lang/invoke/MethodHandle" ∧ yX6_greatest.cls ≠ "java/lang/invoke/VarHandle" ∧ (parseMethodDescriptor yX6_greatest.desc).map (fun d => d.parameters.length) = some 1 := by decide +kernel
theorem hl_X5_holds : yX5_holds.cls ≠ "java/lang/invoke/MethodHandle" ∧ yX5_holds.cls ≠ "java/lang/invoke/VarHandle" ∧ (parseMethodDescriptor yX5_holds.desc).map (fun d => d.parameters.length) = some 2 := by decide +kernel
theorem hl_X6_holds : yX6_holds.cls ≠ "java/lang/invoke/MethodHandle" ∧ yX6_holds.cls ≠ "java/lang/invoke/VarHandle" ∧ (parseMethodDescriptor yX6_holds.desc).map (fun d => d.parameters.length) = some 2 := by decide +kernel
theorem hl_X5_fastest : yX5_fastest.cls ≠ "java/lang/invoke/MethodHandle" ∧ yX5_fastest.cls ≠ "java/lang/invoke/VarHandle" ∧ (parseMethodDescriptor yX5_fastest.desc).map (fun d => d.parameters.length) = some 1 := by decide +kernel
theorem hl_X6_fastest : yX6_fastest.cls ≠ "java/lang/invoke/MethodHandle" ∧ yX6_fastest.cls ≠ "java/lang/invoke/VarHandle" ∧ (parseMethodDescriptor yX6_fastest.desc).map (fun d => d.parameters.length) = some 1 := by decide +kernel
theorem hl_X5_longer : yX5_longer.cls ≠ "java/lang/invoke/MethodHandle" ∧ yX5_longer.cls ≠ "java/lang/invoke/VarHandle" ∧ (parseMethodDescriptor yX5_longer.desc).map (fun d => d.parameters.length) = some 2 := by decide +kernel
theorem hl_X6_longer : yX6_longer.cls ≠ "java/lang/invoke/MethodHandle" ∧ yX6_longer.cls ≠ "java/lang/invoke/VarHandle" ∧ (parseMethodDescriptor yX6_longer.desc).map (fun d => d.parameters.length) = some 2 := by decide +kernel
theorem hl_X5_stock : yX5_stock.cls ≠ "java/lang/invoke/MethodHandle" ∧ yX5_stock.cls ≠ "java/lang/invoke/VarHandle" ∧ (parseMethodDescriptor yX5_stock.desc).map (fun d => d.parameters.length) = some 2 := by decide +kernel
theorem hl_X6_stock : yX6_stock.cls ≠ "java/lang/invoke/MethodHandle" ∧ yX6_stock.cls ≠ "java/lang/invoke/VarHandle" ∧ (parseMethodDescriptor yX6_stock.desc).map (fun d => d.parameters.length) = some 2 := by decide +kernel
theorem hl_X5_bridge : yX5_bridge.cls ≠ "java/lang/invoke/MethodHandle" ∧ yX5_bridge.cls ≠ "java/lang/invoke/VarHandle" ∧ (parseMethodDescriptor yX5_bridge.desc).map (fun d => d.parameters.length) = some 2 := by decide +kernel
theorem hl_X6_bridge : yX6_bridge.cls ≠ "java/lang/invoke/MethodHandle" ∧ yX6_bridge.cls ≠ "java/lang/invoke/VarHandle" ∧ (parseMethodDescriptor yX6_bridge.desc).map (fun d => d.parameters.length) = some 2 := by decide +kernel
theorem hl_X5_fouls : yX5_fouls.cls ≠ "java/lang/invoke/MethodHandle" ∧ yX5_fouls.cls ≠ "java/lang/invoke/VarHandle" ∧ (parseMethodDescriptor yX5_fouls.desc).map (fun d => d.parameters.length) = some 0 := by decide +kernel
theorem hl_X6_fouls : yX6_fouls.cls ≠ "java/lang/invoke/MethodHandle" ∧ yX6_fouls.cls ≠ "java/lang/invoke/VarHandle" ∧ (parseMethodDescriptor yX6_fouls.desc).map (fun d => d.parameters.length) = some 0 := by decide +kernel
theorem hl_X5_takeIn : yX5_takeIn.cls ≠ "java/lang/invoke/MethodHandle" ∧ yX5_takeIn.cls ≠ "java/lang/invoke/VarHandle" ∧ (parseMethodDescriptor yX5_takeIn.desc).map (fun d => d.parameters.length) = some 0 := by decide +kernel
theorem hl_X6_takeIn : yX6_takeIn.cls ≠ "java/lang/invoke/MethodHandle" ∧ yX6_takeIn.cls ≠ "java/lang/invoke/VarHandle" ∧ (parseMethodDescriptor yX6_takeIn.desc).map (fun d => d.parameters.length) = some 0 := by decide +kernel
theorem hl_X5_shallowest : yX5_shallowest.cls ≠ "java/lang/invoke/MethodHandle" ∧ yX5_shallowest.cls ≠ "java/lang/invoke/VarHandle" ∧ (parseMethodDescriptor yX5_shallowest.desc).map (fun d => d.parameters.length) = some 0 := by decide +kernel
theorem hl_X6_shallowest : yX6_shallowest.cls ≠ "java/lang/invoke/MethodHandle" ∧ yX6_shallowest.cls ≠ "java/lang/invoke/VarHandle" ∧ (parseMethodDescriptor yX6_shallowest.desc).map (fun d => d.parameters.length) = some 0 := by decide +kernel
theorem hl_X5_odds : yX5_odds.cls ≠ "java/lang/invoke/MethodHandle" ∧ yX5_odds.cls ≠ "java/lang/invoke/VarHandle" ∧ (parseMethodDescriptor yX5_odds.desc).map (fun d => d.parameters.length) = some 2 := by decide +kernel
theorem hl_X6_odds : yX6_odds.cls ≠ "java/lang/invoke/MethodHandle" ∧ yX6_odds.cls ≠ "java/lang/invoke/VarHandle" ∧ (parseMethodDescriptor yX6_odds.desc).map (fun d => d.parameters.length) = some 2 := by decide +kernel
theorem hl_X5_yaw : yX5_yaw.cls ≠ "java/lang/invoke/MethodHandle" ∧ yX5_yaw.cls ≠ "java/lang/invoke/VarHandle" ∧ (parseMethodDescriptor yX5_yaw.desc).map (fun d => d.parameters.length) = some 1 := by decide +kernel
theorem hl_X6_yaw : yX6_yaw.cls ≠ "java/lang/invoke/MethodHandle" ∧ yX6_yaw.cls ≠ "java/lang/invoke/VarHandle" ∧ (parseMethodDescriptor yX6_yaw.desc).map (fun d => d.parameters.length) = some 1 := by decide +kernel
theorem hl_X5_yaws : yX5_yaws.cls ≠ "java/lang/invoke/MethodHandle" ∧ yX5_yaws.cls ≠ "java/lang/invoke/VarHandle" ∧ (parseMethodDescriptor yX5_yaws.desc).map (fun d => d.parameters.length) = some 1 := by decide +kernel
theorem hl_X6_yaws : yX6_yaws.cls ≠ "java/lang/invoke/MethodHandle" ∧ yX6_yaws.cls ≠ "java/lang/invoke/VarHandle" ∧ (parseMethodDescriptor yX6_yaws.desc).map (fun d => d.parameters.length) = some 1 := by decide +kernel
theorem hl_X5_swings : yX5_swings.cls ≠ "java/lang/invoke/MethodHandle" ∧ yX5_swings.cls ≠ "java/lang/invoke/VarHandle" ∧ (parseMethodDescriptor yX5_swings.desc).map (fun d => d.parameters.length) = some 2 := by decide +kernel
theorem hl_X6_swings : yX6_swings.cls ≠ "java/lang/invoke/MethodHandle" ∧ yX6_swings.cls ≠ "java/lang/invoke/VarHandle" ∧ (parseMethodDescriptor yX6_swings.desc).map (fun d => d.parameters.length) = some 2 := by decide +kernel
theorem hl_X5_grows : yX5_grows.cls ≠ "java/lang/invoke/MethodHandle" ∧ yX5_grows.cls ≠ "java/lang/invoke/VarHandle" ∧ (parseMethodDescriptor yX5_grows.desc).map (fun d => d.parameters.length) = some 0 := by decide +kernel
theorem hl_X6_grows : yX6_grows.cls ≠ "java/lang/invoke/MethodHandle" ∧ yX6_grows.cls ≠ "java/lang/invoke/VarHandle" ∧ (parseMethodDescriptor yX6_grows.desc).map (fun d => d.parameters.length) = some 0 := by decide +kernel
theorem hl_X5_held : yX5_held.cls ≠ "java/lang/invoke/MethodHandle" ∧ yX5_held.cls ≠ "java/lang/invoke/VarHandle" ∧ (parseMethodDescriptor yX5_held.desc).map (fun d => d.parameters.length) = some 0 := by decide +kernel
theorem hl_X6_held : yX6_held.cls ≠ "java/lang/invoke/MethodHandle" ∧ yX6_held.cls ≠ "java/lang/invoke/VarHandle" ∧ (parseMethodDescriptor yX6_held.desc).map (fun d => d.parameters.length) = some 0 := by decide +kernel
theorem hl_X5_whip : yX5_whip.cls ≠ "java/lang/invoke/MethodHandle" ∧ yX5_whip.cls ≠ "java/lang/invoke/VarHandle" ∧ (parseMethodDescriptor yX5_whip.desc).map (fun d => d.parameters.length) = some 1 := by decide +kernel
theorem hl_X6_whip : yX6_whip.cls ≠ "java/lang/invoke/MethodHandle" ∧ yX6_whip.cls ≠ "java/lang/invoke/VarHandle" ∧ (parseMethodDescriptor yX6_whip.desc).map (fun d => d.parameters.length) = some 1 := by decide +kernel
theorem hl_X5_renders : yX5_renders.cls ≠ "java/lang/invoke/MethodHandle" ∧ yX5_renders.cls ≠ "java/lang/invoke/VarHandle" ∧ (parseMethodDescriptor yX5_renders.desc).map (fun d => d.parameters.length) = some 1 := by decide +kernel
theorem hl_X6_renders : yX6_renders.cls ≠ "java/lang/invoke/MethodHandle" ∧ yX6_renders.cls ≠ "java/lang/invoke/VarHandle" ∧ (parseMethodDescriptor yX6_renders.desc).map (fun d => d.parameters.length) = some 1 := by decide +kernel
theorem hl_X5_winch : yX5_winch.cls ≠ "java/lang/invoke/MethodHandle" ∧ yX5_winch.cls ≠ "java/lang/invoke/VarHandle" ∧ (parseMethodDescriptor yX5_winch.desc).map (fun d => d.parameters.length) = some 1 := by decide +kernel
theorem hl_X6_winch : yX6_winch.cls ≠ "java/lang/invoke/MethodHandle" ∧ yX6_winch.cls ≠ "java/lang/invoke/VarHandle" ∧ (parseMethodDescriptor yX6_winch.desc).map (fun d => d.parameters.length) = some 1 := by decide +kernel
theorem hl_X5_legs : yX5_legs.cls ≠ "java/lang/invoke/MethodHandle" ∧ yX5_legs.cls ≠ "java/lang/invoke/VarHandle" ∧ (parseMethodDescriptor yX5_legs.desc).map (fun d => d.parameters.length) = some 2 := by decide +kernel
theorem hl_X6_legs : yX6_legs.cls ≠ "java/lang/invoke/MethodHandle" ∧ yX6_legs.cls ≠ "java/lang/invoke/VarHandle" ∧ (parseMethodDescriptor yX6_legs.desc).map (fun d => d.parameters.length) = some 2 := by decide +kernel
theorem hl_X5_why : yX5_why.cls ≠ "java/lang/invoke/MethodHandle" ∧ yX5_why.cls ≠ "java/lang/invoke/VarHandle" ∧ (parseMethodDescriptor yX5_why.desc).map (fun d => d.parameters.length) = some 1 := by decide +kernel
theorem hl_X6_why : yX6_why.cls ≠ "java/lang/invoke/MethodHandle" ∧ yX6_why.cls ≠ "java/lang/invoke/VarHandle" ∧ (parseMethodDescriptor yX6_why.desc).map (fun d => d.parameters.length) = some 1 := by decide +kernel
theorem hl_X5_caravan : yX5_caravan.cls ≠ "java/lang/invoke/MethodHandle" ∧ yX5_caravan.cls ≠ "java/lang/invoke/VarHandle" ∧ (parseMethodDescriptor yX5_caravan.desc).map (fun d => d.parameters.length) = some 1 := by decide +kernel
theorem hl_X6_caravan : yX6_caravan.cls ≠ "java/lang/invoke/MethodHandle" ∧ yX6_caravan.cls ≠ "java/lang/invoke/VarHandle" ∧ (parseMethodDescriptor yX6_caravan.desc).map (fun d => d.parameters.length) = some 1 := by decide +kernel
theorem hl_X5_judge : yX5_judge.cls ≠ "java/lang/invoke/MethodHandle" ∧ yX5_judge.cls ≠ "java/lang/invoke/VarHandle" ∧ (parseMethodDescriptor yX5_judge.desc).map (fun d => d.parameters.length) = some 1 := by decide +kernel
theorem hl_X6_judge : yX6_judge.cls ≠ "java/lang/invoke/MethodHandle" ∧ yX6_judge.cls ≠ "java/lang/invoke/VarHandle" ∧ (parseMethodDescriptor yX6_judge.desc).map (fun d => d.parameters.length) = some 1 := by decide +kernel
theorem hl_X5_image : yX5_image.cls ≠ "java/lang/invoke/MethodHandle" ∧ yX5_image.cls ≠ "java/lang/invoke/VarHandle" ∧ (parseMethodDescriptor yX5_image.desc).map (fun d => d.parameters.length) = some 0 := by decide +kernel
theorem hl_X6_image : yX6_image.cls ≠ "java/lang/invoke/MethodHandle" ∧ yX6_image.cls ≠ "java/lang/invoke/VarHandle" ∧ (parseMethodDescriptor yX6_image.desc).map (fun d => d.parameters.length) = some 0 := by decide +kernel
theorem hl_X5_restore : yX5_restore.cls ≠ "java/lang/invoke/MethodHandle" ∧ yX5_restore.cls ≠ "java/lang/invoke/VarHandle" ∧ (parseMethodDescriptor yX5_restore.desc).map (fun d => d.parameters.length) = some 0 := by decide +kernel
theorem hl_X6_restore : yX6_restore.cls ≠ "java/lang/invoke/MethodHandle" ∧ yX6_restore.cls ≠ "java/lang/invoke/VarHandle" ∧ (parseMethodDescriptor yX6_restore.desc).map (fun d => d.parameters.length) = some 0 := by decide +kernel
theorem hl_X5_count : yX5_count.cls ≠ "java/lang/invoke/MethodHandle" ∧ yX5_count.cls ≠ "java/lang/invoke/VarHandle" ∧ (parseMethodDescriptor yX5_count.desc).map (fun d => d.parameters.length) = some 1 := by decide +kernel
theorem hl_X6_count : yX6_count.cls ≠ "java/lang/invoke/MethodHandle" ∧ yX6_count.cls ≠ "java/lang/invoke/VarHandle" ∧ (parseMethodDescriptor yX6_count.desc).map (fun d => d.parameters.length) = some 1 := by decide +kernel
theorem hl_X5_keep : yX5_keep.cls ≠ "java/lang/invoke/MethodHandle" ∧ yX5_keep.cls ≠ "java/lang/invoke/VarHandle" ∧ (parseMethodDescriptor yX5_keep.desc).map (fun d => d.parameters.length) = some 3 := by decide +kernel
theorem hl_X6_keep : yX6_keep.cls ≠ "java/lang/invoke/MethodHandle" ∧ yX6_keep.cls ≠ "java/lang/invoke/VarHandle" ∧ (parseMethodDescriptor yX6_keep.desc).map (fun d => d.parameters.length) = some 3 := by decide +kernel
theorem hl_X5_row : yX5_row.cls ≠ "java/lang/invoke/MethodHandle" ∧ yX5_row.cls ≠ "java/lang/invoke/VarHandle" ∧ (parseMethodDescriptor yX5_row.desc).map (fun d => d.parameters.length) = some 3 := by decide +kernel
theorem hl_X6_row : yX6_row.cls ≠ "java/lang/invoke/MethodHandle" ∧ yX6_row.cls ≠ "java/lang/invoke/VarHandle" ∧ (parseMethodDescriptor yX6_row.desc).map (fun d => d.parameters.length) = some 3 := by decide +kernel
theorem hl_X5_put : yX5_put.cls ≠ "java/lang/invoke/MethodHandle" ∧ yX5_put.cls ≠ "java/lang/invoke/VarHandle" ∧ (parseMethodDescriptor yX5_put.desc).map (fun d => d.parameters.length) = some 3 := by decide +kernel
theorem hl_X6_put : yX6_put.cls ≠ "java/lang/invoke/MethodHandle" ∧ yX6_put.cls ≠ "java/lang/invoke/VarHandle" ∧ (parseMethodDescriptor yX6_put.desc).map (fun d => d.parameters.length) = some 3 := by decide +kernel
theorem hl_X5_copy : yX5_copy.cls ≠ "java/lang/invoke/MethodHandle" ∧ yX5_copy.cls ≠ "java/lang/invoke/VarHandle" ∧ (parseMethodDescriptor yX5_copy.desc).map (fun d => d.parameters.length) = some 5 := by decide +kernel
theorem hl_X6_copy : yX6_copy.cls ≠ "java/lang/invoke/MethodHandle" ∧ yX6_copy.cls ≠ "java/lang/invoke/VarHandle" ∧ (parseMethodDescriptor yX6_copy.desc).map (fun d => d.parameters.length) = some 5 := by decide +kernel
theorem hl_X5_price : yX5_price.cls ≠ "java/lang/invoke/MethodHandle" ∧ yX5_price.cls ≠ "java/lang/invoke/VarHandle" ∧ (parseMethodDescriptor yX5_price.desc).map (fun d => d.parameters.length) = some 1 := by decide +kernel
theorem hl_X6_price : yX6_price.cls ≠ "java/lang/invoke/MethodHandle" ∧ yX6_price.cls ≠ "java/lang/invoke/VarHandle" ∧ (parseMethodDescriptor yX6_price.desc).map (fun d => d.parameters.length) = some 1 := by decide +kernel
theorem hl_X5_toss : yX5_toss.cls ≠ "java/lang/invoke/MethodHandle" ∧ yX5_toss.cls ≠ "java/lang/invoke/VarHandle" ∧ (parseMethodDescriptor yX5_toss.desc).map (fun d => d.parameters.length) = some 1 := by decide +kernel
theorem hl_X6_toss : yX6_toss.cls ≠ "java/lang/invoke/MethodHandle" ∧ yX6_toss.cls ≠ "java/lang/invoke/VarHandle" ∧ (parseMethodDescriptor yX6_toss.desc).map (fun d => d.parameters.length) = some 1 := by decide +kernel
theorem hl_L_element : yL_element.cls ≠ "java/lang/invoke/MethodHandle" ∧ yL_element.cls ≠ "java/lang/invoke/VarHandle" ∧ (parseMethodDescriptor yL_element.desc).map (fun d => d.parameters.length) = some 4 := by decide +kernel
theorem hl_X6_element : yX6_element.cls ≠ "java/lang/invoke/MethodHandle" ∧ yX6_element.cls ≠ "java/lang/invoke/VarHandle" ∧ (parseMethodDescriptor yX6_element.desc).map (fun d => d.parameters.length) = some 2 := by decide +kernel
theorem hl_X6_thrown : yX6_thrown.cls ≠ "java/lang/invoke/MethodHandle" ∧ yX6_thrown.cls ≠ "java/lang/invoke/VarHandle" ∧ (parseMethodDescriptor yX6_thrown.desc).map (fun d => d.parameters.length) = some 0 := by decide +kernel
set_option maxHeartbeats 1000000 in
set_option maxRecDepth 100000 in
theorem lc_0 {p : Program} {l : Launch} {e : Env} {s : State} {m : MethodId} {below : List Frame} {meth : Method} {c : Code} {G : GG} {b L qo : Nat} {xs : Nat → Int32} {cJ : ClassId} (X : LX G p l s m meth c b L xs cJ qo) {Rel : Mem → Prop} {j : Nat} (hj : j + 6 ≤ L) (hL : L ≤ 384) {M : Mem} {H : Heap} {locs : List Loc} {ls : Array Slot} {cells slots : Nat} (w : LW G s M H locs cJ qo) (hl : lv_has ls 8 [(0, .ref b), (1, .ref (ga G 0)), (2, .ref (ga G 57)), (3, .ref qo), (4, .int (nI j))]) (hc : cells + 1 ≤ 600128 ∧ slots + 6 ≤ 7301098) (h : q_X5_tow M (xs (j + 1)) (fun r M1 => q_X6_tow M1 (xs (j + 1)) (fun r2 M2 => r = r2 ∧ Rel M2))) (kk : ∀ (M2 : Mem) (H2 : Heap) (locs2 : List Loc) (ls2 : Array Slot) (cells2 slots2 : Nat), Rel M2 → LW G s M2 H2 locs2 cJ qo → lv_has ls2 8 [(0, .ref b), (1, .ref (ga G 0)), (2, .ref (ga G 57)), (3, .ref qo), (4, .int (nI j))] → cells2 ≤ cells + 1 → slots2 ≤ slots + 6 → W p l e room_1 s m #[Value.ref b] below meth c H2 locs2 cells2 slots2 (lw_Z below #[Value.ref b] s) (F0 m 1361 ls2 [])) : W p l e room_1 s m #[Value.ref b] below meth c H locs cells slots (lw_Z below #[Value.ref b] s) (F0 m 212 ls []) := by
  have C := X.1
  have hx := C.1.1
  have hb := C.1.2.1
  refine lv_aload_n hx hb dl_212 rfl (lv_at hl 1 rfl) ?_
  refine lv_aload_n hx hb dl_213 rfl (lv_at hl 0 rfl) ?_
  refine lv_iload hx hb dl_214 (lv_at hl 4 rfl) ?_
  refine lv_iconst (v := 1) hx hb dl_216 (by decide) ?_
  refine lv_iadd hx hb dl_217 ?_
  rw [show nI j + 1 = nI (j + 1) from nI_add j 1]
  refine va_sld hx hb X.2.2.2.1 X.2.2.2.2.1 (X.nb) w.1.2 (nI_in (N := L) (by omega) (by omega)) dl_218 ?_
  rw [nI_clamp (n := j + 1) (by omega)]
  refine eg_i w.1 (rg_V (As := [.int (xs (j + 1))]) (rest := []) C w.1 hl.1 (c_X5_tow l G C.2.2.1 _ _ (xs (j + 1)) _ h) kl_5_14 kl_1_2 kl_5_11 kl_5_12 kl_5_13 hl_X5_tow ⟨Nat.le_of_ble_eq_true rfl, Nat.le_of_ble_eq_true rfl⟩ ⟨Nat.le_trans (by omega) hc.1, Nat.le_trans (by omega) hc.2⟩ (w.1.recv C (i := 0) (by decide) pE_5 rfl) rfl (Nat.le_of_ble_eq_true rfl) dl_219) (fun r M1 H1 locs1 h w1 hz1 hk1 => ?_)
  replace w := w.on X w1 hz1 hk1
  refine lv_aload_n hx hb dl_222 rfl (lv_at hl 2 rfl) ?_
  refine lv_aload_n hx hb dl_223 rfl (lv_at hl 0 rfl) ?_
  refine lv_iload hx hb dl_224 (lv_at hl 4 rfl) ?_
  refine lv_iconst (v := 1) hx hb dl_226 (by decide) ?_
  refine lv_iadd hx hb dl_227 ?_
  rw [show nI j + 1 = nI (j + 1) from nI_add j 1]
  refine va_sld hx hb X.2.2.2.1 X.2.2.2.2.1 (X.nb) w.1.2 (nI_in (N := L) (by omega) (by omega)) dl_228 ?_
  rw [nI_clamp (n := j + 1) (by omega)]
  refine eg_i w.1 (rg_V (As := [.int (xs (j + 1))]) (rest := [.int r]) C w.1 hl.1 (c_X6_tow l G C.2.2.1 _ _ (xs (j + 1)) _ h) kl_11_15 kl_1_5 kl_11_12 kl_11_13 kl_11_14 hl_X6_tow ⟨Nat.le_of_ble_eq_true rfl, Nat.le_of_ble_eq_true rfl⟩ ⟨Nat.le_trans (by omega) hc.1, Nat.le_trans (by omega) hc.2⟩ (w.1.recv C (i := 57) (by decide) pE_6 rfl) rfl (Nat.le_of_ble_eq_true rfl) dl_229) (fun r2 M2 H2 locs2 h w2 hz2 hk2 => ?_)
  replace w := w.on X w2 hz2 hk2
  refine lv_icmp_eq (tgt := 1361) hx hb dl_232 (by decide) (fun c1 => ?_) (fun c1 => absurd h.1 c1)
  exact kk M2 H2 locs2 ls _ _ h.2 w hl (by omega) (by omega)
set_option maxHeartbeats 1000000 in
set_option maxRecDepth 100000 in
theorem lc_1 {p : Program} {l : Launch} {e : Env} {s : State} {m : MethodId} {below : List Frame} {meth : Method} {c : Code} {G : GG} {b L qo : Nat} {xs : Nat → Int32} {cJ : ClassId} (X : LX G p l s m meth c b L xs cJ qo) {Rel : Mem → Prop} {j : Nat} (hj : j + 6 ≤ L) (hL : L ≤ 384) {M : Mem} {H : Heap} {locs : List Loc} {ls : Array Slot} {cells slots : Nat} (w : LW G s M H locs cJ qo) (hl : lv_has ls 8 [(0, .ref b), (1, .ref (ga G 0)), (2, .ref (ga G 57)), (3, .ref qo), (4, .int (nI j))]) (hc : cells + 1 ≤ 600128 ∧ slots + 6 ≤ 7301098) (h : q_X5_piece M (xs (j + 1)) (xs (j + 2)) (fun r M1 => q_X6_piece M1 (xs (j + 1)) (xs (j + 2)) (fun r2 M2 => r = r2 ∧ Rel M2))) (kk : ∀ (M2 : Mem) (H2 : Heap) (locs2 : List Loc) (ls2 : Array Slot) (cells2 slots2 : Nat), Rel M2 → LW G s M2 H2 locs2 cJ qo → lv_has ls2 8 [(0, .ref b), (1, .ref (ga G 0)), (2, .ref (ga G 57)), (3, .ref qo), (4, .int (nI j))] → cells2 ≤ cells + 1 → slots2 ≤ slots + 6 → W p l e room_1 s m #[Value.ref b] below meth c H2 locs2 cells2 slots2 (lw_Z below #[Value.ref b] s) (F0 m 1361 ls2 [])) : W p l e room_1 s m #[Value.ref b] below meth c H locs cells slots (lw_Z below #[Value.ref b] s) (F0 m 237 ls []) := by
  have C := X.1
  have hx := C.1.1
  have hb := C.1.2.1
  refine lv_aload_n hx hb dl_237 rfl (lv_at hl 1 rfl) ?_
  refine lv_aload_n hx hb dl_238 rfl (lv_at hl 0 rfl) ?_
  refine lv_iload hx hb dl_239 (lv_at hl 4 rfl) ?_
  refine lv_iconst (v := 1) hx hb dl_241 (by decide) ?_
  refine lv_iadd hx hb dl_242 ?_
  rw [show nI j + 1 = nI (j + 1) from nI_add j 1]
  refine va_sld hx hb X.2.2.2.1 X.2.2.2.2.1 (X.nb) w.1.2 (nI_in (N := L) (by omega) (by omega)) dl_243 ?_
  rw [nI_clamp (n := j + 1) (by omega)]
  refine lv_aload_n hx hb dl_244 rfl (lv_at hl 0 rfl) ?_
  refine lv_iload hx hb dl_245 (lv_at hl 4 rfl) ?_
  refine lv_iconst (v := 2) hx hb dl_247 (by decide) ?_
  refine lv_iadd hx hb dl_248 ?_
  rw [show nI j + 2 = nI (j + 2) from nI_add j 2]
  refine va_sld hx hb X.2.2.2.1 X.2.2.2.2.1 (X.nb) w.1.2 (nI_in (N := L) (by omega) (by omega)) dl_249 ?_
  rw [nI_clamp (n := j + 2) (by omega)]
  refine eg_i w.1 (rg_V (As := [.int (xs (j + 1)), .int (xs (j + 2))]) (rest := []) C w.1 hl.1 (c_X5_piece l G C.2.2.1 _ _ (xs (j + 1)) (xs (j + 2)) _ h) kl_13_19 kl_1_2 kl_13_16 kl_13_17 kl_13_18 hl_X5_piece ⟨Nat.le_of_ble_eq_true rfl, Nat.le_of_ble_eq_true rfl⟩ ⟨Nat.le_trans (by omega) hc.1, Nat.le_trans (by omega) hc.2⟩ (w.1.recv C (i := 0) (by decide) pE_5 rfl) rfl (Nat.le_of_ble_eq_true rfl) dl_250) (fun r M1 H1 locs1 h w1 hz1 hk1 => ?_)
  replace w := w.on X w1 hz1 hk1
  refine lv_aload_n hx hb dl_253 rfl (lv_at hl 2 rfl) ?_
  refine lv_aload_n hx hb dl_254 rfl (lv_at hl 0 rfl) ?_
  refine lv_iload hx hb dl_255 (lv_at hl 4 rfl) ?_
  refine lv_iconst (v := 1) hx hb dl_257 (by decide) ?_
  refine lv_iadd hx hb dl_258 ?_
  rw [show nI j + 1 = nI (j + 1) from nI_add j 1]
  refine va_sld hx hb X.2.2.2.1 X.2.2.2.2.1 (X.nb) w.1.2 (nI_in (N := L) (by omega) (by omega)) dl_259 ?_
  rw [nI_clamp (n := j + 1) (by omega)]
  refine lv_aload_n hx hb dl_260 rfl (lv_at hl 0 rfl) ?_
  refine lv_iload hx hb dl_261 (lv_at hl 4 rfl) ?_
  refine lv_iconst (v := 2) hx hb dl_263 (by decide) ?_
  refine lv_iadd hx hb dl_264 ?_
  rw [show nI j + 2 = nI (j + 2) from nI_add j 2]
  refine va_sld hx hb X.2.2.2.1 X.2.2.2.2.1 (X.nb) w.1.2 (nI_in (N := L) (by omega) (by omega)) dl_265 ?_
  rw [nI_clamp (n := j + 2) (by omega)]
  refine eg_i w.1 (rg_V (As := [.int (xs (j + 1)), .int (xs (j + 2))]) (rest := [.int r]) C w.1 hl.1 (c_X6_piece l G C.2.2.1 _ _ (xs (j + 1)) (xs (j + 2)) _ h) kl_14_2 kl_1_5 kl_13_23 kl_14_0 kl_14_1 hl_X6_piece ⟨Nat.le_of_ble_eq_true rfl, Nat.le_of_ble_eq_true rfl⟩ ⟨Nat.le_trans (by omega) hc.1, Nat.le_trans (by omega) hc.2⟩ (w.1.recv C (i := 57) (by decide) pE_6 rfl) rfl (Nat.le_of_ble_eq_true rfl) dl_266) (fun r2 M2 H2 locs2 h w2 hz2 hk2 => ?_)
  replace w := w.on X w2 hz2 hk2
  refine lv_icmp_eq (tgt := 1361) hx hb dl_269 (by decide) (fun c1 => ?_) (fun c1 => absurd h.1 c1)
  exact kk M2 H2 locs2 ls _ _ h.2 w hl (by omega) (by omega)
set_option maxHeartbeats 1000000 in
set_option maxRecDepth 100000 in
theorem lc_2 {p : Program} {l : Launch} {e : Env} {s : State} {m : MethodId} {below : List Frame} {meth : Method} {c : Code} {G : GG} {b L qo : Nat} {xs : Nat → Int32} {cJ : ClassId} (X : LX G p l s m meth c b L xs cJ qo) {Rel : Mem → Prop} {j : Nat} (hj : j + 6 ≤ L) (hL : L ≤ 384) {M : Mem} {H : Heap} {locs : List Loc} {ls : Array Slot} {cells slots : Nat} (w : LW G s M H locs cJ qo) (hl : lv_has ls 8 [(0, .ref b), (1, .ref (ga G 0)), (2, .ref (ga G 57)), (3, .ref qo), (4, .int (nI j))]) (hc : cells + 1 ≤ 600128 ∧ slots + 6 ≤ 7301098) (h : q_X5_set M (xs (j + 1)) (xs (j + 2)) (fun r M1 => q_X6_set M1 (xs (j + 1)) (xs (j + 2)) (fun r2 M2 => r = r2 ∧ Rel M2))) (kk : ∀ (M2 : Mem) (H2 : Heap) (locs2 : List Loc) (ls2 : Array Slot) (cells2 slots2 : Nat), Rel M2 → LW G s M2 H2 locs2 cJ qo → lv_has ls2 8 [(0, .ref b), (1, .ref (ga G 0)), (2, .ref (ga G 57)), (3, .ref qo), (4, .int (nI j))] → cells2 ≤ cells + 1 → slots2 ≤ slots + 6 → W p l e room_1 s m #[Value.ref b] below meth c H2 locs2 cells2 slots2 (lw_Z below #[Value.ref b] s) (F0 m 1361 ls2 [])) : W p l e room_1 s m #[Value.ref b] below meth c H locs cells slots (lw_Z below #[Value.ref b] s) (F0 m 274 ls []) := by
  have C := X.1
  have hx := C.1.1
  have hb := C.1.2.1
  refine lv_aload_n hx hb dl_274 rfl (lv_at hl 1 rfl) ?_
  refine lv_aload_n hx hb dl_275 rfl (lv_at hl 0 rfl) ?_
  refine lv_iload hx hb dl_276 (lv_at hl 4 rfl) ?_
  refine lv_iconst (v := 1) hx hb dl_278 (by decide) ?_
  refine lv_iadd hx hb dl_279 ?_
  rw [show nI j + 1 = nI (j + 1) from nI_add j 1]
  refine va_sld hx hb X.2.2.2.1 X.2.2.2.2.1 (X.nb) w.1.2 (nI_in (N := L) (by omega) (by omega)) dl_280 ?_
  rw [nI_clamp (n := j + 1) (by omega)]
  refine lv_aload_n hx hb dl_281 rfl (lv_at hl 0 rfl) ?_
  refine lv_iload hx hb dl_282 (lv_at hl 4 rfl) ?_
  refine lv_iconst (v := 2) hx hb dl_284 (by decide) ?_
  refine lv_iadd hx hb dl_285 ?_
  rw [show nI j + 2 = nI (j + 2) from nI_add j 2]
  refine va_sld hx hb X.2.2.2.1 X.2.2.2.2.1 (X.nb) w.1.2 (nI_in (N := L) (by omega) (by omega)) dl_286 ?_
  rw [nI_clamp (n := j + 2) (by omega)]
  refine eg_i w.1 (rg_V (As := [.int (xs (j + 1)), .int (xs (j + 2))]) (rest := []) C w.1 hl.1 (c_X5_set l G C.2.2.1 _ _ (xs (j + 1)) (xs (j + 2)) _ h) kl_15_2 kl_1_2 kl_14_23 kl_15_0 kl_15_1 hl_X5_set ⟨Nat.le_of_ble_eq_true rfl, Nat.le_of_ble_eq_true rfl⟩ ⟨Nat.le_trans (by omega) hc.1, Nat.le_trans (by omega) hc.2⟩ (w.1.recv C (i := 0) (by decide) pE_5 rfl) rfl (Nat.le_of_ble_eq_true rfl) dl_287) (fun r M1 H1 locs1 h w1 hz1 hk1 => ?_)
  replace w := w.on X w1 hz1 hk1
  refine lv_aload_n hx hb dl_290 rfl (lv_at hl 2 rfl) ?_
  refine lv_aload_n hx hb dl_291 rfl (lv_at hl 0 rfl) ?_
  refine lv_iload hx hb dl_292 (lv_at hl 4 rfl) ?_
  refine lv_iconst (v := 1) hx hb dl_294 (by decide) ?_
  refine lv_iadd hx hb dl_295 ?_
  rw [show nI j + 1 = nI (j + 1) from nI_add j 1]
  refine va_sld hx hb X.2.2.2.1 X.2.2.2.2.1 (X.nb) w.1.2 (nI_in (N := L) (by omega) (by omega)) dl_296 ?_
  rw [nI_clamp (n := j + 1) (by omega)]
  refine lv_aload_n hx hb dl_297 rfl (lv_at hl 0 rfl) ?_
  refine lv_iload hx hb dl_298 (lv_at hl 4 rfl) ?_
  refine lv_iconst (v := 2) hx hb dl_300 (by decide) ?_
  refine lv_iadd hx hb dl_301 ?_
  rw [show nI j + 2 = nI (j + 2) from nI_add j 2]
  refine va_sld hx hb X.2.2.2.1 X.2.2.2.2.1 (X.nb) w.1.2 (nI_in (N := L) (by omega) (by omega)) dl_302 ?_
  rw [nI_clamp (n := j + 2) (by omega)]
  refine eg_i w.1 (rg_V (As := [.int (xs (j + 1)), .int (xs (j + 2))]) (rest := [.int r]) C w.1 hl.1 (c_X6_set l G C.2.2.1 _ _ (xs (j + 1)) (xs (j + 2)) _ h) kl_15_6 kl_1_5 kl_15_3 kl_15_4 kl_15_5 hl_X6_set ⟨Nat.le_of_ble_eq_true rfl, Nat.le_of_ble_eq_true rfl⟩ ⟨Nat.le_trans (by omega) hc.1, Nat.le_trans (by omega) hc.2⟩ (w.1.recv C (i := 57) (by decide) pE_6 rfl) rfl (Nat.le_of_ble_eq_true rfl) dl_303) (fun r2 M2 H2 locs2 h w2 hz2 hk2 => ?_)
  replace w := w.on X w2 hz2 hk2
  refine lv_icmp_eq (tgt := 1361) hx hb dl_306 (by decide) (fun c1 => ?_) (fun c1 => absurd h.1 c1)
  exact kk M2 H2 locs2 ls _ _ h.2 w hl (by omega) (by omega)
set_option maxHeartbeats 1000000 in
set_option maxRecDepth 100000 in
theorem lc_3 {p : Program} {l : Launch} {e : Env} {s : State} {m : MethodId} {below : List Frame} {meth : Method} {c : Code} {G : GG} {b L qo : Nat} {xs : Nat → Int32} {cJ : ClassId} (X : LX G p l s m meth c b L xs cJ qo) {Rel : Mem → Prop} {j : Nat} (hj : j + 6 ≤ L) (hL : L ≤ 384) {M : Mem} {H : Heap} {locs : List Loc} {ls : Array Slot} {cells slots : Nat} (w : LW G s M H locs cJ qo) (hl : lv_has ls 8 [(0, .ref b), (1, .ref (ga G 0)), (2, .ref (ga G 57)), (3, .ref qo), (4, .int (nI j))]) (hc : cells + 1 ≤ 600128 ∧ slots + 6 ≤ 7301098) (h : q_X5_line M (xs (j + 1)) (fun r M1 => q_X6_line M1 (xs (j + 1)) (fun r2 M2 => r = r2 ∧ Rel M2))) (kk : ∀ (M2 : Mem) (H2 : Heap) (locs2 : List Loc) (ls2 : Array Slot) (cells2 slots2 : Nat), Rel M2 → LW G s M2 H2 locs2 cJ qo → lv_has ls2 8 [(0, .ref b), (1, .ref (ga G 0)), (2, .ref (ga G 57)), (3, .ref qo), (4, .int (nI j))] → cells2 ≤ cells + 1 → slots2 ≤ slots + 6 → W p l e room_1 s m #[Value.ref b] below meth c H2 locs2 cells2 slots2 (lw_Z below #[Value.ref b] s) (F0 m 1361 ls2 [])) : W p l e room_1 s m #[Value.ref b] below meth c H locs cells slots (lw_Z below #[Value.ref b] s) (F0 m 311 ls []) := by
  have C := X.1
  have hx := C.1.1
  have hb := C.1.2.1
  refine lv_aload_n hx hb dl_311 rfl (lv_at hl 1 rfl) ?_
  refine lv_aload_n hx hb dl_312 rfl (lv_at hl 0 rfl) ?_
  refine lv_iload hx hb dl_313 (lv_at hl 4 rfl) ?_
  refine lv_iconst (v := 1) hx hb dl_315 (by decide) ?_
  refine lv_iadd hx hb dl_316 ?_
  rw [show nI j + 1 = nI (j + 1) from nI_add j 1]
  refine va_sld hx hb X.2.2.2.1 X.2.2.2.2.1 (X.nb) w.1.2 (nI_in (N := L) (by omega) (by omega)) dl_317 ?_
  rw [nI_clamp (n := j + 1) (by omega)]
  refine eg_i w.1 (rg_V (As := [.int (xs (j + 1))]) (rest := []) C w.1 hl.1 (c_X5_line l G C.2.2.1 _ _ (xs (j + 1)) _ h) kl_15_17 kl_1_2 kl_15_14 kl_15_15 kl_15_16 hl_X5_line ⟨Nat.le_of_ble_eq_true rfl, Nat.le_of_ble_eq_true rfl⟩ ⟨Nat.le_trans (by omega) hc.1, Nat.le_trans (by omega) hc.2⟩ (w.1.recv C (i := 0) (by decide) pE_5 rfl) rfl (Nat.le_of_ble_eq_true rfl) dl_318) (fun r M1 H1 locs1 h w1 hz1 hk1 => ?_)
  replace w := w.on X w1 hz1 hk1
  refine lv_aload_n hx hb dl_321 rfl (lv_at hl 2 rfl) ?_
  refine lv_aload_n hx hb dl_322 rfl (lv_at hl 0 rfl) ?_
  refine lv_iload hx hb dl_323 (lv_at hl 4 rfl) ?_
  refine lv_iconst (v := 1) hx hb dl_325 (by decide) ?_
  refine lv_iadd hx hb dl_326 ?_
  rw [show nI j + 1 = nI (j + 1) from nI_add j 1]
  refine va_sld hx hb X.2.2.2.1 X.2.2.2.2.1 (X.nb) w.1.2 (nI_in (N := L) (by omega) (by omega)) dl_327 ?_
  rw [nI_clamp (n := j + 1) (by omega)]
  refine eg_i w.1 (rg_V (As := [.int (xs (j + 1))]) (rest := [.int r]) C w.1 hl.1 (c_X6_line l G C.2.2.1 _ _ (xs (j + 1)) _ h) kl_17_3 kl_1_5 kl_17_0 kl_17_1 kl_17_2 hl_X6_line ⟨Nat.le_of_ble_eq_true rfl, Nat.le_of_ble_eq_true rfl⟩ ⟨Nat.le_trans (by omega) hc.1, Nat.le_trans (by omega) hc.2⟩ (w.1.recv C (i := 57) (by decide) pE_6 rfl) rfl (Nat.le_of_ble_eq_true rfl) dl_328) (fun r2 M2 H2 locs2 h w2 hz2 hk2 => ?_)
  replace w := w.on X w2 hz2 hk2
  refine lv_icmp_eq (tgt := 1361) hx hb dl_331 (by decide) (fun c1 => ?_) (fun c1 => absurd h.1 c1)
  exact kk M2 H2 locs2 ls _ _ h.2 w hl (by omega) (by omega)
set_option maxHeartbeats 1000000 in
set_option maxRecDepth 100000 in
theorem lc_4 {p : Program} {l : Launch} {e : Env} {s : State} {m : MethodId} {below : List Frame} {meth : Method} {c : Code} {G : GG} {b L qo : Nat} {xs : Nat → Int32} {cJ : ClassId} (X : LX G p l s m meth c b L xs cJ qo) {Rel : Mem → Prop} {j : Nat} (hj : j + 6 ≤ L) (hL : L ≤ 384) {M : Mem} {H : Heap} {locs : List Loc} {ls : Array Slot} {cells slots : Nat} (w : LW G s M H locs cJ qo) (hl : lv_has ls 8 [(0, .ref b), (1, .ref (ga G 0)), (2, .ref (ga G 57)), (3, .ref qo), (4, .int (nI j))]) (hc : cells + 1 ≤ 600128 ∧ slots + 6 ≤ 7301098) (h : q_X5_apart M (xs (j + 1)) (fun r M1 => q_X6_apart M1 (xs (j + 1)) (fun r2 M2 => r = r2 ∧ Rel M2))) (kk : ∀ (M2 : Mem) (H2 : Heap) (locs2 : List Loc) (ls2 : Array Slot) (cells2 slots2 : Nat), Rel M2 → LW G s M2 H2 locs2 cJ qo → lv_has ls2 8 [(0, .ref b), (1, .ref (ga G 0)), (2, .ref (ga G 57)), (3, .ref qo), (4, .int (nI j))] → cells2 ≤ cells + 1 → slots2 ≤ slots + 6 → W p l e room_1 s m #[Value.ref b] below meth c H2 locs2 cells2 slots2 (lw_Z below #[Value.ref b] s) (F0 m 1361 ls2 [])) : W p l e room_1 s m #[Value.ref b] below meth c H locs cells slots (lw_Z below #[Value.ref b] s) (F0 m 336 ls []) := by
  have C := X.1
  have hx := C.1.1
  have hb := C.1.2.1
  refine lv_aload_n hx hb dl_336 rfl (lv_at hl 1 rfl) ?_
  refine lv_aload_n hx hb dl_337 rfl (lv_at hl 0 rfl) ?_
  refine lv_iload hx hb dl_338 (lv_at hl 4 rfl) ?_
  refine lv_iconst (v := 1) hx hb dl_340 (by decide) ?_
  refine lv_iadd hx hb dl_341 ?_
  rw [show nI j + 1 = nI (j + 1) from nI_add j 1]
  refine va_sld hx hb X.2.2.2.1 X.2.2.2.2.1 (X.nb) w.1.2 (nI_in (N := L) (by omega) (by omega)) dl_342 ?_
  rw [nI_clamp (n := j + 1) (by omega)]
  refine eg_i w.1 (rg_V (As := [.int (xs (j + 1))]) (rest := []) C w.1 hl.1 (c_X5_apart l G C.2.2.1 _ _ (xs (j + 1)) _ h) kl_18_11 kl_1_2 kl_18_8 kl_18_9 kl_18_10 hl_X5_apart ⟨Nat.le_of_ble_eq_true rfl, Nat.le_of_ble_eq_true rfl⟩ ⟨Nat.le_trans (by omega) hc.1, Nat.le_trans (by omega) hc.2⟩ (w.1.recv C (i := 0) (by decide) pE_5 rfl) rfl (Nat.le_of_ble_eq_true rfl) dl_343) (fun r M1 H1 locs1 h w1 hz1 hk1 => ?_)
  replace w := w.on X w1 hz1 hk1
  refine lv_aload_n hx hb dl_346 rfl (lv_at hl 2 rfl) ?_
  refine lv_aload_n hx hb dl_347 rfl (lv_at hl 0 rfl) ?_
  refine lv_iload hx hb dl_348 (lv_at hl 4 rfl) ?_
  refine lv_iconst (v := 1) hx hb dl_350 (by decide) ?_
  refine lv_iadd hx hb dl_351 ?_
  rw [show nI j + 1 = nI (j + 1) from nI_add j 1]
  refine va_sld hx hb X.2.2.2.1 X.2.2.2.2.1 (X.nb) w.1.2 (nI_in (N := L) (by omega) (by omega)) dl_352 ?_
  rw [nI_clamp (n := j + 1) (by omega)]
  refine eg_i w.1 (rg_V (As := [.int (xs (j + 1))]) (rest := [.int r]) C w.1 hl.1 (c_X6_apart l G C.2.2.1 _ _ (xs (j + 1)) _ h) kl_19_1 kl_1_5 kl_18_22 kl_18_23 kl_19_0 hl_X6_apart ⟨Nat.le_of_ble_eq_true rfl, Nat.le_of_ble_eq_true rfl⟩ ⟨Nat.le_trans (by omega) hc.1, Nat.le_trans (by omega) hc.2⟩ (w.1.recv C (i := 57) (by decide) pE_6 rfl) rfl (Nat.le_of_ble_eq_true rfl) dl_353) (fun r2 M2 H2 locs2 h w2 hz2 hk2 => ?_)
  replace w := w.on X w2 hz2 hk2
  refine lv_icmp_eq (tgt := 1361) hx hb dl_356 (by decide) (fun c1 => ?_) (fun c1 => absurd h.1 c1)
  exact kk M2 H2 locs2 ls _ _ h.2 w hl (by omega) (by omega)
set_option maxHeartbeats 1000000 in
set_option maxRecDepth 100000 in
theorem lc_5 {p : Program} {l : Launch} {e : Env} {s : State} {m : MethodId} {below : List Frame} {meth : Method} {c : Code} {G : GG} {b L qo : Nat} {xs : Nat → Int32} {cJ : ClassId} (X : LX G p l s m meth c b L xs cJ qo) {Rel : Mem → Prop} {j : Nat} (hj : j + 6 ≤ L) (hL : L ≤ 384) {M : Mem} {H : Heap} {locs : List Loc} {ls : Array Slot} {cells slots : Nat} (w : LW G s M H locs cJ qo) (hl : lv_has ls 8 [(0, .ref b), (1, .ref (ga G 0)), (2, .ref (ga G 57)), (3, .ref qo), (4, .int (nI j))]) (hc : cells + 1 ≤ 600128 ∧ slots + 6 ≤ 7301098) (h : q_X5_pull M (xs (j + 1)) (fun r M1 => q_X6_pull M1 (xs (j + 1)) (fun r2 M2 => r = r2 ∧ Rel M2))) (kk : ∀ (M2 : Mem) (H2 : Heap) (locs2 : List Loc) (ls2 : Array Slot) (cells2 slots2 : Nat), Rel M2 → LW G s M2 H2 locs2 cJ qo → lv_has ls2 8 [(0, .ref b), (1, .ref (ga G 0)), (2, .ref (ga G 57)), (3, .ref qo), (4, .int (nI j))] → cells2 ≤ cells + 1 → slots2 ≤ slots + 6 → W p l e room_1 s m #[Value.ref b] below meth c H2 locs2 cells2 slots2 (lw_Z below #[Value.ref b] s) (F0 m 1361 ls2 [])) : W p l e room_1 s m #[Value.ref b] below meth c H locs cells slots (lw_Z below #[Value.ref b] s) (F0 m 361 ls []) := by
  have C := X.1
  have hx := C.1.1
  have hb := C.1.2.1
  refine lv_aload_n hx hb dl_361 rfl (lv_at hl 1 rfl) ?_
  refine lv_aload_n hx hb dl_362 rfl (lv_at hl 0 rfl) ?_
  refine lv_iload hx hb dl_363 (lv_at hl 4 rfl) ?_
  refine lv_iconst (v := 1) hx hb dl_365 (by decide) ?_
  refine lv_iadd hx hb dl_366 ?_
  rw [show nI j + 1 = nI (j + 1) from nI_add j 1]
  refine va_sld hx hb X.2.2.2.1 X.2.2.2.2.1 (X.nb) w.1.2 (nI_in (N := L) (by omega) (by omega)) dl_367 ?_
  rw [nI_clamp (n := j + 1) (by omega)]
  refine eg_i w.1 (rg_V (As := [.int (xs (j + 1))]) (rest := []) C w.1 hl.1 (c_X5_pull l G C.2.2.1 _ _ (xs (j + 1)) _ h) kl_19_17 kl_1_2 kl_19_14 kl_19_15 kl_19_16 hl_X5_pull ⟨Nat.le_of_ble_eq_true rfl, Nat.le_of_ble_eq_true rfl⟩ ⟨Nat.le_trans (by omega) hc.1, Nat.le_trans (by omega) hc.2⟩ (w.1.recv C (i := 0) (by decide) pE_5 rfl) rfl (Nat.le_of_ble_eq_true rfl) dl_368) (fun r M1 H1 locs1 h w1 hz1 hk1 => ?_)
  replace w := w.on X w1 hz1 hk1
  refine lv_aload_n hx hb dl_371 rfl (lv_at hl 2 rfl) ?_
  refine lv_aload_n hx hb dl_372 rfl (lv_at hl 0 rfl) ?_
  refine lv_iload hx hb dl_373 (lv_at hl 4 rfl) ?_
  refine lv_iconst (v := 1) hx hb dl_375 (by decide) ?_
  refine lv_iadd hx hb dl_376 ?_
  rw [show nI j + 1 = nI (j + 1) from nI_add j 1]
  refine va_sld hx hb X.2.2.2.1 X.2.2.2.2.1 (X.nb) w.1.2 (nI_in (N := L) (by omega) (by omega)) dl_377 ?_
  rw [nI_clamp (n := j + 1) (by omega)]
  refine eg_i w.1 (rg_V (As := [.int (xs (j + 1))]) (rest := [.int r]) C w.1 hl.1 (c_X6_pull l G C.2.2.1 _ _ (xs (j + 1)) _ h) kl_20_12 kl_1_5 kl_20_9 kl_20_10 kl_20_11 hl_X6_pull ⟨Nat.le_of_ble_eq_true rfl, Nat.le_of_ble_eq_true rfl⟩ ⟨Nat.le_trans (by omega) hc.1, Nat.le_trans (by omega) hc.2⟩ (w.1.recv C (i := 57) (by decide) pE_6 rfl) rfl (Nat.le_of_ble_eq_true rfl) dl_378) (fun r2 M2 H2 locs2 h w2 hz2 hk2 => ?_)
  replace w := w.on X w2 hz2 hk2
  refine lv_icmp_eq (tgt := 1361) hx hb dl_381 (by decide) (fun c1 => ?_) (fun c1 => absurd h.1 c1)
  exact kk M2 H2 locs2 ls _ _ h.2 w hl (by omega) (by omega)
set_option maxHeartbeats 1000000 in
set_option maxRecDepth 100000 in
theorem lc_6 {p : Program} {l : Launch} {e : Env} {s : State} {m : MethodId} {below : List Frame} {meth : Method} {c : Code} {G : GG} {b L qo : Nat} {xs : Nat → Int32} {cJ : ClassId} (X : LX G p l s m meth c b L xs cJ qo) {Rel : Mem → Prop} {j : Nat} (hj : j + 6 ≤ L) (hL : L ≤ 384) {M : Mem} {H : Heap} {locs : List Loc} {ls : Array Slot} {cells slots : Nat} (w : LW G s M H locs cJ qo) (hl : lv_has ls 8 [(0, .ref b), (1, .ref (ga G 0)), (2, .ref (ga G 57)), (3, .ref qo), (4, .int (nI j))]) (hc : cells + 1 ≤ 600128 ∧ slots + 6 ≤ 7301098) (h : q_X5_tenth M (fun r M1 => q_X6_tenth M1 (fun r2 M2 => r = r2 ∧ Rel M2))) (kk : ∀ (M2 : Mem) (H2 : Heap) (locs2 : List Loc) (ls2 : Array Slot) (cells2 slots2 : Nat), Rel M2 → LW G s M2 H2 locs2 cJ qo → lv_has ls2 8 [(0, .ref b), (1, .ref (ga G 0)), (2, .ref (ga G 57)), (3, .ref qo), (4, .int (nI j))] → cells2 ≤ cells + 1 → slots2 ≤ slots + 6 → W p l e room_1 s m #[Value.ref b] below meth c H2 locs2 cells2 slots2 (lw_Z below #[Value.ref b] s) (F0 m 1361 ls2 [])) : W p l e room_1 s m #[Value.ref b] below meth c H locs cells slots (lw_Z below #[Value.ref b] s) (F0 m 386 ls []) := by
  have C := X.1
  have hx := C.1.1
  have hb := C.1.2.1
  refine lv_aload_n hx hb dl_386 rfl (lv_at hl 1 rfl) ?_
  refine eg_i w.1 (rg_V (As := []) (rest := []) C w.1 hl.1 (c_X5_tenth l G C.2.2.1 _ _ _ h) kl_20_21 kl_1_2 kl_20_18 kl_20_19 kl_20_20 hl_X5_tenth ⟨Nat.le_of_ble_eq_true rfl, Nat.le_of_ble_eq_true rfl⟩ ⟨Nat.le_trans (by omega) hc.1, Nat.le_trans (by omega) hc.2⟩ (w.1.recv C (i := 0) (by decide) pE_5 rfl) rfl (Nat.le_of_ble_eq_true rfl) dl_387) (fun r M1 H1 locs1 h w1 hz1 hk1 => ?_)
  replace w := w.on X w1 hz1 hk1
  refine lv_aload_n hx hb dl_390 rfl (lv_at hl 2 rfl) ?_
  refine eg_i w.1 (rg_V (As := []) (rest := [.int r]) C w.1 hl.1 (c_X6_tenth l G C.2.2.1 _ _ _ h) kl_21_18 kl_1_5 kl_21_15 kl_21_16 kl_21_17 hl_X6_tenth ⟨Nat.le_of_ble_eq_true rfl, Nat.le_of_ble_eq_true rfl⟩ ⟨Nat.le_trans (by omega) hc.1, Nat.le_trans (by omega) hc.2⟩ (w.1.recv C (i := 57) (by decide) pE_6 rfl) rfl (Nat.le_of_ble_eq_true rfl) dl_391) (fun r2 M2 H2 locs2 h w2 hz2 hk2 => ?_)
  replace w := w.on X w2 hz2 hk2
  refine lv_icmp_eq (tgt := 1361) hx hb dl_394 (by decide) (fun c1 => ?_) (fun c1 => absurd h.1 c1)
  exact kk M2 H2 locs2 ls _ _ h.2 w hl (by omega) (by omega)
set_option maxHeartbeats 1000000 in
set_option maxRecDepth 100000 in
theorem lc_7 {p : Program} {l : Launch} {e : Env} {s : State} {m : MethodId} {below : List Frame} {meth : Method} {c : Code} {G : GG} {b L qo : Nat} {xs : Nat → Int32} {cJ : ClassId} (X : LX G p l s m meth c b L xs cJ qo) {Rel : Mem → Prop} {j : Nat} (hj : j + 6 ≤ L) (hL : L ≤ 384) {M : Mem} {H : Heap} {locs : List Loc} {ls : Array Slot} {cells slots : Nat} (w : LW G s M H locs cJ qo) (hl : lv_has ls 8 [(0, .ref b), (1, .ref (ga G 0)), (2, .ref (ga G 57)), (3, .ref qo), (4, .int (nI j))]) (hc : cells + 1 ≤ 600128 ∧ slots + 6 ≤ 7301098) (h : q_X5_greatest M (xs (j + 1)) (fun r M1 => q_X6_greatest M1 (xs (j + 1)) (fun r2 M2 => r = r2 ∧ Rel M2))) (kk : ∀ (M2 : Mem) (H2 : Heap) (locs2 : List Loc) (ls2 : Array Slot) (cells2 slots2 : Nat), Rel M2 → LW G s M2 H2 locs2 cJ qo → lv_has ls2 8 [(0, .ref b), (1, .ref (ga G 0)), (2, .ref (ga G 57)), (3, .ref qo), (4, .int (nI j))] → cells2 ≤ cells + 1 → slots2 ≤ slots + 6 → W p l e room_1 s m #[Value.ref b] below meth c H2 locs2 cells2 slots2 (lw_Z below #[Value.ref b] s) (F0 m 1361 ls2 [])) : W p l e room_1 s m #[Value.ref b] below meth c H locs cells slots (lw_Z below #[Value.ref b] s) (F0 m 399 ls []) := by
  have C := X.1
  have hx := C.1.1
  have hb := C.1.2.1
  refine lv_aload_n hx hb dl_399 rfl (lv_at hl 1 rfl) ?_
  refine lv_aload_n hx hb dl_400 rfl (lv_at hl 0 rfl) ?_
  refine lv_iload hx hb dl_401 (lv_at hl 4 rfl) ?_
  refine lv_iconst (v := 1) hx hb dl_403 (by decide) ?_
  refine lv_iadd hx hb dl_404 ?_
  rw [show nI j + 1 = nI (j + 1) from nI_add j 1]
  refine va_sld hx hb X.2.2.2.1 X.2.2.2.2.1 (X.nb) w.1.2 (nI_in (N := L) (by omega) (by omega)) dl_405 ?_
  rw [nI_clamp (n := j + 1) (by omega)]
  refine eg_i w.1 (rg_V (As := [.int (xs (j + 1))]) (rest := []) C w.1 hl.1 (c_X5_greatest l G C.2.2.1 _ _ (xs (j + 1)) _ h) kl_22_11 kl_1_2 kl_22_8 kl_22_9 kl_22_10 hl_X5_greatest ⟨Nat.le_of_ble_eq_true rfl, Nat.le_of_ble_eq_true rfl⟩ ⟨Nat.le_trans (by omega) hc.1, Nat.le_trans (by omega) hc.2⟩ (w.1.recv C (i := 0) (by decide) pE_5 rfl) rfl (Nat.le_of_ble_eq_true rfl) dl_406) (fun r M1 H1 locs1 h w1 hz1 hk1 => ?_)
  replace w := w.on X w1 hz1 hk1
  refine lv_aload_n hx hb dl_409 rfl (lv_at hl 2 rfl) ?_
  refine lv_aload_n hx hb dl_410 rfl (lv_at hl 0 rfl) ?_
  refine lv_iload hx hb dl_411 (lv_at hl 4 rfl) ?_
  refine lv_iconst (v := 1) hx hb dl_413 (by decide) ?_
  refine lv_iadd hx hb dl_414 ?_
  rw [show nI j + 1 = nI (j + 1) from nI_add j 1]
  refine va_sld hx hb X.2.2.2.1 X.2.2.2.2.1 (X.nb) w.1.2 (nI_in (N := L) (by omega) (by omega)) dl_415 ?_
  rw [nI_clamp (n := j + 1) (by omega)]
  refine eg_i w.1 (rg_V (As := [.int (xs (j + 1))]) (rest := [.int r]) C w.1 hl.1 (c_X6_greatest l G C.2.2.1 _ _ (xs (j + 1)) _ h) kl_22_23 kl_1_5 kl_22_20 kl_22_21 kl_22_22 hl_X6_greatest ⟨Nat.le_of_ble_eq_true rfl, Nat.le_of_ble_eq_true rfl⟩ ⟨Nat.le_trans (by omega) hc.1, Nat.le_trans (by omega) hc.2⟩ (w.1.recv C (i := 57) (by decide) pE_6 rfl) rfl (Nat.le_of_ble_eq_true rfl) dl_416) (fun r2 M2 H2 locs2 h w2 hz2 hk2 => ?_)
  replace w := w.on X w2 hz2 hk2
  refine lv_icmp_eq (tgt := 1361) hx hb dl_419 (by decide) (fun c1 => ?_) (fun c1 => absurd h.1 c1)
  exact kk M2 H2 locs2 ls _ _ h.2 w hl (by omega) (by omega)
set_option maxHeartbeats 1000000 in
set_option maxRecDepth 100000 in
theorem lc_8 {p : Program} {l : Launch} {e : Env} {s : State} {m : MethodId} {below : List Frame} {meth : Method} {c : Code} {G : GG} {b L qo : Nat} {xs : Nat → Int32} {cJ : ClassId} (X : LX G p l s m meth c b L xs cJ qo) {Rel : Mem → Prop} {j : Nat} (hj : j + 6 ≤ L) (hL : L ≤ 384) {M : Mem} {H : Heap} {locs : List Loc} {ls : Array Slot} {cells slots : Nat} (w : LW G s M H locs cJ qo) (hl : lv_has ls 8 [(0, .ref b), (1, .ref (ga G 0)), (2, .ref (ga G 57)), (3, .ref qo), (4, .int (nI j))]) (hc : cells + 1 ≤ 600128 ∧ slots + 6 ≤ 7301098) (h : q_X5_holds M (xs (j + 1)) (xs (j + 2)) (fun r M1 => q_X6_holds M1 (xs (j + 1)) (xs (j + 2)) (fun r2 M2 => r = r2 ∧ Rel M2))) (kk : ∀ (M2 : Mem) (H2 : Heap) (locs2 : List Loc) (ls2 : Array Slot) (cells2 slots2 : Nat), Rel M2 → LW G s M2 H2 locs2 cJ qo → lv_has ls2 8 [(0, .ref b), (1, .ref (ga G 0)), (2, .ref (ga G 57)), (3, .ref qo), (4, .int (nI j))] → cells2 ≤ cells + 1 → slots2 ≤ slots + 6 → W p l e room_1 s m #[Value.ref b] below meth c H2 locs2 cells2 slots2 (lw_Z below #[Value.ref b] s) (F0 m 1361 ls2 [])) : W p l e room_1 s m #[Value.ref b] below meth c H locs cells slots (lw_Z below #[Value.ref b] s) (F0 m 424 ls []) := by
  have C := X.1
  have hx := C.1.1
  have hb := C.1.2.1
  refine lv_aload_n hx hb dl_424 rfl (lv_at hl 1 rfl) ?_
  refine lv_aload_n hx hb dl_425 rfl (lv_at hl 0 rfl) ?_
  refine lv_iload hx hb dl_426 (lv_at hl 4 rfl) ?_
  refine lv_iconst (v := 1) hx hb dl_428 (by decide) ?_
  refine lv_iadd hx hb dl_429 ?_
  rw [show nI j + 1 = nI (j + 1) from nI_add j 1]
  refine va_sld hx hb X.2.2.2.1 X.2.2.2.2.1 (X.nb) w.1.2 (nI_in (N := L) (by omega) (by omega)) dl_430 ?_
  rw [nI_clamp (n := j + 1) (by omega)]
  refine lv_aload_n hx hb dl_431 rfl (lv_at hl 0 rfl) ?_
  refine lv_iload hx hb dl_432 (lv_at hl 4 rfl) ?_
  refine lv_iconst (v := 2) hx hb dl_434 (by decide) ?_
  refine lv_iadd hx hb dl_435 ?_
  rw [show nI j + 2 = nI (j + 2) from nI_add j 2]
  refine va_sld hx hb X.2.2.2.1 X.2.2.2.2.1 (X.nb) w.1.2 (nI_in (N := L) (by omega) (by omega)) dl_436 ?_
  rw [nI_clamp (n := j + 2) (by omega)]
  refine eg_i w.1 (rg_V (As := [.int (xs (j + 1)), .int (xs (j + 2))]) (rest := []) C w.1 hl.1 (c_X5_holds l G C.2.2.1 _ _ (xs (j + 1)) (xs (j + 2)) _ h) kl_23_8 kl_1_2 kl_23_5 kl_23_6 kl_23_7 hl_X5_holds ⟨Nat.le_of_ble_eq_true rfl, Nat.le_of_ble_eq_true rfl⟩ ⟨Nat.le_trans (by omega) hc.1, Nat.le_trans (by omega) hc.2⟩ (w.1.recv C (i := 0) (by decide) pE_5 rfl) rfl (Nat.le_of_ble_eq_true rfl) dl_437) (fun r M1 H1 locs1 h w1 hz1 hk1 => ?_)
  replace w := w.on X w1 hz1 hk1
  refine lv_aload_n hx hb dl_440 rfl (lv_at hl 2 rfl) ?_
  refine lv_aload_n hx hb dl_441 rfl (lv_at hl 0 rfl) ?_
  refine lv_iload hx hb dl_442 (lv_at hl 4 rfl) ?_
  refine lv_iconst (v := 1) hx hb dl_444 (by decide) ?_
  refine lv_iadd hx hb dl_445 ?_
  rw [show nI j + 1 = nI (j + 1) from nI_add j 1]
  refine va_sld hx hb X.2.2.2.1 X.2.2.2.2.1 (X.nb) w.1.2 (nI_in (N := L) (by omega) (by omega)) dl_446 ?_
  rw [nI_clamp (n := j + 1) (by omega)]
  refine lv_aload_n hx hb dl_447 rfl (lv_at hl 0 rfl) ?_
  refine lv_iload hx hb dl_448 (lv_at hl 4 rfl) ?_
  refine lv_iconst (v := 2) hx hb dl_450 (by decide) ?_
  refine lv_iadd hx hb dl_451 ?_
  rw [show nI j + 2 = nI (j + 2) from nI_add j 2]
  refine va_sld hx hb X.2.2.2.1 X.2.2.2.2.1 (X.nb) w.1.2 (nI_in (N := L) (by omega) (by omega)) dl_452 ?_
  rw [nI_clamp (n := j + 2) (by omega)]
  refine eg_i w.1 (rg_V (As := [.int (xs (j + 1)), .int (xs (j + 2))]) (rest := [.int r]) C w.1 hl.1 (c_X6_holds l G C.2.2.1 _ _ (xs (j + 1)) (xs (j + 2)) _ h) kl_23_16 kl_1_5 kl_23_13 kl_23_14 kl_23_15 hl_X6_holds ⟨Nat.le_of_ble_eq_true rfl, Nat.le_of_ble_eq_true rfl⟩ ⟨Nat.le_trans (by omega) hc.1, Nat.le_trans (by omega) hc.2⟩ (w.1.recv C (i := 57) (by decide) pE_6 rfl) rfl (Nat.le_of_ble_eq_true rfl) dl_453) (fun r2 M2 H2 locs2 h w2 hz2 hk2 => ?_)
  replace w := w.on X w2 hz2 hk2
  refine lv_icmp_eq (tgt := 1361) hx hb dl_456 (by decide) (fun c1 => ?_) (fun c1 => absurd h.1 c1)
  exact kk M2 H2 locs2 ls _ _ h.2 w hl (by omega) (by omega)
set_option maxHeartbeats 1000000 in
set_option maxRecDepth 100000 in
theorem lc_9 {p : Program} {l : Launch} {e : Env} {s : State} {m : MethodId} {below : List Frame} {meth : Method} {c : Code} {G : GG} {b L qo : Nat} {xs : Nat → Int32} {cJ : ClassId} (X : LX G p l s m meth c b L xs cJ qo) {Rel : Mem → Prop} {j : Nat} (hj : j + 6 ≤ L) (hL : L ≤ 384) {M : Mem} {H : Heap} {locs : List Loc} {ls : Array Slot} {cells slots : Nat} (w : LW G s M H locs cJ qo) (hl : lv_has ls 8 [(0, .ref b), (1, .ref (ga G 0)), (2, .ref (ga G 57)), (3, .ref qo), (4, .int (nI j))]) (hc : cells + 1 ≤ 600128 ∧ slots + 6 ≤ 7301098) (h : q_X5_fastest M (xs (j + 1)) (fun r M1 => q_X6_fastest M1 (xs (j + 1)) (fun r2 M2 => r = r2 ∧ Rel M2))) (kk : ∀ (M2 : Mem) (H2 : Heap) (locs2 : List Loc) (ls2 : Array Slot) (cells2 slots2 : Nat), Rel M2 → LW G s M2 H2 locs2 cJ qo → lv_has ls2 8 [(0, .ref b), (1, .ref (ga G 0)), (2, .ref (ga G 57)), (3, .ref qo), (4, .int (nI j))] → cells2 ≤ cells + 1 → slots2 ≤ slots + 6 → W p l e room_1 s m #[Value.ref b] below meth c H2 locs2 cells2 slots2 (lw_Z below #[Value.ref b] s) (F0 m 1361 ls2 [])) : W p l e room_1 s m #[Value.ref b] below meth c H locs cells slots (lw_Z below #[Value.ref b] s) (F0 m 461 ls []) := by
  have C := X.1
  have hx := C.1.1
  have hb := C.1.2.1
  refine lv_aload_n hx hb dl_461 rfl (lv_at hl 1 rfl) ?_
  refine lv_aload_n hx hb dl_462 rfl (lv_at hl 0 rfl) ?_
  refine lv_iload hx hb dl_463 (lv_at hl 4 rfl) ?_
  refine lv_iconst (v := 1) hx hb dl_465 (by decide) ?_
  refine lv_iadd hx hb dl_466 ?_
  rw [show nI j + 1 = nI (j + 1) from nI_add j 1]
  refine va_sld hx hb X.2.2.2.1 X.2.2.2.2.1 (X.nb) w.1.2 (nI_in (N := L) (by omega) (by omega)) dl_467 ?_
  rw [nI_clamp (n := j + 1) (by omega)]
  refine eg_i w.1 (rg_V (As := [.int (xs (j + 1))]) (rest := []) C w.1 hl.1 (c_X5_fastest l G C.2.2.1 _ _ (xs (j + 1)) _ h) kl_24_2 kl_1_2 kl_23_23 kl_24_0 kl_24_1 hl_X5_fastest ⟨Nat.le_of_ble_eq_true rfl, Nat.le_of_ble_eq_true rfl⟩ ⟨Nat.le_trans (by omega) hc.1, Nat.le_trans (by omega) hc.2⟩ (w.1.recv C (i := 0) (by decide) pE_5 rfl) rfl (Nat.le_of_ble_eq_true rfl) dl_468) (fun r M1 H1 locs1 h w1 hz1 hk1 => ?_)
  replace w := w.on X w1 hz1 hk1
  refine lv_aload_n hx hb dl_471 rfl (lv_at hl 2 rfl) ?_
  refine lv_aload_n hx hb dl_472 rfl (lv_at hl 0 rfl) ?_
  refine lv_iload hx hb dl_473 (lv_at hl 4 rfl) ?_
  refine lv_iconst (v := 1) hx hb dl_475 (by decide) ?_
  refine lv_iadd hx hb dl_476 ?_
  rw [show nI j + 1 = nI (j + 1) from nI_add j 1]
  refine va_sld hx hb X.2.2.2.1 X.2.2.2.2.1 (X.nb) w.1.2 (nI_in (N := L) (by omega) (by omega)) dl_477 ?_
  rw [nI_clamp (n := j + 1) (by omega)]
  refine eg_i w.1 (rg_V (As := [.int (xs (j + 1))]) (rest := [.int r]) C w.1 hl.1 (c_X6_fastest l G C.2.2.1 _ _ (xs (j + 1)) _ h) kl_24_7 kl_1_5 kl_24_4 kl_24_5 kl_24_6 hl_X6_fastest ⟨Nat.le_of_ble_eq_true rfl, Nat.le_of_ble_eq_true rfl⟩ ⟨Nat.le_trans (by omega) hc.1, Nat.le_trans (by omega) hc.2⟩ (w.1.recv C (i := 57) (by decide) pE_6 rfl) rfl (Nat.le_of_ble_eq_true rfl) dl_478) (fun r2 M2 H2 locs2 h w2 hz2 hk2 => ?_)
  replace w := w.on X w2 hz2 hk2
  refine lv_icmp_eq (tgt := 1361) hx hb dl_481 (by decide) (fun c1 => ?_) (fun c1 => absurd h.1 c1)
  exact kk M2 H2 locs2 ls _ _ h.2 w hl (by omega) (by omega)
set_option maxHeartbeats 1000000 in
set_option maxRecDepth 100000 in
theorem lc_10 {p : Program} {l : Launch} {e : Env} {s : State} {m : MethodId} {below : List Frame} {meth : Method} {c : Code} {G : GG} {b L qo : Nat} {xs : Nat → Int32} {cJ : ClassId} (X : LX G p l s m meth c b L xs cJ qo) {Rel : Mem → Prop} {j : Nat} (hj : j + 6 ≤ L) (hL : L ≤ 384) {M : Mem} {H : Heap} {locs : List Loc} {ls : Array Slot} {cells slots : Nat} (w : LW G s M H locs cJ qo) (hl : lv_has ls 8 [(0, .ref b), (1, .ref (ga G 0)), (2, .ref (ga G 57)), (3, .ref qo), (4, .int (nI j))]) (hc : cells + 1 ≤ 600128 ∧ slots + 6 ≤ 7301098) (h : q_X5_longer M (xs (j + 1)) (xs (j + 2)) (fun r M1 => q_X6_longer M1 (xs (j + 1)) (xs (j + 2)) (fun r2 M2 => r = r2 ∧ Rel M2))) (kk : ∀ (M2 : Mem) (H2 : Heap) (locs2 : List Loc) (ls2 : Array Slot) (cells2 slots2 : Nat), Rel M2 → LW G s M2 H2 locs2 cJ qo → lv_has ls2 8 [(0, .ref b), (1, .ref (ga G 0)), (2, .ref (ga G 57)), (3, .ref qo), (4, .int (nI j))] → cells2 ≤ cells + 1 → slots2 ≤ slots + 6 → W p l e room_1 s m #[Value.ref b] below meth c H2 locs2 cells2 slots2 (lw_Z below #[Value.ref b] s) (F0 m 1361 ls2 [])) : W p l e room_1 s m #[Value.ref b] below meth c H locs cells slots (lw_Z below #[Value.ref b] s) (F0 m 486 ls []) := by
  have C := X.1
  have hx := C.1.1
  have hb := C.1.2.1
  refine lv_aload_n hx hb dl_486 rfl (lv_at hl 1 rfl) ?_
  refine lv_aload_n hx hb dl_487 rfl (lv_at hl 0 rfl) ?_
  refine lv_iload hx hb dl_488 (lv_at hl 4 rfl) ?_
  refine lv_iconst (v := 1) hx hb dl_490 (by decide) ?_
  refine lv_iadd hx hb dl_491 ?_
  rw [show nI j + 1 = nI (j + 1) from nI_add j 1]
  refine va_sld hx hb X.2.2.2.1 X.2.2.2.2.1 (X.nb) w.1.2 (nI_in (N := L) (by omega) (by omega)) dl_492 ?_
  rw [nI_clamp (n := j + 1) (by omega)]
  refine lv_aload_n hx hb dl_493 rfl (lv_at hl 0 rfl) ?_
  refine lv_iload hx hb dl_494 (lv_at hl 4 rfl) ?_
  refine lv_iconst (v := 2) hx hb dl_496 (by decide) ?_
  refine lv_iadd hx hb dl_497 ?_
  rw [show nI j + 2 = nI (j + 2) from nI_add j 2]
  refine va_sld hx hb X.2.2.2.1 X.2.2.2.2.1 (X.nb) w.1.2 (nI_in (N := L) (by omega) (by omega)) dl_498 ?_
  rw [nI_clamp (n := j + 2) (by omega)]
  refine eg_i w.1 (rg_V (As := [.int (xs (j + 1)), .int (xs (j + 2))]) (rest := []) C w.1 hl.1 (c_X5_longer l G C.2.2.1 _ _ (xs (j + 1)) (xs (j + 2)) _ h) kl_24_11 kl_1_2 kl_24_8 kl_24_9 kl_24_10 hl_X5_longer ⟨Nat.le_of_ble_eq_true rfl, Nat.le_of_ble_eq_true rfl⟩ ⟨Nat.le_trans (by omega) hc.1, Nat.le_trans (by omega) hc.2⟩ (w.1.recv C (i := 0) (by decide) pE_5 rfl) rfl (Nat.le_of_ble_eq_true rfl) dl_499) (fun r M1 H1 locs1 h w1 hz1 hk1 => ?_)
  replace w := w.on X w1 hz1 hk1
  refine lv_aload_n hx hb dl_502 rfl (lv_at hl 2 rfl) ?_
  refine lv_aload_n hx hb dl_503 rfl (lv_at hl 0 rfl) ?_
  refine lv_iload hx hb dl_504 (lv_at hl 4 rfl) ?_
  refine lv_iconst (v := 1) hx hb dl_506 (by decide) ?_
  refine lv_iadd hx hb dl_507 ?_
  rw [show nI j + 1 = nI (j + 1) from nI_add j 1]
  refine va_sld hx hb X.2.2.2.1 X.2.2.2.2.1 (X.nb) w.1.2 (nI_in (N := L) (by omega) (by omega)) dl_508 ?_
  rw [nI_clamp (n := j + 1) (by omega)]
  refine lv_aload_n hx hb dl_509 rfl (lv_at hl 0 rfl) ?_
  refine lv_iload hx hb dl_510 (lv_at hl 4 rfl) ?_
  refine lv_iconst (v := 2) hx hb dl_512 (by decide) ?_
  refine lv_iadd hx hb dl_513 ?_
  rw [show nI j + 2 = nI (j + 2) from nI_add j 2]
  refine va_sld hx hb X.2.2.2.1 X.2.2.2.2.1 (X.nb) w.1.2 (nI_in (N := L) (by omega) (by omega)) dl_514 ?_
  rw [nI_clamp (n := j + 2) (by omega)]
  refine eg_i w.1 (rg_V (As := [.int (xs (j + 1)), .int (xs (j + 2))]) (rest := [.int r]) C w.1 hl.1 (c_X6_longer l G C.2.2.1 _ _ (xs (j + 1)) (xs (j + 2)) _ h) kl_24_15 kl_1_5 kl_24_12 kl_24_13 kl_24_14 hl_X6_longer ⟨Nat.le_of_ble_eq_true rfl, Nat.le_of_ble_eq_true rfl⟩ ⟨Nat.le_trans (by omega) hc.1, Nat.le_trans (by omega) hc.2⟩ (w.1.recv C (i := 57) (by decide) pE_6 rfl) rfl (Nat.le_of_ble_eq_true rfl) dl_515) (fun r2 M2 H2 locs2 h w2 hz2 hk2 => ?_)
  replace w := w.on X w2 hz2 hk2
  refine lv_icmp_eq (tgt := 1361) hx hb dl_518 (by decide) (fun c1 => ?_) (fun c1 => absurd h.1 c1)
  exact kk M2 H2 locs2 ls _ _ h.2 w hl (by omega) (by omega)
set_option maxHeartbeats 1000000 in
set_option maxRecDepth 100000 in
theorem lc_11 {p : Program} {l : Launch} {e : Env} {s : State} {m : MethodId} {below : List Frame} {meth : Method} {c : Code} {G : GG} {b L qo : Nat} {xs : Nat → Int32} {cJ : ClassId} (X : LX G p l s m meth c b L xs cJ qo) {Rel : Mem → Prop} {j : Nat} (hj : j + 6 ≤ L) (hL : L ≤ 384) {M : Mem} {H : Heap} {locs : List Loc} {ls : Array Slot} {cells slots : Nat} (w : LW G s M H locs cJ qo) (hl : lv_has ls 8 [(0, .ref b), (1, .ref (ga G 0)), (2, .ref (ga G 57)), (3, .ref qo), (4, .int (nI j))]) (hc : cells + 1 ≤ 600128 ∧ slots + 6 ≤ 7301098) (h : q_X5_stock M (xs (j + 1)) (xs (j + 2)) (fun r M1 => q_X6_stock M1 (xs (j + 1)) (xs (j + 2)) (fun r2 M2 => r = r2 ∧ Rel M2))) (kk : ∀ (M2 : Mem) (H2 : Heap) (locs2 : List Loc) (ls2 : Array Slot) (cells2 slots2 : Nat), Rel M2 → LW G s M2 H2 locs2 cJ qo → lv_has ls2 8 [(0, .ref b), (1, .ref (ga G 0)), (2, .ref (ga G 57)), (3, .ref qo), (4, .int (nI j))] → cells2 ≤ cells + 1 → slots2 ≤ slots + 6 → W p l e room_1 s m #[Value.ref b] below meth c H2 locs2 cells2 slots2 (lw_Z below #[Value.ref b] s) (F0 m 1361 ls2 [])) : W p l e room_1 s m #[Value.ref b] below meth c H locs cells slots (lw_Z below #[Value.ref b] s) (F0 m 523 ls []) := by
  have C := X.1
  have hx := C.1.1
  have hb := C.1.2.1
  refine lv_aload_n hx hb dl_523 rfl (lv_at hl 1 rfl) ?_
  refine lv_aload_n hx hb dl_524 rfl (lv_at hl 0 rfl) ?_
  refine lv_iload hx hb dl_525 (lv_at hl 4 rfl) ?_
  refine lv_iconst (v := 1) hx hb dl_527 (by decide) ?_
  refine lv_iadd hx hb dl_528 ?_
  rw [show nI j + 1 = nI (j + 1) from nI_add j 1]
  refine va_sld hx hb X.2.2.2.1 X.2.2.2.2.1 (X.nb) w.1.2 (nI_in (N := L) (by omega) (by omega)) dl_529 ?_
  rw [nI_clamp (n := j + 1) (by omega)]
  refine lv_aload_n hx hb dl_530 rfl (lv_at hl 0 rfl) ?_
  refine lv_iload hx hb dl_531 (lv_at hl 4 rfl) ?_
  refine lv_iconst (v := 2) hx hb dl_533 (by decide) ?_
  refine lv_iadd hx hb dl_534 ?_
  rw [show nI j + 2 = nI (j + 2) from nI_add j 2]
  refine va_sld hx hb X.2.2.2.1 X.2.2.2.2.1 (X.nb) w.1.2 (nI_in (N := L) (by omega) (by omega)) dl_535 ?_
  rw [nI_clamp (n := j + 2) (by omega)]
  refine eg_i w.1 (rg_V (As := [.int (xs (j + 1)), .int (xs (j + 2))]) (rest := []) C w.1 hl.1 (c_X5_stock l G C.2.2.1 _ _ (xs (j + 1)) (xs (j + 2)) _ h) kl_24_19 kl_1_2 kl_24_16 kl_24_17 kl_24_18 hl_X5_stock ⟨Nat.le_of_ble_eq_true rfl, Nat.le_of_ble_eq_true rfl⟩ ⟨Nat.le_trans (by omega) hc.1, Nat.le_trans (by omega) hc.2⟩ (w.1.recv C (i := 0) (by decide) pE_5 rfl) rfl (Nat.le_of_ble_eq_true rfl) dl_536) (fun r M1 H1 locs1 h w1 hz1 hk1 => ?_)
  replace w := w.on X w1 hz1 hk1
  refine lv_aload_n hx hb dl_539 rfl (lv_at hl 2 rfl) ?_
  refine lv_aload_n hx hb dl_540 rfl (lv_at hl 0 rfl) ?_
  refine lv_iload hx hb dl_541 (lv_at hl 4 rfl) ?_
  refine lv_iconst (v := 1) hx hb dl_543 (by decide) ?_
  refine lv_iadd hx hb dl_544 ?_
  rw [show nI j + 1 = nI (j + 1) from nI_add j 1]
  refine va_sld hx hb X.2.2.2.1 X.2.2.2.2.1 (X.nb) w.1.2 (nI_in (N := L) (by omega) (by omega)) dl_545 ?_
  rw [nI_clamp (n := j + 1) (by omega)]
  refine lv_aload_n hx hb dl_546 rfl (lv_at hl 0 rfl) ?_
  refine lv_iload hx hb dl_547 (lv_at hl 4 rfl) ?_
  refine lv_iconst (v := 2) hx hb dl_549 (by decide) ?_
  refine lv_iadd hx hb dl_550 ?_
  rw [show nI j + 2 = nI (j + 2) from nI_add j 2]
  refine va_sld hx hb X.2.2.2.1 X.2.2.2.2.1 (X.nb) w.1.2 (nI_in (N := L) (by omega) (by omega)) dl_551 ?_
  rw [nI_clamp (n := j + 2) (by omega)]
  refine eg_i w.1 (rg_V (As := [.int (xs (j + 1)), .int (xs (j + 2))]) (rest := [.int r]) C w.1 hl.1 (c_X6_stock l G C.2.2.1 _ _ (xs (j + 1)) (xs (j + 2)) _ h) kl_25_3 kl_1_5 kl_25_0 kl_25_1 kl_25_2 hl_X6_stock ⟨Nat.le_of_ble_eq_true rfl, Nat.le_of_ble_eq_true rfl⟩ ⟨Nat.le_trans (by omega) hc.1, Nat.le_trans (by omega) hc.2⟩ (w.1.recv C (i := 57) (by decide) pE_6 rfl) rfl (Nat.le_of_ble_eq_true rfl) dl_552) (fun r2 M2 H2 locs2 h w2 hz2 hk2 => ?_)
  replace w := w.on X w2 hz2 hk2
  refine lv_icmp_eq (tgt := 1361) hx hb dl_555 (by decide) (fun c1 => ?_) (fun c1 => absurd h.1 c1)
  exact kk M2 H2 locs2 ls _ _ h.2 w hl (by omega) (by omega)
set_option maxHeartbeats 1000000 in
set_option maxRecDepth 100000 in
theorem lc_12 {p : Program} {l : Launch} {e : Env} {s : State} {m : MethodId} {below : List Frame} {meth : Method} {c : Code} {G : GG} {b L qo : Nat} {xs : Nat → Int32} {cJ : ClassId} (X : LX G p l s m meth c b L xs cJ qo) {Rel : Mem → Prop} {j : Nat} (hj : j + 6 ≤ L) (hL : L ≤ 384) {M : Mem} {H : Heap} {locs : List Loc} {ls : Array Slot} {cells slots : Nat} (w : LW G s M H locs cJ qo) (hl : lv_has ls 8 [(0, .ref b), (1, .ref (ga G 0)), (2, .ref (ga G 57)), (3, .ref qo), (4, .int (nI j))]) (hc : cells + 1 ≤ 600128 ∧ slots + 6 ≤ 7301098) (h : q_X5_bridge M (xs (j + 1)) (xs (j + 2)) (fun r M1 => q_X6_bridge M1 (xs (j + 1)) (xs (j + 2)) (fun r2 M2 => r = r2 ∧ Rel M2))) (kk : ∀ (M2 : Mem) (H2 : Heap) (locs2 : List Loc) (ls2 : Array Slot) (cells2 slots2 : Nat), Rel M2 → LW G s M2 H2 locs2 cJ qo → lv_has ls2 8 [(0, .ref b), (1, .ref (ga G 0)), (2, .ref (ga G 57)), (3, .ref qo), (4, .int (nI j))] → cells2 ≤ cells + 1 → slots2 ≤ slots + 6 → W p l e room_1 s m #[Value.ref b] below meth c H2 locs2 cells2 slots2 (lw_Z below #[Value.ref b] s) (F0 m 1361 ls2 [])) : W p l e room_1 s m #[Value.ref b] below meth c H locs cells slots (lw_Z below #[Value.ref b] s) (F0 m 560 ls []) := by
  have C := X.1
  have hx := C.1.1
  have hb := C.1.2.1
  refine lv_aload_n hx hb dl_560 rfl (lv_at hl 1 rfl) ?_
  refine lv_aload_n hx hb dl_561 rfl (lv_at hl 0 rfl) ?_
  refine lv_iload hx hb dl_562 (lv_at hl 4 rfl) ?_
  refine lv_iconst (v := 1) hx hb dl_564 (by decide) ?_
  refine lv_iadd hx hb dl_565 ?_
  rw [show nI j + 1 = nI (j + 1) from nI_add j 1]
  refine va_sld hx hb X.2.2.2.1 X.2.2.2.2.1 (X.nb) w.1.2 (nI_in (N := L) (by omega) (by omega)) dl_566 ?_
  rw [nI_clamp (n := j + 1) (by omega)]
  refine lv_aload_n hx hb dl_567 rfl (lv_at hl 0 rfl) ?_
  refine lv_iload hx hb dl_568 (lv_at hl 4 rfl) ?_
  refine lv_iconst (v := 2) hx hb dl_570 (by decide) ?_
  refine lv_iadd hx hb dl_571 ?_
  rw [show nI j + 2 = nI (j + 2) from nI_add j 2]
  refine va_sld hx hb X.2.2.2.1 X.2.2.2.2.1 (X.nb) w.1.2 (nI_in (N := L) (by omega) (by omega)) dl_572 ?_
  rw [nI_clamp (n := j + 2) (by omega)]
  refine eg_i w.1 (rg_V (As := [.int (xs (j + 1)), .int (xs (j + 2))]) (rest := []) C w.1 hl.1 (c_X5_bridge l G C.2.2.1 _ _ (xs (j + 1)) (xs (j + 2)) _ h) kl_25_8 kl_1_2 kl_25_5 kl_25_6 kl_25_7 hl_X5_bridge ⟨Nat.le_of_ble_eq_true rfl, Nat.le_of_ble_eq_true rfl⟩ ⟨Nat.le_trans (by omega) hc.1, Nat.le_trans (by omega) hc.2⟩ (w.1.recv C (i := 0) (by decide) pE_5 rfl) rfl (Nat.le_of_ble_eq_true rfl) dl_573) (fun r M1 H1 locs1 h w1 hz1 hk1 => ?_)
  replace w := w.on X w1 hz1 hk1
  refine lv_aload_n hx hb dl_576 rfl (lv_at hl 2 rfl) ?_
  refine lv_aload_n hx hb dl_577 rfl (lv_at hl 0 rfl) ?_
  refine lv_iload hx hb dl_578 (lv_at hl 4 rfl) ?_
  refine lv_iconst (v := 1) hx hb dl_580 (by decide) ?_
  refine lv_iadd hx hb dl_581 ?_
  rw [show nI j + 1 = nI (j + 1) from nI_add j 1]
  refine va_sld hx hb X.2.2.2.1 X.2.2.2.2.1 (X.nb) w.1.2 (nI_in (N := L) (by omega) (by omega)) dl_582 ?_
  rw [nI_clamp (n := j + 1) (by omega)]
  refine lv_aload_n hx hb dl_583 rfl (lv_at hl 0 rfl) ?_
  refine lv_iload hx hb dl_584 (lv_at hl 4 rfl) ?_
  refine lv_iconst (v := 2) hx hb dl_586 (by decide) ?_
  refine lv_iadd hx hb dl_587 ?_
  rw [show nI j + 2 = nI (j + 2) from nI_add j 2]
  refine va_sld hx hb X.2.2.2.1 X.2.2.2.2.1 (X.nb) w.1.2 (nI_in (N := L) (by omega) (by omega)) dl_588 ?_
  rw [nI_clamp (n := j + 2) (by omega)]
  refine eg_i w.1 (rg_V (As := [.int (xs (j + 1)), .int (xs (j + 2))]) (rest := [.int r]) C w.1 hl.1 (c_X6_bridge l G C.2.2.1 _ _ (xs (j + 1)) (xs (j + 2)) _ h) kl_25_14 kl_1_5 kl_25_11 kl_25_12 kl_25_13 hl_X6_bridge ⟨Nat.le_of_ble_eq_true rfl, Nat.le_of_ble_eq_true rfl⟩ ⟨Nat.le_trans (by omega) hc.1, Nat.le_trans (by omega) hc.2⟩ (w.1.recv C (i := 57) (by decide) pE_6 rfl) rfl (Nat.le_of_ble_eq_true rfl) dl_589) (fun r2 M2 H2 locs2 h w2 hz2 hk2 => ?_)
  replace w := w.on X w2 hz2 hk2
  refine lv_icmp_eq (tgt := 1361) hx hb dl_592 (by decide) (fun c1 => ?_) (fun c1 => absurd h.1 c1)
  exact kk M2 H2 locs2 ls _ _ h.2 w hl (by omega) (by omega)
set_option maxHeartbeats 1000000 in
set_option maxRecDepth 100000 in
theorem lc_13 {p : Program} {l : Launch} {e : Env} {s : State} {m : MethodId} {below : List Frame} {meth : Method} {c : Code} {G : GG} {b L qo : Nat} {xs : Nat → Int32} {cJ : ClassId} (X : LX G p l s m meth c b L xs cJ qo) {Rel : Mem → Prop} {j : Nat} (hj : j + 6 ≤ L) (hL : L ≤ 384) {M : Mem} {H : Heap} {locs : List Loc} {ls : Array Slot} {cells slots : Nat} (w : LW G s M H locs cJ qo) (hl : lv_has ls 8 [(0, .ref b), (1, .ref (ga G 0)), (2, .ref (ga G 57)), (3, .ref qo), (4, .int (nI j))]) (hc : cells + 1 ≤ 600128 ∧ slots + 6 ≤ 7301098) (h : q_X5_fouls M (fun r M1 => q_X6_fouls M1 (fun r2 M2 => r = r2 ∧ Rel M2))) (kk : ∀ (M2 : Mem) (H2 : Heap) (locs2 : List Loc) (ls2 : Array Slot) (cells2 slots2 : Nat), Rel M2 → LW G s M2 H2 locs2 cJ qo → lv_has ls2 8 [(0, .ref b), (1, .ref (ga G 0)), (2, .ref (ga G 57)), (3, .ref qo), (4, .int (nI j))] → cells2 ≤ cells + 1 → slots2 ≤ slots + 6 → W p l e room_1 s m #[Value.ref b] below meth c H2 locs2 cells2 slots2 (lw_Z below #[Value.ref b] s) (F0 m 1361 ls2 [])) : W p l e room_1 s m #[Value.ref b] below meth c H locs cells slots (lw_Z below #[Value.ref b] s) (F0 m 597 ls []) := by
  have C := X.1
  have hx := C.1.1
  have hb := C.1.2.1
  refine lv_aload_n hx hb dl_597 rfl (lv_at hl 1 rfl) ?_
  refine eg_i w.1 (rg_V (As := []) (rest := []) C w.1 hl.1 (c_X5_fouls l G C.2.2.1 _ _ _ h) kl_25_20 kl_1_2 kl_25_17 kl_25_18 kl_25_19 hl_X5_fouls ⟨Nat.le_of_ble_eq_true rfl, Nat.le_of_ble_eq_true rfl⟩ ⟨Nat.le_trans (by omega) hc.1, Nat.le_trans (by omega) hc.2⟩ (w.1.recv C (i := 0) (by decide) pE_5 rfl) rfl (Nat.le_of_ble_eq_true rfl) dl_598) (fun r M1 H1 locs1 h w1 hz1 hk1 => ?_)
  replace w := w.on X w1 hz1 hk1
  refine lv_aload_n hx hb dl_601 rfl (lv_at hl 2 rfl) ?_
  refine eg_i w.1 (rg_V (As := []) (rest := [.int r]) C w.1 hl.1 (c_X6_fouls l G C.2.2.1 _ _ _ h) kl_26_0 kl_1_5 kl_25_21 kl_25_22 kl_25_23 hl_X6_fouls ⟨Nat.le_of_ble_eq_true rfl, Nat.le_of_ble_eq_true rfl⟩ ⟨Nat.le_trans (by omega) hc.1, Nat.le_trans (by omega) hc.2⟩ (w.1.recv C (i := 57) (by decide) pE_6 rfl) rfl (Nat.le_of_ble_eq_true rfl) dl_602) (fun r2 M2 H2 locs2 h w2 hz2 hk2 => ?_)
  replace w := w.on X w2 hz2 hk2
  refine lv_icmp_eq (tgt := 1361) hx hb dl_605 (by decide) (fun c1 => ?_) (fun c1 => absurd h.1 c1)
  exact kk M2 H2 locs2 ls _ _ h.2 w hl (by omega) (by omega)
set_option maxHeartbeats 1000000 in
set_option maxRecDepth 100000 in
theorem lc_14 {p : Program} {l : Launch} {e : Env} {s : State} {m : MethodId} {below : List Frame} {meth : Method} {c : Code} {G : GG} {b L qo : Nat} {xs : Nat → Int32} {cJ : ClassId} (X : LX G p l s m meth c b L xs cJ qo) {Rel : Mem → Prop} {j : Nat} (hj : j + 6 ≤ L) (hL : L ≤ 384) {M : Mem} {H : Heap} {locs : List Loc} {ls : Array Slot} {cells slots : Nat} (w : LW G s M H locs cJ qo) (hl : lv_has ls 8 [(0, .ref b), (1, .ref (ga G 0)), (2, .ref (ga G 57)), (3, .ref qo), (4, .int (nI j))]) (hc : cells + 1 ≤ 600128 ∧ slots + 6 ≤ 7301098) (h : q_X5_takeIn M (fun r M1 => q_X6_takeIn M1 (fun r2 M2 => r = r2 ∧ Rel M2))) (kk : ∀ (M2 : Mem) (H2 : Heap) (locs2 : List Loc) (ls2 : Array Slot) (cells2 slots2 : Nat), Rel M2 → LW G s M2 H2 locs2 cJ qo → lv_has ls2 8 [(0, .ref b), (1, .ref (ga G 0)), (2, .ref (ga G 57)), (3, .ref qo), (4, .int (nI j))] → cells2 ≤ cells + 1 → slots2 ≤ slots + 6 → W p l e room_1 s m #[Value.ref b] below meth c H2 locs2 cells2 slots2 (lw_Z below #[Value.ref b] s) (F0 m 1361 ls2 [])) : W p l e room_1 s m #[Value.ref b] below meth c H locs cells slots (lw_Z below #[Value.ref b] s) (F0 m 610 ls []) := by
  have C := X.1
  have hx := C.1.1
  have hb := C.1.2.1
  refine lv_aload_n hx hb dl_610 rfl (lv_at hl 1 rfl) ?_
  refine eg_i w.1 (rg_V (As := []) (rest := []) C w.1 hl.1 (c_X5_takeIn l G C.2.2.1 _ _ _ h) kl_26_8 kl_1_2 kl_26_5 kl_26_6 kl_26_7 hl_X5_takeIn ⟨Nat.le_of_ble_eq_true rfl, Nat.le_of_ble_eq_true rfl⟩ ⟨Nat.le_trans (by omega) hc.1, Nat.le_trans (by omega) hc.2⟩ (w.1.recv C (i := 0) (by decide) pE_5 rfl) rfl (Nat.le_of_ble_eq_true rfl) dl_611) (fun r M1 H1 locs1 h w1 hz1 hk1 => ?_)
  replace w := w.on X w1 hz1 hk1
  refine lv_aload_n hx hb dl_614 rfl (lv_at hl 2 rfl) ?_
  refine eg_i w.1 (rg_V (As := []) (rest := [.int r]) C w.1 hl.1 (c_X6_takeIn l G C.2.2.1 _ _ _ h) kl_26_16 kl_1_5 kl_26_13 kl_26_14 kl_26_15 hl_X6_takeIn ⟨Nat.le_of_ble_eq_true rfl, Nat.le_of_ble_eq_true rfl⟩ ⟨Nat.le_trans (by omega) hc.1, Nat.le_trans (by omega) hc.2⟩ (w.1.recv C (i := 57) (by decide) pE_6 rfl) rfl (Nat.le_of_ble_eq_true rfl) dl_615) (fun r2 M2 H2 locs2 h w2 hz2 hk2 => ?_)
  replace w := w.on X w2 hz2 hk2
  refine lv_icmp_eq (tgt := 1361) hx hb dl_618 (by decide) (fun c1 => ?_) (fun c1 => absurd h.1 c1)
  exact kk M2 H2 locs2 ls _ _ h.2 w hl (by omega) (by omega)
set_option maxHeartbeats 1000000 in
set_option maxRecDepth 100000 in
theorem lc_15 {p : Program} {l : Launch} {e : Env} {s : State} {m : MethodId} {below : List Frame} {meth : Method} {c : Code} {G : GG} {b L qo : Nat} {xs : Nat → Int32} {cJ : ClassId} (X : LX G p l s m meth c b L xs cJ qo) {Rel : Mem → Prop} {j : Nat} (hj : j + 6 ≤ L) (hL : L ≤ 384) {M : Mem} {H : Heap} {locs : List Loc} {ls : Array Slot} {cells slots : Nat} (w : LW G s M H locs cJ qo) (hl : lv_has ls 8 [(0, .ref b), (1, .ref (ga G 0)), (2, .ref (ga G 57)), (3, .ref qo), (4, .int (nI j))]) (hc : cells + 1 ≤ 600128 ∧ slots + 6 ≤ 7301098) (h : q_X5_shallowest M (fun r M1 => q_X6_shallowest M1 (fun r2 M2 => r = r2 ∧ Rel M2))) (kk : ∀ (M2 : Mem) (H2 : Heap) (locs2 : List Loc) (ls2 : Array Slot) (cells2 slots2 : Nat), Rel M2 → LW G s M2 H2 locs2 cJ qo → lv_has ls2 8 [(0, .ref b), (1, .ref (ga G 0)), (2, .ref (ga G 57)), (3, .ref qo), (4, .int (nI j))] → cells2 ≤ cells + 1 → slots2 ≤ slots + 6 → W p l e room_1 s m #[Value.ref b] below meth c H2 locs2 cells2 slots2 (lw_Z below #[Value.ref b] s) (F0 m 1361 ls2 [])) : W p l e room_1 s m #[Value.ref b] below meth c H locs cells slots (lw_Z below #[Value.ref b] s) (F0 m 623 ls []) := by
  have C := X.1
  have hx := C.1.1
  have hb := C.1.2.1
  refine lv_aload_n hx hb dl_623 rfl (lv_at hl 1 rfl) ?_
  refine eg_i w.1 (rg_V (As := []) (rest := []) C w.1 hl.1 (c_X5_shallowest l G C.2.2.1 _ _ _ h) kl_26_20 kl_1_2 kl_26_17 kl_26_18 kl_26_19 hl_X5_shallowest ⟨Nat.le_of_ble_eq_true rfl, Nat.le_of_ble_eq_true rfl⟩ ⟨Nat.le_trans (by omega) hc.1, Nat.le_trans (by omega) hc.2⟩ (w.1.recv C (i := 0) (by decide) pE_5 rfl) rfl (Nat.le_of_ble_eq_true rfl) dl_624) (fun r M1 H1 locs1 h w1 hz1 hk1 => ?_)
  replace w := w.on X w1 hz1 hk1
  refine lv_aload_n hx hb dl_627 rfl (lv_at hl 2 rfl) ?_
  refine eg_i w.1 (rg_V (As := []) (rest := [.int r]) C w.1 hl.1 (c_X6_shallowest l G C.2.2.1 _ _ _ h) kl_27_2 kl_1_5 kl_26_23 kl_27_0 kl_27_1 hl_X6_shallowest ⟨Nat.le_of_ble_eq_true rfl, Nat.le_of_ble_eq_true rfl⟩ ⟨Nat.le_trans (by omega) hc.1, Nat.le_trans (by omega) hc.2⟩ (w.1.recv C (i := 57) (by decide) pE_6 rfl) rfl (Nat.le_of_ble_eq_true rfl) dl_628) (fun r2 M2 H2 locs2 h w2 hz2 hk2 => ?_)
  replace w := w.on X w2 hz2 hk2
  refine lv_icmp_eq (tgt := 1361) hx hb dl_631 (by decide) (fun c1 => ?_) (fun c1 => absurd h.1 c1)
  exact kk M2 H2 locs2 ls _ _ h.2 w hl (by omega) (by omega)
set_option maxHeartbeats 1000000 in
set_option maxRecDepth 100000 in
theorem lc_16 {p : Program} {l : Launch} {e : Env} {s : State} {m : MethodId} {below : List Frame} {meth : Method} {c : Code} {G : GG} {b L qo : Nat} {xs : Nat → Int32} {cJ : ClassId} (X : LX G p l s m meth c b L xs cJ qo) {Rel : Mem → Prop} {j : Nat} (hj : j + 6 ≤ L) (hL : L ≤ 384) {M : Mem} {H : Heap} {locs : List Loc} {ls : Array Slot} {cells slots : Nat} (w : LW G s M H locs cJ qo) (hl : lv_has ls 8 [(0, .ref b), (1, .ref (ga G 0)), (2, .ref (ga G 57)), (3, .ref qo), (4, .int (nI j))]) (hc : cells + 1 ≤ 600128 ∧ slots + 6 ≤ 7301098) (h : q_X5_odds M (xs (j + 1)) (xs (j + 2)) (fun r M1 => q_X6_odds M1 (xs (j + 1)) (xs (j + 2)) (fun r2 M2 => r = r2 ∧ Rel M2))) (kk : ∀ (M2 : Mem) (H2 : Heap) (locs2 : List Loc) (ls2 : Array Slot) (cells2 slots2 : Nat), Rel M2 → LW G s M2 H2 locs2 cJ qo → lv_has ls2 8 [(0, .ref b), (1, .ref (ga G 0)), (2, .ref (ga G 57)), (3, .ref qo), (4, .int (nI j))] → cells2 ≤ cells + 1 → slots2 ≤ slots + 6 → W p l e room_1 s m #[Value.ref b] below meth c H2 locs2 cells2 slots2 (lw_Z below #[Value.ref b] s) (F0 m 1361 ls2 [])) : W p l e room_1 s m #[Value.ref b] below meth c H locs cells slots (lw_Z below #[Value.ref b] s) (F0 m 636 ls []) := by
  have C := X.1
  have hx := C.1.1
  have hb := C.1.2.1
  refine lv_aload_n hx hb dl_636 rfl (lv_at hl 1 rfl) ?_
  refine lv_aload_n hx hb dl_637 rfl (lv_at hl 0 rfl) ?_
  refine lv_iload hx hb dl_638 (lv_at hl 4 rfl) ?_
  refine lv_iconst (v := 1) hx hb dl_640 (by decide) ?_
  refine lv_iadd hx hb dl_641 ?_
  rw [show nI j + 1 = nI (j + 1) from nI_add j 1]
  refine va_sld hx hb X.2.2.2.1 X.2.2.2.2.1 (X.nb) w.1.2 (nI_in (N := L) (by omega) (by omega)) dl_642 ?_
  rw [nI_clamp (n := j + 1) (by omega)]
  refine lv_aload_n hx hb dl_643 rfl (lv_at hl 0 rfl) ?_
  refine lv_iload hx hb dl_644 (lv_at hl 4 rfl) ?_
  refine lv_iconst (v := 2) hx hb dl_646 (by decide) ?_
  refine lv_iadd hx hb dl_647 ?_
  rw [show nI j + 2 = nI (j + 2) from nI_add j 2]
  refine va_sld hx hb X.2.2.2.1 X.2.2.2.2.1 (X.nb) w.1.2 (nI_in (N := L) (by omega) (by omega)) dl_648 ?_
  rw [nI_clamp (n := j + 2) (by omega)]
  refine eg_i w.1 (rg_V (As := [.int (xs (j + 1)), .int (xs (j + 2))]) (rest := []) C w.1 hl.1 (c_X5_odds l G C.2.2.1 _ _ (xs (j + 1)) (xs (j + 2)) _ h) kl_27_6 kl_1_2 kl_27_3 kl_27_4 kl_27_5 hl_X5_odds ⟨Nat.le_of_ble_eq_true rfl, Nat.le_of_ble_eq_true rfl⟩ ⟨Nat.le_trans (by omega) hc.1, Nat.le_trans (by omega) hc.2⟩ (w.1.recv C (i := 0) (by decide) pE_5 rfl) rfl (Nat.le_of_ble_eq_true rfl) dl_649) (fun r M1 H1 locs1 h w1 hz1 hk1 => ?_)
  replace w := w.on X w1 hz1 hk1
  refine lv_aload_n hx hb dl_652 rfl (lv_at hl 2 rfl) ?_
  refine lv_aload_n hx hb dl_653 rfl (lv_at hl 0 rfl) ?_
  refine lv_iload hx hb dl_654 (lv_at hl 4 rfl) ?_
  refine lv_iconst (v := 1) hx hb dl_656 (by decide) ?_
  refine lv_iadd hx hb dl_657 ?_
  rw [show nI j + 1 = nI (j + 1) from nI_add j 1]
  refine va_sld hx hb X.2.2.2.1 X.2.2.2.2.1 (X.nb) w.1.2 (nI_in (N := L) (by omega) (by omega)) dl_658 ?_
  rw [nI_clamp (n := j + 1) (by omega)]
  refine lv_aload_n hx hb dl_659 rfl (lv_at hl 0 rfl) ?_
  refine lv_iload hx hb dl_660 (lv_at hl 4 rfl) ?_
  refine lv_iconst (v := 2) hx hb dl_662 (by decide) ?_
  refine lv_iadd hx hb dl_663 ?_
  rw [show nI j + 2 = nI (j + 2) from nI_add j 2]
  refine va_sld hx hb X.2.2.2.1 X.2.2.2.2.1 (X.nb) w.1.2 (nI_in (N := L) (by omega) (by omega)) dl_664 ?_
  rw [nI_clamp (n := j + 2) (by omega)]
  refine eg_i w.1 (rg_V (As := [.int (xs (j + 1)), .int (xs (j + 2))]) (rest := [.int r]) C w.1 hl.1 (c_X6_odds l G C.2.2.1 _ _ (xs (j + 1)) (xs (j + 2)) _ h) kl_27_21 kl_1_5 kl_27_18 kl_27_19 kl_27_20 hl_X6_odds ⟨Nat.le_of_ble_eq_true rfl, Nat.le_of_ble_eq_true rfl⟩ ⟨Nat.le_trans (by omega) hc.1, Nat.le_trans (by omega) hc.2⟩ (w.1.recv C (i := 57) (by decide) pE_6 rfl) rfl (Nat.le_of_ble_eq_true rfl) dl_665) (fun r2 M2 H2 locs2 h w2 hz2 hk2 => ?_)
  replace w := w.on X w2 hz2 hk2
  refine lv_icmp_eq (tgt := 1361) hx hb dl_668 (by decide) (fun c1 => ?_) (fun c1 => absurd h.1 c1)
  exact kk M2 H2 locs2 ls _ _ h.2 w hl (by omega) (by omega)
set_option maxHeartbeats 1000000 in
set_option maxRecDepth 100000 in
theorem lc_17 {p : Program} {l : Launch} {e : Env} {s : State} {m : MethodId} {below : List Frame} {meth : Method} {c : Code} {G : GG} {b L qo : Nat} {xs : Nat → Int32} {cJ : ClassId} (X : LX G p l s m meth c b L xs cJ qo) {Rel : Mem → Prop} {j : Nat} (hj : j + 6 ≤ L) (hL : L ≤ 384) {M : Mem} {H : Heap} {locs : List Loc} {ls : Array Slot} {cells slots : Nat} (w : LW G s M H locs cJ qo) (hl : lv_has ls 8 [(0, .ref b), (1, .ref (ga G 0)), (2, .ref (ga G 57)), (3, .ref qo), (4, .int (nI j))]) (hc : cells + 1 ≤ 600128 ∧ slots + 6 ≤ 7301098) (h : q_X5_yaw M (xs (j + 1)) (fun r M1 => q_X6_yaw M1 (xs (j + 1)) (fun r2 M2 => r = r2 ∧ Rel M2))) (kk : ∀ (M2 : Mem) (H2 : Heap) (locs2 : List Loc) (ls2 : Array Slot) (cells2 slots2 : Nat), Rel M2 → LW G s M2 H2 locs2 cJ qo → lv_has ls2 8 [(0, .ref b), (1, .ref (ga G 0)), (2, .ref (ga G 57)), (3, .ref qo), (4, .int (nI j))] → cells2 ≤ cells + 1 → slots2 ≤ slots + 6 → W p l e room_1 s m #[Value.ref b] below meth c H2 locs2 cells2 slots2 (lw_Z below #[Value.ref b] s) (F0 m 1361 ls2 [])) : W p l e room_1 s m #[Value.ref b] below meth c H locs cells slots (lw_Z below #[Value.ref b] s) (F0 m 673 ls []) := by
  have C := X.1
  have hx := C.1.1
  have hb := C.1.2.1
  refine lv_aload_n hx hb dl_673 rfl (lv_at hl 1 rfl) ?_
  refine lv_aload_n hx hb dl_674 rfl (lv_at hl 0 rfl) ?_
  refine lv_iload hx hb dl_675 (lv_at hl 4 rfl) ?_
  refine lv_iconst (v := 1) hx hb dl_677 (by decide) ?_
  refine lv_iadd hx hb dl_678 ?_
  rw [show nI j + 1 = nI (j + 1) from nI_add j 1]
  refine va_sld hx hb X.2.2.2.1 X.2.2.2.2.1 (X.nb) w.1.2 (nI_in (N := L) (by omega) (by omega)) dl_679 ?_
  rw [nI_clamp (n := j + 1) (by omega)]
  refine eg_i w.1 (rg_V (As := [.int (xs (j + 1))]) (rest := []) C w.1 hl.1 (c_X5_yaw l G C.2.2.1 _ _ (xs (j + 1)) _ h) kl_28_5 kl_1_2 kl_28_2 kl_28_3 kl_28_4 hl_X5_yaw ⟨Nat.le_of_ble_eq_true rfl, Nat.le_of_ble_eq_true rfl⟩ ⟨Nat.le_trans (by omega) hc.1, Nat.le_trans (by omega) hc.2⟩ (w.1.recv C (i := 0) (by decide) pE_5 rfl) rfl (Nat.le_of_ble_eq_true rfl) dl_680) (fun r M1 H1 locs1 h w1 hz1 hk1 => ?_)
  replace w := w.on X w1 hz1 hk1
  refine lv_aload_n hx hb dl_683 rfl (lv_at hl 2 rfl) ?_
  refine lv_aload_n hx hb dl_684 rfl (lv_at hl 0 rfl) ?_
  refine lv_iload hx hb dl_685 (lv_at hl 4 rfl) ?_
  refine lv_iconst (v := 1) hx hb dl_687 (by decide) ?_
  refine lv_iadd hx hb dl_688 ?_
  rw [show nI j + 1 = nI (j + 1) from nI_add j 1]
  refine va_sld hx hb X.2.2.2.1 X.2.2.2.2.1 (X.nb) w.1.2 (nI_in (N := L) (by omega) (by omega)) dl_689 ?_
  rw [nI_clamp (n := j + 1) (by omega)]
  refine eg_i w.1 (rg_V (As := [.int (xs (j + 1))]) (rest := [.int r]) C w.1 hl.1 (c_X6_yaw l G C.2.2.1 _ _ (xs (j + 1)) _ h) kl_28_9 kl_1_5 kl_28_6 kl_28_7 kl_28_8 hl_X6_yaw ⟨Nat.le_of_ble_eq_true rfl, Nat.le_of_ble_eq_true rfl⟩ ⟨Nat.le_trans (by omega) hc.1, Nat.le_trans (by omega) hc.2⟩ (w.1.recv C (i := 57) (by decide) pE_6 rfl) rfl (Nat.le_of_ble_eq_true rfl) dl_690) (fun r2 M2 H2 locs2 h w2 hz2 hk2 => ?_)
  replace w := w.on X w2 hz2 hk2
  refine lv_icmp_eq (tgt := 1361) hx hb dl_693 (by decide) (fun c1 => ?_) (fun c1 => absurd h.1 c1)
  exact kk M2 H2 locs2 ls _ _ h.2 w hl (by omega) (by omega)
set_option maxHeartbeats 1000000 in
set_option maxRecDepth 100000 in
theorem lc_18 {p : Program} {l : Launch} {e : Env} {s : State} {m : MethodId} {below : List Frame} {meth : Method} {c : Code} {G : GG} {b L qo : Nat} {xs : Nat → Int32} {cJ : ClassId} (X : LX G p l s m meth c b L xs cJ qo) {Rel : Mem → Prop} {j : Nat} (hj : j + 6 ≤ L) (hL : L ≤ 384) {M : Mem} {H : Heap} {locs : List Loc} {ls : Array Slot} {cells slots : Nat} (w : LW G s M H locs cJ qo) (hl : lv_has ls 8 [(0, .ref b), (1, .ref (ga G 0)), (2, .ref (ga G 57)), (3, .ref qo), (4, .int (nI j))]) (hc : cells + 1 ≤ 600128 ∧ slots + 6 ≤ 7301098) (h : q_X5_yaws M (xs (j + 1)) (fun r M1 => q_X6_yaws M1 (xs (j + 1)) (fun r2 M2 => r = r2 ∧ Rel M2))) (kk : ∀ (M2 : Mem) (H2 : Heap) (locs2 : List Loc) (ls2 : Array Slot) (cells2 slots2 : Nat), Rel M2 → LW G s M2 H2 locs2 cJ qo → lv_has ls2 8 [(0, .ref b), (1, .ref (ga G 0)), (2, .ref (ga G 57)), (3, .ref qo), (4, .int (nI j))] → cells2 ≤ cells + 1 → slots2 ≤ slots + 6 → W p l e room_1 s m #[Value.ref b] below meth c H2 locs2 cells2 slots2 (lw_Z below #[Value.ref b] s) (F0 m 1361 ls2 [])) : W p l e room_1 s m #[Value.ref b] below meth c H locs cells slots (lw_Z below #[Value.ref b] s) (F0 m 698 ls []) := by
  have C := X.1
  have hx := C.1.1
  have hb := C.1.2.1
  refine lv_aload_n hx hb dl_698 rfl (lv_at hl 1 rfl) ?_
  refine lv_aload_n hx hb dl_699 rfl (lv_at hl 0 rfl) ?_
  refine lv_iload hx hb dl_700 (lv_at hl 4 rfl) ?_
  refine lv_iconst (v := 1) hx hb dl_702 (by decide) ?_
  refine lv_iadd hx hb dl_703 ?_
  rw [show nI j + 1 = nI (j + 1) from nI_add j 1]
  refine va_sld hx hb X.2.2.2.1 X.2.2.2.2.1 (X.nb) w.1.2 (nI_in (N := L) (by omega) (by omega)) dl_704 ?_
  rw [nI_clamp (n := j + 1) (by omega)]
  refine eg_i w.1 (rg_V (As := [.int (xs (j + 1))]) (rest := []) C w.1 hl.1 (c_X5_yaws l G C.2.2.1 _ _ (xs (j + 1)) _ h) kl_28_13 kl_1_2 kl_28_10 kl_28_11 kl_28_12 hl_X5_yaws ⟨Nat.le_of_ble_eq_true rfl, Nat.le_of_ble_eq_true rfl⟩ ⟨Nat.le_trans (by omega) hc.1, Nat.le_trans (by omega) hc.2⟩ (w.1.recv C (i := 0) (by decide) pE_5 rfl) rfl (Nat.le_of_ble_eq_true rfl) dl_705) (fun r M1 H1 locs1 h w1 hz1 hk1 => ?_)
  replace w := w.on X w1 hz1 hk1
  refine lv_aload_n hx hb dl_708 rfl (lv_at hl 2 rfl) ?_
  refine lv_aload_n hx hb dl_709 rfl (lv_at hl 0 rfl) ?_
  refine lv_iload hx hb dl_710 (lv_at hl 4 rfl) ?_
  refine lv_iconst (v := 1) hx hb dl_712 (by decide) ?_
  refine lv_iadd hx hb dl_713 ?_
  rw [show nI j + 1 = nI (j + 1) from nI_add j 1]
  refine va_sld hx hb X.2.2.2.1 X.2.2.2.2.1 (X.nb) w.1.2 (nI_in (N := L) (by omega) (by omega)) dl_714 ?_
  rw [nI_clamp (n := j + 1) (by omega)]
  refine eg_i w.1 (rg_V (As := [.int (xs (j + 1))]) (rest := [.int r]) C w.1 hl.1 (c_X6_yaws l G C.2.2.1 _ _ (xs (j + 1)) _ h) kl_29_2 kl_1_5 kl_28_23 kl_29_0 kl_29_1 hl_X6_yaws ⟨Nat.le_of_ble_eq_true rfl, Nat.le_of_ble_eq_true rfl⟩ ⟨Nat.le_trans (by omega) hc.1, Nat.le_trans (by omega) hc.2⟩ (w.1.recv C (i := 57) (by decide) pE_6 rfl) rfl (Nat.le_of_ble_eq_true rfl) dl_715) (fun r2 M2 H2 locs2 h w2 hz2 hk2 => ?_)
  replace w := w.on X w2 hz2 hk2
  refine lv_icmp_eq (tgt := 1361) hx hb dl_718 (by decide) (fun c1 => ?_) (fun c1 => absurd h.1 c1)
  exact kk M2 H2 locs2 ls _ _ h.2 w hl (by omega) (by omega)
set_option maxHeartbeats 1000000 in
set_option maxRecDepth 100000 in
theorem lc_19 {p : Program} {l : Launch} {e : Env} {s : State} {m : MethodId} {below : List Frame} {meth : Method} {c : Code} {G : GG} {b L qo : Nat} {xs : Nat → Int32} {cJ : ClassId} (X : LX G p l s m meth c b L xs cJ qo) {Rel : Mem → Prop} {j : Nat} (hj : j + 6 ≤ L) (hL : L ≤ 384) {M : Mem} {H : Heap} {locs : List Loc} {ls : Array Slot} {cells slots : Nat} (w : LW G s M H locs cJ qo) (hl : lv_has ls 8 [(0, .ref b), (1, .ref (ga G 0)), (2, .ref (ga G 57)), (3, .ref qo), (4, .int (nI j))]) (hc : cells + 1 ≤ 600128 ∧ slots + 6 ≤ 7301098) (h : q_X5_swings M (xs (j + 1)) (xs (j + 2)) (fun r M1 => q_X6_swings M1 (xs (j + 1)) (xs (j + 2)) (fun r2 M2 => r = r2 ∧ Rel M2))) (kk : ∀ (M2 : Mem) (H2 : Heap) (locs2 : List Loc) (ls2 : Array Slot) (cells2 slots2 : Nat), Rel M2 → LW G s M2 H2 locs2 cJ qo → lv_has ls2 8 [(0, .ref b), (1, .ref (ga G 0)), (2, .ref (ga G 57)), (3, .ref qo), (4, .int (nI j))] → cells2 ≤ cells + 1 → slots2 ≤ slots + 6 → W p l e room_1 s m #[Value.ref b] below meth c H2 locs2 cells2 slots2 (lw_Z below #[Value.ref b] s) (F0 m 1361 ls2 [])) : W p l e room_1 s m #[Value.ref b] below meth c H locs cells slots (lw_Z below #[Value.ref b] s) (F0 m 723 ls []) := by
  have C := X.1
  have hx := C.1.1
  have hb := C.1.2.1
  refine lv_aload_n hx hb dl_723 rfl (lv_at hl 1 rfl) ?_
  refine lv_aload_n hx hb dl_724 rfl (lv_at hl 0 rfl) ?_
  refine lv_iload hx hb dl_725 (lv_at hl 4 rfl) ?_
  refine lv_iconst (v := 1) hx hb dl_727 (by decide) ?_
  refine lv_iadd hx hb dl_728 ?_
  rw [show nI j + 1 = nI (j + 1) from nI_add j 1]
  refine va_sld hx hb X.2.2.2.1 X.2.2.2.2.1 (X.nb) w.1.2 (nI_in (N := L) (by omega) (by omega)) dl_729 ?_
  rw [nI_clamp (n := j + 1) (by omega)]
  refine lv_aload_n hx hb dl_730 rfl (lv_at hl 0 rfl) ?_
  refine lv_iload hx hb dl_731 (lv_at hl 4 rfl) ?_
  refine lv_iconst (v := 2) hx hb dl_733 (by decide) ?_
  refine lv_iadd hx hb dl_734 ?_
  rw [show nI j + 2 = nI (j + 2) from nI_add j 2]
  refine va_sld hx hb X.2.2.2.1 X.2.2.2.2.1 (X.nb) w.1.2 (nI_in (N := L) (by omega) (by omega)) dl_735 ?_
  rw [nI_clamp (n := j + 2) (by omega)]
  refine eg_i w.1 (rg_V (As := [.int (xs (j + 1)), .int (xs (j + 2))]) (rest := []) C w.1 hl.1 (c_X5_swings l G C.2.2.1 _ _ (xs (j + 1)) (xs (j + 2)) _ h) kl_29_13 kl_1_2 kl_29_10 kl_29_11 kl_29_12 hl_X5_swings ⟨Nat.le_of_ble_eq_true rfl, Nat.le_of_ble_eq_true rfl⟩ ⟨Nat.le_trans (by omega) hc.1, Nat.le_trans (by omega) hc.2⟩ (w.1.recv C (i := 0) (by decide) pE_5 rfl) rfl (Nat.le_of_ble_eq_true rfl) dl_736) (fun r M1 H1 locs1 h w1 hz1 hk1 => ?_)
  replace w := w.on X w1 hz1 hk1
  refine lv_aload_n hx hb dl_739 rfl (lv_at hl 2 rfl) ?_
  refine lv_aload_n hx hb dl_740 rfl (lv_at hl 0 rfl) ?_
  refine lv_iload hx hb dl_741 (lv_at hl 4 rfl) ?_
  refine lv_iconst (v := 1) hx hb dl_743 (by decide) ?_
  refine lv_iadd hx hb dl_744 ?_
  rw [show nI j + 1 = nI (j + 1) from nI_add j 1]
  refine va_sld hx hb X.2.2.2.1 X.2.2.2.2.1 (X.nb) w.1.2 (nI_in (N := L) (by omega) (by omega)) dl_745 ?_
  rw [nI_clamp (n := j + 1) (by omega)]
  refine lv_aload_n hx hb dl_746 rfl (lv_at hl 0 rfl) ?_
  refine lv_iload hx hb dl_747 (lv_at hl 4 rfl) ?_
  refine lv_iconst (v := 2) hx hb dl_749 (by decide) ?_
  refine lv_iadd hx hb dl_750 ?_
  rw [show nI j + 2 = nI (j + 2) from nI_add j 2]
  refine va_sld hx hb X.2.2.2.1 X.2.2.2.2.1 (X.nb) w.1.2 (nI_in (N := L) (by omega) (by omega)) dl_751 ?_
  rw [nI_clamp (n := j + 2) (by omega)]
  refine eg_i w.1 (rg_V (As := [.int (xs (j + 1)), .int (xs (j + 2))]) (rest := [.int r]) C w.1 hl.1 (c_X6_swings l G C.2.2.1 _ _ (xs (j + 1)) (xs (j + 2)) _ h) kl_29_17 kl_1_5 kl_29_14 kl_29_15 kl_29_16 hl_X6_swings ⟨Nat.le_of_ble_eq_true rfl, Nat.le_of_ble_eq_true rfl⟩ ⟨Nat.le_trans (by omega) hc.1, Nat.le_trans (by omega) hc.2⟩ (w.1.recv C (i := 57) (by decide) pE_6 rfl) rfl (Nat.le_of_ble_eq_true rfl) dl_752) (fun r2 M2 H2 locs2 h w2 hz2 hk2 => ?_)
  replace w := w.on X w2 hz2 hk2
  refine lv_icmp_eq (tgt := 1361) hx hb dl_755 (by decide) (fun c1 => ?_) (fun c1 => absurd h.1 c1)
  exact kk M2 H2 locs2 ls _ _ h.2 w hl (by omega) (by omega)
set_option maxHeartbeats 1000000 in
set_option maxRecDepth 100000 in
theorem lc_20 {p : Program} {l : Launch} {e : Env} {s : State} {m : MethodId} {below : List Frame} {meth : Method} {c : Code} {G : GG} {b L qo : Nat} {xs : Nat → Int32} {cJ : ClassId} (X : LX G p l s m meth c b L xs cJ qo) {Rel : Mem → Prop} {j : Nat} (hj : j + 6 ≤ L) (hL : L ≤ 384) {M : Mem} {H : Heap} {locs : List Loc} {ls : Array Slot} {cells slots : Nat} (w : LW G s M H locs cJ qo) (hl : lv_has ls 8 [(0, .ref b), (1, .ref (ga G 0)), (2, .ref (ga G 57)), (3, .ref qo), (4, .int (nI j))]) (hc : cells + 1 ≤ 600128 ∧ slots + 6 ≤ 7301098) (h : q_X5_grows M (fun r M1 => q_X6_grows M1 (fun r2 M2 => r = r2 ∧ Rel M2))) (kk : ∀ (M2 : Mem) (H2 : Heap) (locs2 : List Loc) (ls2 : Array Slot) (cells2 slots2 : Nat), Rel M2 → LW G s M2 H2 locs2 cJ qo → lv_has ls2 8 [(0, .ref b), (1, .ref (ga G 0)), (2, .ref (ga G 57)), (3, .ref qo), (4, .int (nI j))] → cells2 ≤ cells + 1 → slots2 ≤ slots + 6 → W p l e room_1 s m #[Value.ref b] below meth c H2 locs2 cells2 slots2 (lw_Z below #[Value.ref b] s) (F0 m 1361 ls2 [])) : W p l e room_1 s m #[Value.ref b] below meth c H locs cells slots (lw_Z below #[Value.ref b] s) (F0 m 760 ls []) := by
  have C := X.1
  have hx := C.1.1
  have hb := C.1.2.1
  refine lv_aload_n hx hb dl_760 rfl (lv_at hl 1 rfl) ?_
  refine eg_i w.1 (rg_V (As := []) (rest := []) C w.1 hl.1 (c_X5_grows l G C.2.2.1 _ _ _ h) kl_29_21 kl_1_2 kl_29_18 kl_29_19 kl_29_20 hl_X5_grows ⟨Nat.le_of_ble_eq_true rfl, Nat.le_of_ble_eq_true rfl⟩ ⟨Nat.le_trans (by omega) hc.1, Nat.le_trans (by omega) hc.2⟩ (w.1.recv C (i := 0) (by decide) pE_5 rfl) rfl (Nat.le_of_ble_eq_true rfl) dl_761) (fun r M1 H1 locs1 h w1 hz1 hk1 => ?_)
  replace w := w.on X w1 hz1 hk1
  refine lv_aload_n hx hb dl_764 rfl (lv_at hl 2 rfl) ?_
  refine eg_i w.1 (rg_V (As := []) (rest := [.int r]) C w.1 hl.1 (c_X6_grows l G C.2.2.1 _ _ _ h) kl_30_5 kl_1_5 kl_30_2 kl_30_3 kl_30_4 hl_X6_grows ⟨Nat.le_of_ble_eq_true rfl, Nat.le_of_ble_eq_true rfl⟩ ⟨Nat.le_trans (by omega) hc.1, Nat.le_trans (by omega) hc.2⟩ (w.1.recv C (i := 57) (by decide) pE_6 rfl) rfl (Nat.le_of_ble_eq_true rfl) dl_765) (fun r2 M2 H2 locs2 h w2 hz2 hk2 => ?_)
  replace w := w.on X w2 hz2 hk2
  refine lv_icmp_eq (tgt := 1361) hx hb dl_768 (by decide) (fun c1 => ?_) (fun c1 => absurd h.1 c1)
  exact kk M2 H2 locs2 ls _ _ h.2 w hl (by omega) (by omega)
set_option maxHeartbeats 1000000 in
set_option maxRecDepth 100000 in
theorem lc_21 {p : Program} {l : Launch} {e : Env} {s : State} {m : MethodId} {below : List Frame} {meth : Method} {c : Code} {G : GG} {b L qo : Nat} {xs : Nat → Int32} {cJ : ClassId} (X : LX G p l s m meth c b L xs cJ qo) {Rel : Mem → Prop} {j : Nat} (hj : j + 6 ≤ L) (hL : L ≤ 384) {M : Mem} {H : Heap} {locs : List Loc} {ls : Array Slot} {cells slots : Nat} (w : LW G s M H locs cJ qo) (hl : lv_has ls 8 [(0, .ref b), (1, .ref (ga G 0)), (2, .ref (ga G 57)), (3, .ref qo), (4, .int (nI j))]) (hc : cells + 1 ≤ 600128 ∧ slots + 6 ≤ 7301098) (h : q_X5_held M (fun r M1 => q_X6_held M1 (fun r2 M2 => r = r2 ∧ Rel M2))) (kk : ∀ (M2 : Mem) (H2 : Heap) (locs2 : List Loc) (ls2 : Array Slot) (cells2 slots2 : Nat), Rel M2 → LW G s M2 H2 locs2 cJ qo → lv_has ls2 8 [(0, .ref b), (1, .ref (ga G 0)), (2, .ref (ga G 57)), (3, .ref qo), (4, .int (nI j))] → cells2 ≤ cells + 1 → slots2 ≤ slots + 6 → W p l e room_1 s m #[Value.ref b] below meth c H2 locs2 cells2 slots2 (lw_Z below #[Value.ref b] s) (F0 m 1361 ls2 [])) : W p l e room_1 s m #[Value.ref b] below meth c H locs cells slots (lw_Z below #[Value.ref b] s) (F0 m 773 ls []) := by
  have C := X.1
  have hx := C.1.1
  have hb := C.1.2.1
  refine lv_aload_n hx hb dl_773 rfl (lv_at hl 1 rfl) ?_
  refine eg_i w.1 (rg_V (As := []) (rest := []) C w.1 hl.1 (c_X5_held l G C.2.2.1 _ _ _ h) kl_30_13 kl_1_2 kl_30_10 kl_30_11 kl_30_12 hl_X5_held ⟨Nat.le_of_ble_eq_true rfl, Nat.le_of_ble_eq_true rfl⟩ ⟨Nat.le_trans (by omega) hc.1, Nat.le_trans (by omega) hc.2⟩ (w.1.recv C (i := 0) (by decide) pE_5 rfl) rfl (Nat.le_of_ble_eq_true rfl) dl_774) (fun r M1 H1 locs1 h w1 hz1 hk1 => ?_)
  replace w := w.on X w1 hz1 hk1
  refine lv_aload_n hx hb dl_777 rfl (lv_at hl 2 rfl) ?_
  refine eg_i w.1 (rg_V (As := []) (rest := [.int r]) C w.1 hl.1 (c_X6_held l G C.2.2.1 _ _ _ h) kl_30_17 kl_1_5 kl_30_14 kl_30_15 kl_30_16 hl_X6_held ⟨Nat.le_of_ble_eq_true rfl, Nat.le_of_ble_eq_true rfl⟩ ⟨Nat.le_trans (by omega) hc.1, Nat.le_trans (by omega) hc.2⟩ (w.1.recv C (i := 57) (by decide) pE_6 rfl) rfl (Nat.le_of_ble_eq_true rfl) dl_778) (fun r2 M2 H2 locs2 h w2 hz2 hk2 => ?_)
  replace w := w.on X w2 hz2 hk2
  refine lv_icmp_eq (tgt := 1361) hx hb dl_781 (by decide) (fun c1 => ?_) (fun c1 => absurd h.1 c1)
  exact kk M2 H2 locs2 ls _ _ h.2 w hl (by omega) (by omega)
set_option maxHeartbeats 1000000 in
set_option maxRecDepth 100000 in
theorem lc_22 {p : Program} {l : Launch} {e : Env} {s : State} {m : MethodId} {below : List Frame} {meth : Method} {c : Code} {G : GG} {b L qo : Nat} {xs : Nat → Int32} {cJ : ClassId} (X : LX G p l s m meth c b L xs cJ qo) {Rel : Mem → Prop} {j : Nat} (hj : j + 6 ≤ L) (hL : L ≤ 384) {M : Mem} {H : Heap} {locs : List Loc} {ls : Array Slot} {cells slots : Nat} (w : LW G s M H locs cJ qo) (hl : lv_has ls 8 [(0, .ref b), (1, .ref (ga G 0)), (2, .ref (ga G 57)), (3, .ref qo), (4, .int (nI j))]) (hc : cells + 1 ≤ 600128 ∧ slots + 6 ≤ 7301098) (h : q_X5_whip M (xs (j + 1)) (fun r M1 => q_X6_whip M1 (xs (j + 1)) (fun r2 M2 => r = r2 ∧ Rel M2))) (kk : ∀ (M2 : Mem) (H2 : Heap) (locs2 : List Loc) (ls2 : Array Slot) (cells2 slots2 : Nat), Rel M2 → LW G s M2 H2 locs2 cJ qo → lv_has ls2 8 [(0, .ref b), (1, .ref (ga G 0)), (2, .ref (ga G 57)), (3, .ref qo), (4, .int (nI j))] → cells2 ≤ cells + 1 → slots2 ≤ slots + 6 → W p l e room_1 s m #[Value.ref b] below meth c H2 locs2 cells2 slots2 (lw_Z below #[Value.ref b] s) (F0 m 1361 ls2 [])) : W p l e room_1 s m #[Value.ref b] below meth c H locs cells slots (lw_Z below #[Value.ref b] s) (F0 m 786 ls []) := by
  have C := X.1
  have hx := C.1.1
  have hb := C.1.2.1
  refine lv_aload_n hx hb dl_786 rfl (lv_at hl 1 rfl) ?_
  refine lv_aload_n hx hb dl_787 rfl (lv_at hl 0 rfl) ?_
  refine lv_iload hx hb dl_788 (lv_at hl 4 rfl) ?_
  refine lv_iconst (v := 1) hx hb dl_790 (by decide) ?_
  refine lv_iadd hx hb dl_791 ?_
  rw [show nI j + 1 = nI (j + 1) from nI_add j 1]
  refine va_sld hx hb X.2.2.2.1 X.2.2.2.2.1 (X.nb) w.1.2 (nI_in (N := L) (by omega) (by omega)) dl_792 ?_
  rw [nI_clamp (n := j + 1) (by omega)]
  refine eg_i w.1 (rg_V (As := [.int (xs (j + 1))]) (rest := []) C w.1 hl.1 (c_X5_whip l G C.2.2.1 _ _ (xs (j + 1)) _ h) kl_30_21 kl_1_2 kl_30_18 kl_30_19 kl_30_20 hl_X5_whip ⟨Nat.le_of_ble_eq_true rfl, Nat.le_of_ble_eq_true rfl⟩ ⟨Nat.le_trans (by omega) hc.1, Nat.le_trans (by omega) hc.2⟩ (w.1.recv C (i := 0) (by decide) pE_5 rfl) rfl (Nat.le_of_ble_eq_true rfl) dl_793) (fun r M1 H1 locs1 h w1 hz1 hk1 => ?_)
  replace w := w.on X w1 hz1 hk1
  refine lv_aload_n hx hb dl_796 rfl (lv_at hl 2 rfl) ?_
  refine lv_aload_n hx hb dl_797 rfl (lv_at hl 0 rfl) ?_
  refine lv_iload hx hb dl_798 (lv_at hl 4 rfl) ?_
  refine lv_iconst (v := 1) hx hb dl_800 (by decide) ?_
  refine lv_iadd hx hb dl_801 ?_
  rw [show nI j + 1 = nI (j + 1) from nI_add j 1]
  refine va_sld hx hb X.2.2.2.1 X.2.2.2.2.1 (X.nb) w.1.2 (nI_in (N := L) (by omega) (by omega)) dl_802 ?_
  rw [nI_clamp (n := j + 1) (by omega)]
  refine eg_i w.1 (rg_V (As := [.int (xs (j + 1))]) (rest := [.int r]) C w.1 hl.1 (c_X6_whip l G C.2.2.1 _ _ (xs (j + 1)) _ h) kl_31_1 kl_1_5 kl_30_22 kl_30_23 kl_31_0 hl_X6_whip ⟨Nat.le_of_ble_eq_true rfl, Nat.le_of_ble_eq_true rfl⟩ ⟨Nat.le_trans (by omega) hc.1, Nat.le_trans (by omega) hc.2⟩ (w.1.recv C (i := 57) (by decide) pE_6 rfl) rfl (Nat.le_of_ble_eq_true rfl) dl_803) (fun r2 M2 H2 locs2 h w2 hz2 hk2 => ?_)
  replace w := w.on X w2 hz2 hk2
  refine lv_icmp_eq (tgt := 1361) hx hb dl_806 (by decide) (fun c1 => ?_) (fun c1 => absurd h.1 c1)
  exact kk M2 H2 locs2 ls _ _ h.2 w hl (by omega) (by omega)
set_option maxHeartbeats 1000000 in
set_option maxRecDepth 100000 in
theorem lc_23 {p : Program} {l : Launch} {e : Env} {s : State} {m : MethodId} {below : List Frame} {meth : Method} {c : Code} {G : GG} {b L qo : Nat} {xs : Nat → Int32} {cJ : ClassId} (X : LX G p l s m meth c b L xs cJ qo) {Rel : Mem → Prop} {j : Nat} (hj : j + 6 ≤ L) (hL : L ≤ 384) {M : Mem} {H : Heap} {locs : List Loc} {ls : Array Slot} {cells slots : Nat} (w : LW G s M H locs cJ qo) (hl : lv_has ls 8 [(0, .ref b), (1, .ref (ga G 0)), (2, .ref (ga G 57)), (3, .ref qo), (4, .int (nI j))]) (hc : cells + 1 ≤ 600128 ∧ slots + 6 ≤ 7301098) (h : q_X5_renders M (xs (j + 1)) (fun r M1 => q_X6_renders M1 (xs (j + 1)) (fun r2 M2 => r = r2 ∧ Rel M2))) (kk : ∀ (M2 : Mem) (H2 : Heap) (locs2 : List Loc) (ls2 : Array Slot) (cells2 slots2 : Nat), Rel M2 → LW G s M2 H2 locs2 cJ qo → lv_has ls2 8 [(0, .ref b), (1, .ref (ga G 0)), (2, .ref (ga G 57)), (3, .ref qo), (4, .int (nI j))] → cells2 ≤ cells + 1 → slots2 ≤ slots + 6 → W p l e room_1 s m #[Value.ref b] below meth c H2 locs2 cells2 slots2 (lw_Z below #[Value.ref b] s) (F0 m 1361 ls2 [])) : W p l e room_1 s m #[Value.ref b] below meth c H locs cells slots (lw_Z below #[Value.ref b] s) (F0 m 811 ls []) := by
  have C := X.1
  have hx := C.1.1
  have hb := C.1.2.1
  refine lv_aload_n hx hb dl_811 rfl (lv_at hl 1 rfl) ?_
  refine lv_aload_n hx hb dl_812 rfl (lv_at hl 0 rfl) ?_
  refine lv_iload hx hb dl_813 (lv_at hl 4 rfl) ?_
  refine lv_iconst (v := 1) hx hb dl_815 (by decide) ?_
  refine lv_iadd hx hb dl_816 ?_
  rw [show nI j + 1 = nI (j + 1) from nI_add j 1]
  refine va_sld hx hb X.2.2.2.1 X.2.2.2.2.1 (X.nb) w.1.2 (nI_in (N := L) (by omega) (by omega)) dl_817 ?_
  rw [nI_clamp (n := j + 1) (by omega)]
  refine eg_i w.1 (rg_V (As := [.int (xs (j + 1))]) (rest := []) C w.1 hl.1 (c_X5_renders l G C.2.2.1 _ _ (xs (j + 1)) _ h) kl_31_5 kl_1_2 kl_31_2 kl_31_3 kl_31_4 hl_X5_renders ⟨Nat.le_of_ble_eq_true rfl, Nat.le_of_ble_eq_true rfl⟩ ⟨Nat.le_trans (by omega) hc.1, Nat.le_trans (by omega) hc.2⟩ (w.1.recv C (i := 0) (by decide) pE_5 rfl) rfl (Nat.le_of_ble_eq_true rfl) dl_818) (fun r M1 H1 locs1 h w1 hz1 hk1 => ?_)
  replace w := w.on X w1 hz1 hk1
  refine lv_aload_n hx hb dl_821 rfl (lv_at hl 2 rfl) ?_
  refine lv_aload_n hx hb dl_822 rfl (lv_at hl 0 rfl) ?_
  refine lv_iload hx hb dl_823 (lv_at hl 4 rfl) ?_
  refine lv_iconst (v := 1) hx hb dl_825 (by decide) ?_
  refine lv_iadd hx hb dl_826 ?_
  rw [show nI j + 1 = nI (j + 1) from nI_add j 1]
  refine va_sld hx hb X.2.2.2.1 X.2.2.2.2.1 (X.nb) w.1.2 (nI_in (N := L) (by omega) (by omega)) dl_827 ?_
  rw [nI_clamp (n := j + 1) (by omega)]
  refine eg_i w.1 (rg_V (As := [.int (xs (j + 1))]) (rest := [.int r]) C w.1 hl.1 (c_X6_renders l G C.2.2.1 _ _ (xs (j + 1)) _ h) kl_31_12 kl_1_5 kl_31_9 kl_31_10 kl_31_11 hl_X6_renders ⟨Nat.le_of_ble_eq_true rfl, Nat.le_of_ble_eq_true rfl⟩ ⟨Nat.le_trans (by omega) hc.1, Nat.le_trans (by omega) hc.2⟩ (w.1.recv C (i := 57) (by decide) pE_6 rfl) rfl (Nat.le_of_ble_eq_true rfl) dl_828) (fun r2 M2 H2 locs2 h w2 hz2 hk2 => ?_)
  replace w := w.on X w2 hz2 hk2
  refine lv_icmp_eq (tgt := 1361) hx hb dl_831 (by decide) (fun c1 => ?_) (fun c1 => absurd h.1 c1)
  exact kk M2 H2 locs2 ls _ _ h.2 w hl (by omega) (by omega)
set_option maxHeartbeats 1000000 in
set_option maxRecDepth 100000 in
theorem lc_24 {p : Program} {l : Launch} {e : Env} {s : State} {m : MethodId} {below : List Frame} {meth : Method} {c : Code} {G : GG} {b L qo : Nat} {xs : Nat → Int32} {cJ : ClassId} (X : LX G p l s m meth c b L xs cJ qo) {Rel : Mem → Prop} {j : Nat} (hj : j + 6 ≤ L) (hL : L ≤ 384) {M : Mem} {H : Heap} {locs : List Loc} {ls : Array Slot} {cells slots : Nat} (w : LW G s M H locs cJ qo) (hl : lv_has ls 8 [(0, .ref b), (1, .ref (ga G 0)), (2, .ref (ga G 57)), (3, .ref qo), (4, .int (nI j))]) (hc : cells + 1 ≤ 600128 ∧ slots + 6 ≤ 7301098) (h : q_X5_winch M (xs (j + 1)) (fun r M1 => q_X6_winch M1 (xs (j + 1)) (fun r2 M2 => r = r2 ∧ Rel M2))) (kk : ∀ (M2 : Mem) (H2 : Heap) (locs2 : List Loc) (ls2 : Array Slot) (cells2 slots2 : Nat), Rel M2 → LW G s M2 H2 locs2 cJ qo → lv_has ls2 8 [(0, .ref b), (1, .ref (ga G 0)), (2, .ref (ga G 57)), (3, .ref qo), (4, .int (nI j))] → cells2 ≤ cells + 1 → slots2 ≤ slots + 6 → W p l e room_1 s m #[Value.ref b] below meth c H2 locs2 cells2 slots2 (lw_Z below #[Value.ref b] s) (F0 m 1361 ls2 [])) : W p l e room_1 s m #[Value.ref b] below meth c H locs cells slots (lw_Z below #[Value.ref b] s) (F0 m 836 ls []) := by
  have C := X.1
  have hx := C.1.1
  have hb := C.1.2.1
  refine lv_aload_n hx hb dl_836 rfl (lv_at hl 1 rfl) ?_
  refine lv_aload_n hx hb dl_837 rfl (lv_at hl 0 rfl) ?_
  refine lv_iload hx hb dl_838 (lv_at hl 4 rfl) ?_
  refine lv_iconst (v := 1) hx hb dl_840 (by decide) ?_
  refine lv_iadd hx hb dl_841 ?_
  rw [show nI j + 1 = nI (j + 1) from nI_add j 1]
  refine va_sld hx hb X.2.2.2.1 X.2.2.2.2.1 (X.nb) w.1.2 (nI_in (N := L) (by omega) (by omega)) dl_842 ?_
  rw [nI_clamp (n := j + 1) (by omega)]
  refine eg_i w.1 (rg_V (As := [.int (xs (j + 1))]) (rest := []) C w.1 hl.1 (c_X5_winch l G C.2.2.1 _ _ (xs (j + 1)) _ h) kl_31_20 kl_1_2 kl_31_17 kl_31_18 kl_31_19 hl_X5_winch ⟨Nat.le_of_ble_eq_true rfl, Nat.le_of_ble_eq_true rfl⟩ ⟨Nat.le_trans (by omega) hc.1, Nat.le_trans (by omega) hc.2⟩ (w.1.recv C (i := 0) (by decide) pE_5 rfl) rfl (Nat.le_of_ble_eq_true rfl) dl_843) (fun r M1 H1 locs1 h w1 hz1 hk1 => ?_)
  replace w := w.on X w1 hz1 hk1
  refine lv_aload_n hx hb dl_846 rfl (lv_at hl 2 rfl) ?_
  refine lv_aload_n hx hb dl_847 rfl (lv_at hl 0 rfl) ?_
  refine lv_iload hx hb dl_848 (lv_at hl 4 rfl) ?_
  refine lv_iconst (v := 1) hx hb dl_850 (by decide) ?_
  refine lv_iadd hx hb dl_851 ?_
  rw [show nI j + 1 = nI (j + 1) from nI_add j 1]
  refine va_sld hx hb X.2.2.2.1 X.2.2.2.2.1 (X.nb) w.1.2 (nI_in (N := L) (by omega) (by omega)) dl_852 ?_
  rw [nI_clamp (n := j + 1) (by omega)]
  refine eg_i w.1 (rg_V (As := [.int (xs (j + 1))]) (rest := [.int r]) C w.1 hl.1 (c_X6_winch l G C.2.2.1 _ _ (xs (j + 1)) _ h) kl_32_0 kl_1_5 kl_31_21 kl_31_22 kl_31_23 hl_X6_winch ⟨Nat.le_of_ble_eq_true rfl, Nat.le_of_ble_eq_true rfl⟩ ⟨Nat.le_trans (by omega) hc.1, Nat.le_trans (by omega) hc.2⟩ (w.1.recv C (i := 57) (by decide) pE_6 rfl) rfl (Nat.le_of_ble_eq_true rfl) dl_853) (fun r2 M2 H2 locs2 h w2 hz2 hk2 => ?_)
  replace w := w.on X w2 hz2 hk2
  refine lv_icmp_eq (tgt := 1361) hx hb dl_856 (by decide) (fun c1 => ?_) (fun c1 => absurd h.1 c1)
  exact kk M2 H2 locs2 ls _ _ h.2 w hl (by omega) (by omega)
set_option maxHeartbeats 1000000 in
set_option maxRecDepth 100000 in
theorem lc_25 {p : Program} {l : Launch} {e : Env} {s : State} {m : MethodId} {below : List Frame} {meth : Method} {c : Code} {G : GG} {b L qo : Nat} {xs : Nat → Int32} {cJ : ClassId} (X : LX G p l s m meth c b L xs cJ qo) {Rel : Mem → Prop} {j : Nat} (hj : j + 6 ≤ L) (hL : L ≤ 384) {M : Mem} {H : Heap} {locs : List Loc} {ls : Array Slot} {cells slots : Nat} (w : LW G s M H locs cJ qo) (hl : lv_has ls 8 [(0, .ref b), (1, .ref (ga G 0)), (2, .ref (ga G 57)), (3, .ref qo), (4, .int (nI j))]) (hc : cells + 1 ≤ 600128 ∧ slots + 6 ≤ 7301098) (h : q_X5_legs M (xs (j + 1)) (xs (j + 2)) (fun r M1 => q_X6_legs M1 (xs (j + 1)) (xs (j + 2)) (fun r2 M2 => r = r2 ∧ Rel M2))) (kk : ∀ (M2 : Mem) (H2 : Heap) (locs2 : List Loc) (ls2 : Array Slot) (cells2 slots2 : Nat), Rel M2 → LW G s M2 H2 locs2 cJ qo → lv_has ls2 8 [(0, .ref b), (1, .ref (ga G 0)), (2, .ref (ga G 57)), (3, .ref qo), (4, .int (nI j))] → cells2 ≤ cells + 1 → slots2 ≤ slots + 6 → W p l e room_1 s m #[Value.ref b] below meth c H2 locs2 cells2 slots2 (lw_Z below #[Value.ref b] s) (F0 m 1361 ls2 [])) : W p l e room_1 s m #[Value.ref b] below meth c H locs cells slots (lw_Z below #[Value.ref b] s) (F0 m 861 ls []) := by
  have C := X.1
  have hx := C.1.1
  have hb := C.1.2.1
  refine lv_aload_n hx hb dl_861 rfl (lv_at hl 1 rfl) ?_
  refine lv_aload_n hx hb dl_862 rfl (lv_at hl 0 rfl) ?_
  refine lv_iload hx hb dl_863 (lv_at hl 4 rfl) ?_
  refine lv_iconst (v := 1) hx hb dl_865 (by decide) ?_
  refine lv_iadd hx hb dl_866 ?_
  rw [show nI j + 1 = nI (j + 1) from nI_add j 1]
  refine va_sld hx hb X.2.2.2.1 X.2.2.2.2.1 (X.nb) w.1.2 (nI_in (N := L) (by omega) (by omega)) dl_867 ?_
  rw [nI_clamp (n := j + 1) (by omega)]
  refine lv_aload_n hx hb dl_868 rfl (lv_at hl 0 rfl) ?_
  refine lv_iload hx hb dl_869 (lv_at hl 4 rfl) ?_
  refine lv_iconst (v := 2) hx hb dl_871 (by decide) ?_
  refine lv_iadd hx hb dl_872 ?_
  rw [show nI j + 2 = nI (j + 2) from nI_add j 2]
  refine va_sld hx hb X.2.2.2.1 X.2.2.2.2.1 (X.nb) w.1.2 (nI_in (N := L) (by omega) (by omega)) dl_873 ?_
  rw [nI_clamp (n := j + 2) (by omega)]
  refine eg_i w.1 (rg_V (As := [.int (xs (j + 1)), .int (xs (j + 2))]) (rest := []) C w.1 hl.1 (c_X5_legs l G C.2.2.1 _ _ (xs (j + 1)) (xs (j + 2)) _ h) kl_32_4 kl_1_2 kl_32_1 kl_32_2 kl_32_3 hl_X5_legs ⟨Nat.le_of_ble_eq_true rfl, Nat.le_of_ble_eq_true rfl⟩ ⟨Nat.le_trans (by omega) hc.1, Nat.le_trans (by omega) hc.2⟩ (w.1.recv C (i := 0) (by decide) pE_5 rfl) rfl (Nat.le_of_ble_eq_true rfl) dl_874) (fun r M1 H1 locs1 h w1 hz1 hk1 => ?_)
  replace w := w.on X w1 hz1 hk1
  refine lv_aload_n hx hb dl_877 rfl (lv_at hl 2 rfl) ?_
  refine lv_aload_n hx hb dl_878 rfl (lv_at hl 0 rfl) ?_
  refine lv_iload hx hb dl_879 (lv_at hl 4 rfl) ?_
  refine lv_iconst (v := 1) hx hb dl_881 (by decide) ?_
  refine lv_iadd hx hb dl_882 ?_
  rw [show nI j + 1 = nI (j + 1) from nI_add j 1]
  refine va_sld hx hb X.2.2.2.1 X.2.2.2.2.1 (X.nb) w.1.2 (nI_in (N := L) (by omega) (by omega)) dl_883 ?_
  rw [nI_clamp (n := j + 1) (by omega)]
  refine lv_aload_n hx hb dl_884 rfl (lv_at hl 0 rfl) ?_
  refine lv_iload hx hb dl_885 (lv_at hl 4 rfl) ?_
  refine lv_iconst (v := 2) hx hb dl_887 (by decide) ?_
  refine lv_iadd hx hb dl_888 ?_
  rw [show nI j + 2 = nI (j + 2) from nI_add j 2]
  refine va_sld hx hb X.2.2.2.1 X.2.2.2.2.1 (X.nb) w.1.2 (nI_in (N := L) (by omega) (by omega)) dl_889 ?_
  rw [nI_clamp (n := j + 2) (by omega)]
  refine eg_i w.1 (rg_V (As := [.int (xs (j + 1)), .int (xs (j + 2))]) (rest := [.int r]) C w.1 hl.1 (c_X6_legs l G C.2.2.1 _ _ (xs (j + 1)) (xs (j + 2)) _ h) kl_33_1 kl_1_5 kl_32_22 kl_32_23 kl_33_0 hl_X6_legs ⟨Nat.le_of_ble_eq_true rfl, Nat.le_of_ble_eq_true rfl⟩ ⟨Nat.le_trans (by omega) hc.1, Nat.le_trans (by omega) hc.2⟩ (w.1.recv C (i := 57) (by decide) pE_6 rfl) rfl (Nat.le_of_ble_eq_true rfl) dl_890) (fun r2 M2 H2 locs2 h w2 hz2 hk2 => ?_)
  replace w := w.on X w2 hz2 hk2
  refine lv_icmp_eq (tgt := 1361) hx hb dl_893 (by decide) (fun c1 => ?_) (fun c1 => absurd h.1 c1)
  exact kk M2 H2 locs2 ls _ _ h.2 w hl (by omega) (by omega)
set_option maxHeartbeats 1000000 in
set_option maxRecDepth 100000 in
theorem lc_26 {p : Program} {l : Launch} {e : Env} {s : State} {m : MethodId} {below : List Frame} {meth : Method} {c : Code} {G : GG} {b L qo : Nat} {xs : Nat → Int32} {cJ : ClassId} (X : LX G p l s m meth c b L xs cJ qo) {Rel : Mem → Prop} {j : Nat} (hj : j + 6 ≤ L) (hL : L ≤ 384) {M : Mem} {H : Heap} {locs : List Loc} {ls : Array Slot} {cells slots : Nat} (w : LW G s M H locs cJ qo) (hl : lv_has ls 8 [(0, .ref b), (1, .ref (ga G 0)), (2, .ref (ga G 57)), (3, .ref qo), (4, .int (nI j))]) (hc : cells + 1 ≤ 600128 ∧ slots + 6 ≤ 7301098) (h : q_X5_why M (xs (j + 1)) (fun r M1 => q_X6_why M1 (xs (j + 1)) (fun r2 M2 => r = r2 ∧ Rel M2))) (kk : ∀ (M2 : Mem) (H2 : Heap) (locs2 : List Loc) (ls2 : Array Slot) (cells2 slots2 : Nat), Rel M2 → LW G s M2 H2 locs2 cJ qo → lv_has ls2 8 [(0, .ref b), (1, .ref (ga G 0)), (2, .ref (ga G 57)), (3, .ref qo), (4, .int (nI j))] → cells2 ≤ cells + 1 → slots2 ≤ slots + 6 → W p l e room_1 s m #[Value.ref b] below meth c H2 locs2 cells2 slots2 (lw_Z below #[Value.ref b] s) (F0 m 1361 ls2 [])) : W p l e room_1 s m #[Value.ref b] below meth c H locs cells slots (lw_Z below #[Value.ref b] s) (F0 m 898 ls []) := by
  have C := X.1
  have hx := C.1.1
  have hb := C.1.2.1
  refine lv_aload_n hx hb dl_898 rfl (lv_at hl 1 rfl) ?_
  refine lv_aload_n hx hb dl_899 rfl (lv_at hl 0 rfl) ?_
  refine lv_iload hx hb dl_900 (lv_at hl 4 rfl) ?_
  refine lv_iconst (v := 1) hx hb dl_902 (by decide) ?_
  refine lv_iadd hx hb dl_903 ?_
  rw [show nI j + 1 = nI (j + 1) from nI_add j 1]
  refine va_sld hx hb X.2.2.2.1 X.2.2.2.2.1 (X.nb) w.1.2 (nI_in (N := L) (by omega) (by omega)) dl_904 ?_
  rw [nI_clamp (n := j + 1) (by omega)]
  refine eg_i w.1 (rg_V (As := [.int (xs (j + 1))]) (rest := []) C w.1 hl.1 (c_X5_why l G C.2.2.1 _ _ (xs (j + 1)) _ h) kl_33_19 kl_1_2 kl_33_16 kl_33_17 kl_33_18 hl_X5_why ⟨Nat.le_of_ble_eq_true rfl, Nat.le_of_ble_eq_true rfl⟩ ⟨Nat.le_trans (by omega) hc.1, Nat.le_trans (by omega) hc.2⟩ (w.1.recv C (i := 0) (by decide) pE_5 rfl) rfl (Nat.le_of_ble_eq_true rfl) dl_905) (fun r M1 H1 locs1 h w1 hz1 hk1 => ?_)
  replace w := w.on X w1 hz1 hk1
  refine lv_aload_n hx hb dl_908 rfl (lv_at hl 2 rfl) ?_
  refine lv_aload_n hx hb dl_909 rfl (lv_at hl 0 rfl) ?_
  refine lv_iload hx hb dl_910 (lv_at hl 4 rfl) ?_
  refine lv_iconst (v := 1) hx hb dl_912 (by decide) ?_
  refine lv_iadd hx hb dl_913 ?_
  rw [show nI j + 1 = nI (j + 1) from nI_add j 1]
  refine va_sld hx hb X.2.2.2.1 X.2.2.2.2.1 (X.nb) w.1.2 (nI_in (N := L) (by omega) (by omega)) dl_914 ?_
  rw [nI_clamp (n := j + 1) (by omega)]
  refine eg_i w.1 (rg_V (As := [.int (xs (j + 1))]) (rest := [.int r]) C w.1 hl.1 (c_X6_why l G C.2.2.1 _ _ (xs (j + 1)) _ h) kl_33_23 kl_1_5 kl_33_20 kl_33_21 kl_33_22 hl_X6_why ⟨Nat.le_of_ble_eq_true rfl, Nat.le_of_ble_eq_true rfl⟩ ⟨Nat.le_trans (by omega) hc.1, Nat.le_trans (by omega) hc.2⟩ (w.1.recv C (i := 57) (by decide) pE_6 rfl) rfl (Nat.le_of_ble_eq_true rfl) dl_915) (fun r2 M2 H2 locs2 h w2 hz2 hk2 => ?_)
  replace w := w.on X w2 hz2 hk2
  refine lv_icmp_eq (tgt := 1361) hx hb dl_918 (by decide) (fun c1 => ?_) (fun c1 => absurd h.1 c1)
  exact kk M2 H2 locs2 ls _ _ h.2 w hl (by omega) (by omega)
set_option maxHeartbeats 1000000 in
set_option maxRecDepth 100000 in
theorem lc_27 {p : Program} {l : Launch} {e : Env} {s : State} {m : MethodId} {below : List Frame} {meth : Method} {c : Code} {G : GG} {b L qo : Nat} {xs : Nat → Int32} {cJ : ClassId} (X : LX G p l s m meth c b L xs cJ qo) {Rel : Mem → Prop} {j : Nat} (hj : j + 6 ≤ L) (hL : L ≤ 384) {M : Mem} {H : Heap} {locs : List Loc} {ls : Array Slot} {cells slots : Nat} (w : LW G s M H locs cJ qo) (hl : lv_has ls 8 [(0, .ref b), (1, .ref (ga G 0)), (2, .ref (ga G 57)), (3, .ref qo), (4, .int (nI j))]) (hc : cells + 1 ≤ 600128 ∧ slots + 6 ≤ 7301098) (h : q_X5_caravan M (xs (j + 1)) (fun r M1 => q_X6_caravan M1 (xs (j + 1)) (fun r2 M2 => r = r2 ∧ Rel M2))) (kk : ∀ (M2 : Mem) (H2 : Heap) (locs2 : List Loc) (ls2 : Array Slot) (cells2 slots2 : Nat), Rel M2 → LW G s M2 H2 locs2 cJ qo → lv_has ls2 8 [(0, .ref b), (1, .ref (ga G 0)), (2, .ref (ga G 57)), (3, .ref qo), (4, .int (nI j))] → cells2 ≤ cells + 1 → slots2 ≤ slots + 6 → W p l e room_1 s m #[Value.ref b] below meth c H2 locs2 cells2 slots2 (lw_Z below #[Value.ref b] s) (F0 m 1361 ls2 [])) : W p l e room_1 s m #[Value.ref b] below meth c H locs cells slots (lw_Z below #[Value.ref b] s) (F0 m 923 ls []) := by
  have C := X.1
  have hx := C.1.1
  have hb := C.1.2.1
  refine lv_aload_n hx hb dl_923 rfl (lv_at hl 1 rfl) ?_
  refine lv_aload_n hx hb dl_924 rfl (lv_at hl 0 rfl) ?_
  refine lv_iload hx hb dl_925 (lv_at hl 4 rfl) ?_
  refine lv_iconst (v := 1) hx hb dl_927 (by decide) ?_
  refine lv_iadd hx hb dl_928 ?_
  rw [show nI j + 1 = nI (j + 1) from nI_add j 1]
  refine va_sld hx hb X.2.2.2.1 X.2.2.2.2.1 (X.nb) w.1.2 (nI_in (N := L) (by omega) (by omega)) dl_929 ?_
  rw [nI_clamp (n := j + 1) (by omega)]
  refine eg_i w.1 (rg_V (As := [.int (xs (j + 1))]) (rest := []) C w.1 hl.1 (c_X5_caravan l G C.2.2.1 _ _ (xs (j + 1)) _ h) kl_34_3 kl_1_2 kl_34_0 kl_34_1 kl_34_2 hl_X5_caravan ⟨Nat.le_of_ble_eq_true rfl, Nat.le_of_ble_eq_true rfl⟩ ⟨Nat.le_trans (by omega) hc.1, Nat.le_trans (by omega) hc.2⟩ (w.1.recv C (i := 0) (by decide) pE_5 rfl) rfl (Nat.le_of_ble_eq_true rfl) dl_930) (fun r M1 H1 locs1 h w1 hz1 hk1 => ?_)
  replace w := w.on X w1 hz1 hk1
  refine lv_aload_n hx hb dl_933 rfl (lv_at hl 2 rfl) ?_
  refine lv_aload_n hx hb dl_934 rfl (lv_at hl 0 rfl) ?_
  refine lv_iload hx hb dl_935 (lv_at hl 4 rfl) ?_
  refine lv_iconst (v := 1) hx hb dl_937 (by decide) ?_
  refine lv_iadd hx hb dl_938 ?_
  rw [show nI j + 1 = nI (j + 1) from nI_add j 1]
  refine va_sld hx hb X.2.2.2.1 X.2.2.2.2.1 (X.nb) w.1.2 (nI_in (N := L) (by omega) (by omega)) dl_939 ?_
  rw [nI_clamp (n := j + 1) (by omega)]
  refine eg_i w.1 (rg_V (As := [.int (xs (j + 1))]) (rest := [.int r]) C w.1 hl.1 (c_X6_caravan l G C.2.2.1 _ _ (xs (j + 1)) _ h) kl_34_7 kl_1_5 kl_34_4 kl_34_5 kl_34_6 hl_X6_caravan ⟨Nat.le_of_ble_eq_true rfl, Nat.le_of_ble_eq_true rfl⟩ ⟨Nat.le_trans (by omega) hc.1, Nat.le_trans (by omega) hc.2⟩ (w.1.recv C (i := 57) (by decide) pE_6 rfl) rfl (Nat.le_of_ble_eq_true rfl) dl_940) (fun r2 M2 H2 locs2 h w2 hz2 hk2 => ?_)
  replace w := w.on X w2 hz2 hk2
  refine lv_icmp_eq (tgt := 1361) hx hb dl_943 (by decide) (fun c1 => ?_) (fun c1 => absurd h.1 c1)
  exact kk M2 H2 locs2 ls _ _ h.2 w hl (by omega) (by omega)
set_option maxHeartbeats 1000000 in
set_option maxRecDepth 100000 in
theorem lc_28 {p : Program} {l : Launch} {e : Env} {s : State} {m : MethodId} {below : List Frame} {meth : Method} {c : Code} {G : GG} {b L qo : Nat} {xs : Nat → Int32} {cJ : ClassId} (X : LX G p l s m meth c b L xs cJ qo) {Rel : Mem → Prop} {j : Nat} (hj : j + 6 ≤ L) (hL : L ≤ 384) {M : Mem} {H : Heap} {locs : List Loc} {ls : Array Slot} {cells slots : Nat} (w : LW G s M H locs cJ qo) (hl : lv_has ls 8 [(0, .ref b), (1, .ref (ga G 0)), (2, .ref (ga G 57)), (3, .ref qo), (4, .int (nI j))]) (hc : cells + 1 ≤ 600128 ∧ slots + 6 ≤ 7301098) (h : q_X5_judge M (xs (j + 1)) (fun r M1 => q_X6_judge M1 (xs (j + 1)) (fun r2 M2 => r = r2 ∧ Rel M2))) (kk : ∀ (M2 : Mem) (H2 : Heap) (locs2 : List Loc) (ls2 : Array Slot) (cells2 slots2 : Nat), Rel M2 → LW G s M2 H2 locs2 cJ qo → lv_has ls2 8 [(0, .ref b), (1, .ref (ga G 0)), (2, .ref (ga G 57)), (3, .ref qo), (4, .int (nI j))] → cells2 ≤ cells + 1 → slots2 ≤ slots + 6 → W p l e room_1 s m #[Value.ref b] below meth c H2 locs2 cells2 slots2 (lw_Z below #[Value.ref b] s) (F0 m 1361 ls2 [])) : W p l e room_1 s m #[Value.ref b] below meth c H locs cells slots (lw_Z below #[Value.ref b] s) (F0 m 948 ls []) := by
  have C := X.1
  have hx := C.1.1
  have hb := C.1.2.1
  refine lv_aload_n hx hb dl_948 rfl (lv_at hl 1 rfl) ?_
  refine lv_aload_n hx hb dl_949 rfl (lv_at hl 0 rfl) ?_
  refine lv_iload hx hb dl_950 (lv_at hl 4 rfl) ?_
  refine lv_iconst (v := 1) hx hb dl_952 (by decide) ?_
  refine lv_iadd hx hb dl_953 ?_
  rw [show nI j + 1 = nI (j + 1) from nI_add j 1]
  refine va_sld hx hb X.2.2.2.1 X.2.2.2.2.1 (X.nb) w.1.2 (nI_in (N := L) (by omega) (by omega)) dl_954 ?_
  rw [nI_clamp (n := j + 1) (by omega)]
  refine eg_i w.1 (rg_V (As := [.int (xs (j + 1))]) (rest := []) C w.1 hl.1 (c_X5_judge l G C.2.2.1 _ _ (xs (j + 1)) _ h) kl_34_11 kl_1_2 kl_34_8 kl_34_9 kl_34_10 hl_X5_judge ⟨Nat.le_of_ble_eq_true rfl, Nat.le_of_ble_eq_true rfl⟩ ⟨Nat.le_trans (by omega) hc.1, Nat.le_trans (by omega) hc.2⟩ (w.1.recv C (i := 0) (by decide) pE_5 rfl) rfl (Nat.le_of_ble_eq_true rfl) dl_955) (fun r M1 H1 locs1 h w1 hz1 hk1 => ?_)
  replace w := w.on X w1 hz1 hk1
  refine lv_aload_n hx hb dl_958 rfl (lv_at hl 2 rfl) ?_
  refine lv_aload_n hx hb dl_959 rfl (lv_at hl 0 rfl) ?_
  refine lv_iload hx hb dl_960 (lv_at hl 4 rfl) ?_
  refine lv_iconst (v := 1) hx hb dl_962 (by decide) ?_
  refine lv_iadd hx hb dl_963 ?_
  rw [show nI j + 1 = nI (j + 1) from nI_add j 1]
  refine va_sld hx hb X.2.2.2.1 X.2.2.2.2.1 (X.nb) w.1.2 (nI_in (N := L) (by omega) (by omega)) dl_964 ?_
  rw [nI_clamp (n := j + 1) (by omega)]
  refine eg_i w.1 (rg_V (As := [.int (xs (j + 1))]) (rest := [.int r]) C w.1 hl.1 (c_X6_judge l G C.2.2.1 _ _ (xs (j + 1)) _ h) kl_34_19 kl_1_5 kl_34_16 kl_34_17 kl_34_18 hl_X6_judge ⟨Nat.le_of_ble_eq_true rfl, Nat.le_of_ble_eq_true rfl⟩ ⟨Nat.le_trans (by omega) hc.1, Nat.le_trans (by omega) hc.2⟩ (w.1.recv C (i := 57) (by decide) pE_6 rfl) rfl (Nat.le_of_ble_eq_true rfl) dl_965) (fun r2 M2 H2 locs2 h w2 hz2 hk2 => ?_)
  replace w := w.on X w2 hz2 hk2
  refine lv_icmp_eq (tgt := 1361) hx hb dl_968 (by decide) (fun c1 => ?_) (fun c1 => absurd h.1 c1)
  exact kk M2 H2 locs2 ls _ _ h.2 w hl (by omega) (by omega)
set_option maxHeartbeats 1000000 in
set_option maxRecDepth 100000 in
theorem lc_29 {p : Program} {l : Launch} {e : Env} {s : State} {m : MethodId} {below : List Frame} {meth : Method} {c : Code} {G : GG} {b L qo : Nat} {xs : Nat → Int32} {cJ : ClassId} (X : LX G p l s m meth c b L xs cJ qo) {Rel : Mem → Prop} {j : Nat} (hj : j + 6 ≤ L) (hL : L ≤ 384) {M : Mem} {H : Heap} {locs : List Loc} {ls : Array Slot} {cells slots : Nat} (w : LW G s M H locs cJ qo) (hl : lv_has ls 8 [(0, .ref b), (1, .ref (ga G 0)), (2, .ref (ga G 57)), (3, .ref qo), (4, .int (nI j))]) (hc : cells + 1 ≤ 600128 ∧ slots + 6 ≤ 7301098) (h : q_X5_image M (fun r M1 => q_X6_image M1 (fun r2 M2 => r = r2 ∧ Rel M2))) (kk : ∀ (M2 : Mem) (H2 : Heap) (locs2 : List Loc) (ls2 : Array Slot) (cells2 slots2 : Nat), Rel M2 → LW G s M2 H2 locs2 cJ qo → lv_has ls2 8 [(0, .ref b), (1, .ref (ga G 0)), (2, .ref (ga G 57)), (3, .ref qo), (4, .int (nI j))] → cells2 ≤ cells + 1 → slots2 ≤ slots + 6 → W p l e room_1 s m #[Value.ref b] below meth c H2 locs2 cells2 slots2 (lw_Z below #[Value.ref b] s) (F0 m 1361 ls2 [])) : W p l e room_1 s m #[Value.ref b] below meth c H locs cells slots (lw_Z below #[Value.ref b] s) (F0 m 973 ls []) := by
  have C := X.1
  have hx := C.1.1
  have hb := C.1.2.1
  refine lv_aload_n hx hb dl_973 rfl (lv_at hl 1 rfl) ?_
  refine eg_i w.1 (rg_V (As := []) (rest := []) C w.1 hl.1 (c_X5_image l G C.2.2.1 _ _ _ h) kl_35_4 kl_1_2 kl_35_1 kl_35_2 kl_35_3 hl_X5_image ⟨Nat.le_of_ble_eq_true rfl, Nat.le_of_ble_eq_true rfl⟩ ⟨Nat.le_trans (by omega) hc.1, Nat.le_trans (by omega) hc.2⟩ (w.1.recv C (i := 0) (by decide) pE_5 rfl) rfl (Nat.le_of_ble_eq_true rfl) dl_974) (fun r M1 H1 locs1 h w1 hz1 hk1 => ?_)
  replace w := w.on X w1 hz1 hk1
  refine lv_aload_n hx hb dl_977 rfl (lv_at hl 2 rfl) ?_
  refine eg_i w.1 (rg_V (As := []) (rest := [.int r]) C w.1 hl.1 (c_X6_image l G C.2.2.1 _ _ _ h) kl_35_8 kl_1_5 kl_35_5 kl_35_6 kl_35_7 hl_X6_image ⟨Nat.le_of_ble_eq_true rfl, Nat.le_of_ble_eq_true rfl⟩ ⟨Nat.le_trans (by omega) hc.1, Nat.le_trans (by omega) hc.2⟩ (w.1.recv C (i := 57) (by decide) pE_6 rfl) rfl (Nat.le_of_ble_eq_true rfl) dl_978) (fun r2 M2 H2 locs2 h w2 hz2 hk2 => ?_)
  replace w := w.on X w2 hz2 hk2
  refine lv_icmp_eq (tgt := 1361) hx hb dl_981 (by decide) (fun c1 => ?_) (fun c1 => absurd h.1 c1)
  exact kk M2 H2 locs2 ls _ _ h.2 w hl (by omega) (by omega)
set_option maxHeartbeats 1000000 in
set_option maxRecDepth 100000 in
theorem lc_30 {p : Program} {l : Launch} {e : Env} {s : State} {m : MethodId} {below : List Frame} {meth : Method} {c : Code} {G : GG} {b L qo : Nat} {xs : Nat → Int32} {cJ : ClassId} (X : LX G p l s m meth c b L xs cJ qo) {Rel : Mem → Prop} {j : Nat} (hj : j + 6 ≤ L) (hL : L ≤ 384) {M : Mem} {H : Heap} {locs : List Loc} {ls : Array Slot} {cells slots : Nat} (w : LW G s M H locs cJ qo) (hl : lv_has ls 8 [(0, .ref b), (1, .ref (ga G 0)), (2, .ref (ga G 57)), (3, .ref qo), (4, .int (nI j))]) (hc : cells + 1 ≤ 600128 ∧ slots + 6 ≤ 7301098) (h : q_X5_restore M (fun r M1 => q_X6_restore M1 (fun r2 M2 => r = r2 ∧ Rel M2))) (kk : ∀ (M2 : Mem) (H2 : Heap) (locs2 : List Loc) (ls2 : Array Slot) (cells2 slots2 : Nat), Rel M2 → LW G s M2 H2 locs2 cJ qo → lv_has ls2 8 [(0, .ref b), (1, .ref (ga G 0)), (2, .ref (ga G 57)), (3, .ref qo), (4, .int (nI j))] → cells2 ≤ cells + 1 → slots2 ≤ slots + 6 → W p l e room_1 s m #[Value.ref b] below meth c H2 locs2 cells2 slots2 (lw_Z below #[Value.ref b] s) (F0 m 1361 ls2 [])) : W p l e room_1 s m #[Value.ref b] below meth c H locs cells slots (lw_Z below #[Value.ref b] s) (F0 m 986 ls []) := by
  have C := X.1
  have hx := C.1.1
  have hb := C.1.2.1
  refine lv_aload_n hx hb dl_986 rfl (lv_at hl 1 rfl) ?_
  refine eg_i w.1 (rg_V (As := []) (rest := []) C w.1 hl.1 (c_X5_restore l G C.2.2.1 _ _ _ h) kl_35_13 kl_1_2 kl_35_10 kl_35_11 kl_35_12 hl_X5_restore ⟨Nat.le_of_ble_eq_true rfl, Nat.le_of_ble_eq_true rfl⟩ ⟨Nat.le_trans (by omega) hc.1, Nat.le_trans (by omega) hc.2⟩ (w.1.recv C (i := 0) (by decide) pE_5 rfl) rfl (Nat.le_of_ble_eq_true rfl) dl_987) (fun r M1 H1 locs1 h w1 hz1 hk1 => ?_)
  replace w := w.on X w1 hz1 hk1
  refine lv_aload_n hx hb dl_990 rfl (lv_at hl 2 rfl) ?_
  refine eg_i w.1 (rg_V (As := []) (rest := [.int r]) C w.1 hl.1 (c_X6_restore l G C.2.2.1 _ _ _ h) kl_35_17 kl_1_5 kl_35_14 kl_35_15 kl_35_16 hl_X6_restore ⟨Nat.le_of_ble_eq_true rfl, Nat.le_of_ble_eq_true rfl⟩ ⟨Nat.le_trans (by omega) hc.1, Nat.le_trans (by omega) hc.2⟩ (w.1.recv C (i := 57) (by decide) pE_6 rfl) rfl (Nat.le_of_ble_eq_true rfl) dl_991) (fun r2 M2 H2 locs2 h w2 hz2 hk2 => ?_)
  replace w := w.on X w2 hz2 hk2
  refine lv_icmp_eq (tgt := 1361) hx hb dl_994 (by decide) (fun c1 => ?_) (fun c1 => absurd h.1 c1)
  exact kk M2 H2 locs2 ls _ _ h.2 w hl (by omega) (by omega)
set_option maxHeartbeats 1000000 in
set_option maxRecDepth 100000 in
theorem lc_31 {p : Program} {l : Launch} {e : Env} {s : State} {m : MethodId} {below : List Frame} {meth : Method} {c : Code} {G : GG} {b L qo : Nat} {xs : Nat → Int32} {cJ : ClassId} (X : LX G p l s m meth c b L xs cJ qo) {Rel : Mem → Prop} {j : Nat} (hj : j + 6 ≤ L) (hL : L ≤ 384) {M : Mem} {H : Heap} {locs : List Loc} {ls : Array Slot} {cells slots : Nat} (w : LW G s M H locs cJ qo) (hl : lv_has ls 8 [(0, .ref b), (1, .ref (ga G 0)), (2, .ref (ga G 57)), (3, .ref qo), (4, .int (nI j))]) (hc : cells + 1 ≤ 600128 ∧ slots + 6 ≤ 7301098) (h : q_X5_count M (xs (j + 1)) (fun r M1 => q_X6_count M1 (xs (j + 1)) (fun r2 M2 => r = r2 ∧ Rel M2))) (kk : ∀ (M2 : Mem) (H2 : Heap) (locs2 : List Loc) (ls2 : Array Slot) (cells2 slots2 : Nat), Rel M2 → LW G s M2 H2 locs2 cJ qo → lv_has ls2 8 [(0, .ref b), (1, .ref (ga G 0)), (2, .ref (ga G 57)), (3, .ref qo), (4, .int (nI j))] → cells2 ≤ cells + 1 → slots2 ≤ slots + 6 → W p l e room_1 s m #[Value.ref b] below meth c H2 locs2 cells2 slots2 (lw_Z below #[Value.ref b] s) (F0 m 1361 ls2 [])) : W p l e room_1 s m #[Value.ref b] below meth c H locs cells slots (lw_Z below #[Value.ref b] s) (F0 m 999 ls []) := by
  have C := X.1
  have hx := C.1.1
  have hb := C.1.2.1
  refine lv_aload_n hx hb dl_999 rfl (lv_at hl 1 rfl) ?_
  refine lv_aload_n hx hb dl_1000 rfl (lv_at hl 0 rfl) ?_
  refine lv_iload hx hb dl_1001 (lv_at hl 4 rfl) ?_
  refine lv_iconst (v := 1) hx hb dl_1003 (by decide) ?_
  refine lv_iadd hx hb dl_1004 ?_
  rw [show nI j + 1 = nI (j + 1) from nI_add j 1]
  refine va_sld hx hb X.2.2.2.1 X.2.2.2.2.1 (X.nb) w.1.2 (nI_in (N := L) (by omega) (by omega)) dl_1005 ?_
  rw [nI_clamp (n := j + 1) (by omega)]
  refine eg_i w.1 (rg_V (As := [.int (xs (j + 1))]) (rest := []) C w.1 hl.1 (c_X5_count l G C.2.2.1 _ _ (xs (j + 1)) _ h) kl_35_21 kl_1_2 kl_35_18 kl_35_19 kl_35_20 hl_X5_count ⟨Nat.le_of_ble_eq_true rfl, Nat.le_of_ble_eq_true rfl⟩ ⟨Nat.le_trans (by omega) hc.1, Nat.le_trans (by omega) hc.2⟩ (w.1.recv C (i := 0) (by decide) pE_5 rfl) rfl (Nat.le_of_ble_eq_true rfl) dl_1006) (fun r M1 H1 locs1 h w1 hz1 hk1 => ?_)
  replace w := w.on X w1 hz1 hk1
  refine lv_aload_n hx hb dl_1009 rfl (lv_at hl 2 rfl) ?_
  refine lv_aload_n hx hb dl_1010 rfl (lv_at hl 0 rfl) ?_
  refine lv_iload hx hb dl_1011 (lv_at hl 4 rfl) ?_
  refine lv_iconst (v := 1) hx hb dl_1013 (by decide) ?_
  refine lv_iadd hx hb dl_1014 ?_
  rw [show nI j + 1 = nI (j + 1) from nI_add j 1]
  refine va_sld hx hb X.2.2.2.1 X.2.2.2.2.1 (X.nb) w.1.2 (nI_in (N := L) (by omega) (by omega)) dl_1015 ?_
  rw [nI_clamp (n := j + 1) (by omega)]
  refine eg_i w.1 (rg_V (As := [.int (xs (j + 1))]) (rest := [.int r]) C w.1 hl.1 (c_X6_count l G C.2.2.1 _ _ (xs (j + 1)) _ h) kl_36_4 kl_1_5 kl_36_1 kl_36_2 kl_36_3 hl_X6_count ⟨Nat.le_of_ble_eq_true rfl, Nat.le_of_ble_eq_true rfl⟩ ⟨Nat.le_trans (by omega) hc.1, Nat.le_trans (by omega) hc.2⟩ (w.1.recv C (i := 57) (by decide) pE_6 rfl) rfl (Nat.le_of_ble_eq_true rfl) dl_1016) (fun r2 M2 H2 locs2 h w2 hz2 hk2 => ?_)
  replace w := w.on X w2 hz2 hk2
  refine lv_icmp_eq (tgt := 1361) hx hb dl_1019 (by decide) (fun c1 => ?_) (fun c1 => absurd h.1 c1)
  exact kk M2 H2 locs2 ls _ _ h.2 w hl (by omega) (by omega)
set_option maxHeartbeats 1000000 in
set_option maxRecDepth 100000 in
theorem lc_32 {p : Program} {l : Launch} {e : Env} {s : State} {m : MethodId} {below : List Frame} {meth : Method} {c : Code} {G : GG} {b L qo : Nat} {xs : Nat → Int32} {cJ : ClassId} (X : LX G p l s m meth c b L xs cJ qo) {Rel : Mem → Prop} {j : Nat} (hj : j + 6 ≤ L) (hL : L ≤ 384) {M : Mem} {H : Heap} {locs : List Loc} {ls : Array Slot} {cells slots : Nat} (w : LW G s M H locs cJ qo) (hl : lv_has ls 8 [(0, .ref b), (1, .ref (ga G 0)), (2, .ref (ga G 57)), (3, .ref qo), (4, .int (nI j))]) (hc : cells + 1 ≤ 600128 ∧ slots + 6 ≤ 7301098) (h : q_X5_keep M (xs (j + 1)) (xs (j + 2)) (xs (j + 3)) (fun r M1 => q_X6_keep M1 (xs (j + 1)) (xs (j + 2)) (xs (j + 3)) (fun r2 M2 => r = r2 ∧ Rel M2))) (kk : ∀ (M2 : Mem) (H2 : Heap) (locs2 : List Loc) (ls2 : Array Slot) (cells2 slots2 : Nat), Rel M2 → LW G s M2 H2 locs2 cJ qo → lv_has ls2 8 [(0, .ref b), (1, .ref (ga G 0)), (2, .ref (ga G 57)), (3, .ref qo), (4, .int (nI j))] → cells2 ≤ cells + 1 → slots2 ≤ slots + 6 → W p l e room_1 s m #[Value.ref b] below meth c H2 locs2 cells2 slots2 (lw_Z below #[Value.ref b] s) (F0 m 1361 ls2 [])) : W p l e room_1 s m #[Value.ref b] below meth c H locs cells slots (lw_Z below #[Value.ref b] s) (F0 m 1024 ls []) := by
  have C := X.1
  have hx := C.1.1
  have hb := C.1.2.1
  refine lv_aload_n hx hb dl_1024 rfl (lv_at hl 1 rfl) ?_
  refine lv_aload_n hx hb dl_1025 rfl (lv_at hl 0 rfl) ?_
  refine lv_iload hx hb dl_1026 (lv_at hl 4 rfl) ?_
  refine lv_iconst (v := 1) hx hb dl_1028 (by decide) ?_
  refine lv_iadd hx hb dl_1029 ?_
  rw [show nI j + 1 = nI (j + 1) from nI_add j 1]
  refine va_sld hx hb X.2.2.2.1 X.2.2.2.2.1 (X.nb) w.1.2 (nI_in (N := L) (by omega) (by omega)) dl_1030 ?_
  rw [nI_clamp (n := j + 1) (by omega)]
  refine lv_aload_n hx hb dl_1031 rfl (lv_at hl 0 rfl) ?_
  refine lv_iload hx hb dl_1032 (lv_at hl 4 rfl) ?_
  refine lv_iconst (v := 2) hx hb dl_1034 (by decide) ?_
  refine lv_iadd hx hb dl_1035 ?_
  rw [show nI j + 2 = nI (j + 2) from nI_add j 2]
  refine va_sld hx hb X.2.2.2.1 X.2.2.2.2.1 (X.nb) w.1.2 (nI_in (N := L) (by omega) (by omega)) dl_1036 ?_
  rw [nI_clamp (n := j + 2) (by omega)]
  refine lv_aload_n hx hb dl_1037 rfl (lv_at hl 0 rfl) ?_
  refine lv_iload hx hb dl_1038 (lv_at hl 4 rfl) ?_
  refine lv_iconst (v := 3) hx hb dl_1040 (by decide) ?_
  refine lv_iadd hx hb dl_1041 ?_
  rw [show nI j + 3 = nI (j + 3) from nI_add j 3]
  refine va_sld hx hb X.2.2.2.1 X.2.2.2.2.1 (X.nb) w.1.2 (nI_in (N := L) (by omega) (by omega)) dl_1042 ?_
  rw [nI_clamp (n := j + 3) (by omega)]
  refine eg_i w.1 (rg_V (As := [.int (xs (j + 1)), .int (xs (j + 2)), .int (xs (j + 3))]) (rest := []) C w.1 hl.1 (c_X5_keep l G C.2.2.1 _ _ (xs (j + 1)) (xs (j + 2)) (xs (j + 3)) _ h) kl_36_8 kl_1_2 kl_36_5 kl_36_6 kl_36_7 hl_X5_keep ⟨Nat.le_of_ble_eq_true rfl, Nat.le_of_ble_eq_true rfl⟩ ⟨Nat.le_trans (by omega) hc.1, Nat.le_trans (by omega) hc.2⟩ (w.1.recv C (i := 0) (by decide) pE_5 rfl) rfl (Nat.le_of_ble_eq_true rfl) dl_1043) (fun r M1 H1 locs1 h w1 hz1 hk1 => ?_)
  replace w := w.on X w1 hz1 hk1
  refine lv_aload_n hx hb dl_1046 rfl (lv_at hl 2 rfl) ?_
  refine lv_aload_n hx hb dl_1047 rfl (lv_at hl 0 rfl) ?_
  refine lv_iload hx hb dl_1048 (lv_at hl 4 rfl) ?_
  refine lv_iconst (v := 1) hx hb dl_1050 (by decide) ?_
  refine lv_iadd hx hb dl_1051 ?_
  rw [show nI j + 1 = nI (j + 1) from nI_add j 1]
  refine va_sld hx hb X.2.2.2.1 X.2.2.2.2.1 (X.nb) w.1.2 (nI_in (N := L) (by omega) (by omega)) dl_1052 ?_
  rw [nI_clamp (n := j + 1) (by omega)]
  refine lv_aload_n hx hb dl_1053 rfl (lv_at hl 0 rfl) ?_
  refine lv_iload hx hb dl_1054 (lv_at hl 4 rfl) ?_
  refine lv_iconst (v := 2) hx hb dl_1056 (by decide) ?_
  refine lv_iadd hx hb dl_1057 ?_
  rw [show nI j + 2 = nI (j + 2) from nI_add j 2]
  refine va_sld hx hb X.2.2.2.1 X.2.2.2.2.1 (X.nb) w.1.2 (nI_in (N := L) (by omega) (by omega)) dl_1058 ?_
  rw [nI_clamp (n := j + 2) (by omega)]
  refine lv_aload_n hx hb dl_1059 rfl (lv_at hl 0 rfl) ?_
  refine lv_iload hx hb dl_1060 (lv_at hl 4 rfl) ?_
  refine lv_iconst (v := 3) hx hb dl_1062 (by decide) ?_
  refine lv_iadd hx hb dl_1063 ?_
  rw [show nI j + 3 = nI (j + 3) from nI_add j 3]
  refine va_sld hx hb X.2.2.2.1 X.2.2.2.2.1 (X.nb) w.1.2 (nI_in (N := L) (by omega) (by omega)) dl_1064 ?_
  rw [nI_clamp (n := j + 3) (by omega)]
  refine eg_i w.1 (rg_V (As := [.int (xs (j + 1)), .int (xs (j + 2)), .int (xs (j + 3))]) (rest := [.int r]) C w.1 hl.1 (c_X6_keep l G C.2.2.1 _ _ (xs (j + 1)) (xs (j + 2)) (xs (j + 3)) _ h) kl_36_18 kl_1_5 kl_36_15 kl_36_16 kl_36_17 hl_X6_keep ⟨Nat.le_of_ble_eq_true rfl, Nat.le_of_ble_eq_true rfl⟩ ⟨Nat.le_trans (by omega) hc.1, Nat.le_trans (by omega) hc.2⟩ (w.1.recv C (i := 57) (by decide) pE_6 rfl) rfl (Nat.le_of_ble_eq_true rfl) dl_1065) (fun r2 M2 H2 locs2 h w2 hz2 hk2 => ?_)
  replace w := w.on X w2 hz2 hk2
  refine lv_icmp_eq (tgt := 1361) hx hb dl_1068 (by decide) (fun c1 => ?_) (fun c1 => absurd h.1 c1)
  exact kk M2 H2 locs2 ls _ _ h.2 w hl (by omega) (by omega)
set_option maxHeartbeats 1000000 in
set_option maxRecDepth 100000 in
theorem lc_33 {p : Program} {l : Launch} {e : Env} {s : State} {m : MethodId} {below : List Frame} {meth : Method} {c : Code} {G : GG} {b L qo : Nat} {xs : Nat → Int32} {cJ : ClassId} (X : LX G p l s m meth c b L xs cJ qo) {Rel : Mem → Prop} {j : Nat} (hj : j + 6 ≤ L) (hL : L ≤ 384) {M : Mem} {H : Heap} {locs : List Loc} {ls : Array Slot} {cells slots : Nat} (w : LW G s M H locs cJ qo) (hl : lv_has ls 8 [(0, .ref b), (1, .ref (ga G 0)), (2, .ref (ga G 57)), (3, .ref qo), (4, .int (nI j))]) (hc : cells + 1 ≤ 600128 ∧ slots + 6 ≤ 7301098) (h : q_X5_row M (xs (j + 1)) (xs (j + 2)) (xs (j + 3)) (fun r M1 => q_X6_row M1 (xs (j + 1)) (xs (j + 2)) (xs (j + 3)) (fun r2 M2 => r = r2 ∧ Rel M2))) (kk : ∀ (M2 : Mem) (H2 : Heap) (locs2 : List Loc) (ls2 : Array Slot) (cells2 slots2 : Nat), Rel M2 → LW G s M2 H2 locs2 cJ qo → lv_has ls2 8 [(0, .ref b), (1, .ref (ga G 0)), (2, .ref (ga G 57)), (3, .ref qo), (4, .int (nI j))] → cells2 ≤ cells + 1 → slots2 ≤ slots + 6 → W p l e room_1 s m #[Value.ref b] below meth c H2 locs2 cells2 slots2 (lw_Z below #[Value.ref b] s) (F0 m 1361 ls2 [])) : W p l e room_1 s m #[Value.ref b] below meth c H locs cells slots (lw_Z below #[Value.ref b] s) (F0 m 1073 ls []) := by
  have C := X.1
  have hx := C.1.1
  have hb := C.1.2.1
  refine lv_aload_n hx hb dl_1073 rfl (lv_at hl 1 rfl) ?_
  refine lv_aload_n hx hb dl_1074 rfl (lv_at hl 0 rfl) ?_
  refine lv_iload hx hb dl_1075 (lv_at hl 4 rfl) ?_
  refine lv_iconst (v := 1) hx hb dl_1077 (by decide) ?_
  refine lv_iadd hx hb dl_1078 ?_
  rw [show nI j + 1 = nI (j + 1) from nI_add j 1]
  refine va_sld hx hb X.2.2.2.1 X.2.2.2.2.1 (X.nb) w.1.2 (nI_in (N := L) (by omega) (by omega)) dl_1079 ?_
  rw [nI_clamp (n := j + 1) (by omega)]
  refine lv_aload_n hx hb dl_1080 rfl (lv_at hl 0 rfl) ?_
  refine lv_iload hx hb dl_1081 (lv_at hl 4 rfl) ?_
  refine lv_iconst (v := 2) hx hb dl_1083 (by decide) ?_
  refine lv_iadd hx hb dl_1084 ?_
  rw [show nI j + 2 = nI (j + 2) from nI_add j 2]
  refine va_sld hx hb X.2.2.2.1 X.2.2.2.2.1 (X.nb) w.1.2 (nI_in (N := L) (by omega) (by omega)) dl_1085 ?_
  rw [nI_clamp (n := j + 2) (by omega)]
  refine lv_aload_n hx hb dl_1086 rfl (lv_at hl 0 rfl) ?_
  refine lv_iload hx hb dl_1087 (lv_at hl 4 rfl) ?_
  refine lv_iconst (v := 3) hx hb dl_1089 (by decide) ?_
  refine lv_iadd hx hb dl_1090 ?_
  rw [show nI j + 3 = nI (j + 3) from nI_add j 3]
  refine va_sld hx hb X.2.2.2.1 X.2.2.2.2.1 (X.nb) w.1.2 (nI_in (N := L) (by omega) (by omega)) dl_1091 ?_
  rw [nI_clamp (n := j + 3) (by omega)]
  refine eg_i w.1 (rg_V (As := [.int (xs (j + 1)), .int (xs (j + 2)), .int (xs (j + 3))]) (rest := []) C w.1 hl.1 (c_X5_row l G C.2.2.1 _ _ (xs (j + 1)) (xs (j + 2)) (xs (j + 3)) _ h) kl_37_2 kl_1_2 kl_36_23 kl_37_0 kl_37_1 hl_X5_row ⟨Nat.le_of_ble_eq_true rfl, Nat.le_of_ble_eq_true rfl⟩ ⟨Nat.le_trans (by omega) hc.1, Nat.le_trans (by omega) hc.2⟩ (w.1.recv C (i := 0) (by decide) pE_5 rfl) rfl (Nat.le_of_ble_eq_true rfl) dl_1092) (fun r M1 H1 locs1 h w1 hz1 hk1 => ?_)
  replace w := w.on X w1 hz1 hk1
  refine lv_aload_n hx hb dl_1095 rfl (lv_at hl 2 rfl) ?_
  refine lv_aload_n hx hb dl_1096 rfl (lv_at hl 0 rfl) ?_
  refine lv_iload hx hb dl_1097 (lv_at hl 4 rfl) ?_
  refine lv_iconst (v := 1) hx hb dl_1099 (by decide) ?_
  refine lv_iadd hx hb dl_1100 ?_
  rw [show nI j + 1 = nI (j + 1) from nI_add j 1]
  refine va_sld hx hb X.2.2.2.1 X.2.2.2.2.1 (X.nb) w.1.2 (nI_in (N := L) (by omega) (by omega)) dl_1101 ?_
  rw [nI_clamp (n := j + 1) (by omega)]
  refine lv_aload_n hx hb dl_1102 rfl (lv_at hl 0 rfl) ?_
  refine lv_iload hx hb dl_1103 (lv_at hl 4 rfl) ?_
  refine lv_iconst (v := 2) hx hb dl_1105 (by decide) ?_
  refine lv_iadd hx hb dl_1106 ?_
  rw [show nI j + 2 = nI (j + 2) from nI_add j 2]
  refine va_sld hx hb X.2.2.2.1 X.2.2.2.2.1 (X.nb) w.1.2 (nI_in (N := L) (by omega) (by omega)) dl_1107 ?_
  rw [nI_clamp (n := j + 2) (by omega)]
  refine lv_aload_n hx hb dl_1108 rfl (lv_at hl 0 rfl) ?_
  refine lv_iload hx hb dl_1109 (lv_at hl 4 rfl) ?_
  refine lv_iconst (v := 3) hx hb dl_1111 (by decide) ?_
  refine lv_iadd hx hb dl_1112 ?_
  rw [show nI j + 3 = nI (j + 3) from nI_add j 3]
  refine va_sld hx hb X.2.2.2.1 X.2.2.2.2.1 (X.nb) w.1.2 (nI_in (N := L) (by omega) (by omega)) dl_1113 ?_
  rw [nI_clamp (n := j + 3) (by omega)]
  refine eg_i w.1 (rg_V (As := [.int (xs (j + 1)), .int (xs (j + 2)), .int (xs (j + 3))]) (rest := [.int r]) C w.1 hl.1 (c_X6_row l G C.2.2.1 _ _ (xs (j + 1)) (xs (j + 2)) (xs (j + 3)) _ h) kl_37_13 kl_1_5 kl_37_10 kl_37_11 kl_37_12 hl_X6_row ⟨Nat.le_of_ble_eq_true rfl, Nat.le_of_ble_eq_true rfl⟩ ⟨Nat.le_trans (by omega) hc.1, Nat.le_trans (by omega) hc.2⟩ (w.1.recv C (i := 57) (by decide) pE_6 rfl) rfl (Nat.le_of_ble_eq_true rfl) dl_1114) (fun r2 M2 H2 locs2 h w2 hz2 hk2 => ?_)
  replace w := w.on X w2 hz2 hk2
  refine lv_icmp_eq (tgt := 1361) hx hb dl_1117 (by decide) (fun c1 => ?_) (fun c1 => absurd h.1 c1)
  exact kk M2 H2 locs2 ls _ _ h.2 w hl (by omega) (by omega)
set_option maxHeartbeats 1000000 in
set_option maxRecDepth 100000 in
theorem lc_34 {p : Program} {l : Launch} {e : Env} {s : State} {m : MethodId} {below : List Frame} {meth : Method} {c : Code} {G : GG} {b L qo : Nat} {xs : Nat → Int32} {cJ : ClassId} (X : LX G p l s m meth c b L xs cJ qo) {Rel : Mem → Prop} {j : Nat} (hj : j + 6 ≤ L) (hL : L ≤ 384) {M : Mem} {H : Heap} {locs : List Loc} {ls : Array Slot} {cells slots : Nat} (w : LW G s M H locs cJ qo) (hl : lv_has ls 8 [(0, .ref b), (1, .ref (ga G 0)), (2, .ref (ga G 57)), (3, .ref qo), (4, .int (nI j))]) (hc : cells + 1 ≤ 600128 ∧ slots + 6 ≤ 7301098) (h : q_X5_put M (xs (j + 1)) (xs (j + 2)) (xs (j + 3)) (fun r M1 => q_X6_put M1 (xs (j + 1)) (xs (j + 2)) (xs (j + 3)) (fun r2 M2 => r = r2 ∧ Rel M2))) (kk : ∀ (M2 : Mem) (H2 : Heap) (locs2 : List Loc) (ls2 : Array Slot) (cells2 slots2 : Nat), Rel M2 → LW G s M2 H2 locs2 cJ qo → lv_has ls2 8 [(0, .ref b), (1, .ref (ga G 0)), (2, .ref (ga G 57)), (3, .ref qo), (4, .int (nI j))] → cells2 ≤ cells + 1 → slots2 ≤ slots + 6 → W p l e room_1 s m #[Value.ref b] below meth c H2 locs2 cells2 slots2 (lw_Z below #[Value.ref b] s) (F0 m 1361 ls2 [])) : W p l e room_1 s m #[Value.ref b] below meth c H locs cells slots (lw_Z below #[Value.ref b] s) (F0 m 1122 ls []) := by
  have C := X.1
  have hx := C.1.1
  have hb := C.1.2.1
  refine lv_aload_n hx hb dl_1122 rfl (lv_at hl 1 rfl) ?_
  refine lv_aload_n hx hb dl_1123 rfl (lv_at hl 0 rfl) ?_
  refine lv_iload hx hb dl_1124 (lv_at hl 4 rfl) ?_
  refine lv_iconst (v := 1) hx hb dl_1126 (by decide) ?_
  refine lv_iadd hx hb dl_1127 ?_
  rw [show nI j + 1 = nI (j + 1) from nI_add j 1]
  refine va_sld hx hb X.2.2.2.1 X.2.2.2.2.1 (X.nb) w.1.2 (nI_in (N := L) (by omega) (by omega)) dl_1128 ?_
  rw [nI_clamp (n := j + 1) (by omega)]
  refine lv_aload_n hx hb dl_1129 rfl (lv_at hl 0 rfl) ?_
  refine lv_iload hx hb dl_1130 (lv_at hl 4 rfl) ?_
  refine lv_iconst (v := 2) hx hb dl_1132 (by decide) ?_
  refine lv_iadd hx hb dl_1133 ?_
  rw [show nI j + 2 = nI (j + 2) from nI_add j 2]
  refine va_sld hx hb X.2.2.2.1 X.2.2.2.2.1 (X.nb) w.1.2 (nI_in (N := L) (by omega) (by omega)) dl_1134 ?_
  rw [nI_clamp (n := j + 2) (by omega)]
  refine lv_aload_n hx hb dl_1135 rfl (lv_at hl 0 rfl) ?_
  refine lv_iload hx hb dl_1136 (lv_at hl 4 rfl) ?_
  refine lv_iconst (v := 3) hx hb dl_1138 (by decide) ?_
  refine lv_iadd hx hb dl_1139 ?_
  rw [show nI j + 3 = nI (j + 3) from nI_add j 3]
  refine va_sld hx hb X.2.2.2.1 X.2.2.2.2.1 (X.nb) w.1.2 (nI_in (N := L) (by omega) (by omega)) dl_1140 ?_
  rw [nI_clamp (n := j + 3) (by omega)]
  refine eg_i w.1 (rg_V (As := [.int (xs (j + 1)), .int (xs (j + 2)), .int (xs (j + 3))]) (rest := []) C w.1 hl.1 (c_X5_put l G C.2.2.1 _ _ (xs (j + 1)) (xs (j + 2)) (xs (j + 3)) _ h) kl_37_17 kl_1_2 kl_37_14 kl_37_15 kl_37_16 hl_X5_put ⟨Nat.le_of_ble_eq_true rfl, Nat.le_of_ble_eq_true rfl⟩ ⟨Nat.le_trans (by omega) hc.1, Nat.le_trans (by omega) hc.2⟩ (w.1.recv C (i := 0) (by decide) pE_5 rfl) rfl (Nat.le_of_ble_eq_true rfl) dl_1141) (fun r M1 H1 locs1 h w1 hz1 hk1 => ?_)
  replace w := w.on X w1 hz1 hk1
  refine lv_aload_n hx hb dl_1144 rfl (lv_at hl 2 rfl) ?_
  refine lv_aload_n hx hb dl_1145 rfl (lv_at hl 0 rfl) ?_
  refine lv_iload hx hb dl_1146 (lv_at hl 4 rfl) ?_
  refine lv_iconst (v := 1) hx hb dl_1148 (by decide) ?_
  refine lv_iadd hx hb dl_1149 ?_
  rw [show nI j + 1 = nI (j + 1) from nI_add j 1]
  refine va_sld hx hb X.2.2.2.1 X.2.2.2.2.1 (X.nb) w.1.2 (nI_in (N := L) (by omega) (by omega)) dl_1150 ?_
  rw [nI_clamp (n := j + 1) (by omega)]
  refine lv_aload_n hx hb dl_1151 rfl (lv_at hl 0 rfl) ?_
  refine lv_iload hx hb dl_1152 (lv_at hl 4 rfl) ?_
  refine lv_iconst (v := 2) hx hb dl_1154 (by decide) ?_
  refine lv_iadd hx hb dl_1155 ?_
  rw [show nI j + 2 = nI (j + 2) from nI_add j 2]
  refine va_sld hx hb X.2.2.2.1 X.2.2.2.2.1 (X.nb) w.1.2 (nI_in (N := L) (by omega) (by omega)) dl_1156 ?_
  rw [nI_clamp (n := j + 2) (by omega)]
  refine lv_aload_n hx hb dl_1157 rfl (lv_at hl 0 rfl) ?_
  refine lv_iload hx hb dl_1158 (lv_at hl 4 rfl) ?_
  refine lv_iconst (v := 3) hx hb dl_1160 (by decide) ?_
  refine lv_iadd hx hb dl_1161 ?_
  rw [show nI j + 3 = nI (j + 3) from nI_add j 3]
  refine va_sld hx hb X.2.2.2.1 X.2.2.2.2.1 (X.nb) w.1.2 (nI_in (N := L) (by omega) (by omega)) dl_1162 ?_
  rw [nI_clamp (n := j + 3) (by omega)]
  refine eg_i w.1 (rg_V (As := [.int (xs (j + 1)), .int (xs (j + 2)), .int (xs (j + 3))]) (rest := [.int r]) C w.1 hl.1 (c_X6_put l G C.2.2.1 _ _ (xs (j + 1)) (xs (j + 2)) (xs (j + 3)) _ h) kl_38_0 kl_1_5 kl_37_21 kl_37_22 kl_37_23 hl_X6_put ⟨Nat.le_of_ble_eq_true rfl, Nat.le_of_ble_eq_true rfl⟩ ⟨Nat.le_trans (by omega) hc.1, Nat.le_trans (by omega) hc.2⟩ (w.1.recv C (i := 57) (by decide) pE_6 rfl) rfl (Nat.le_of_ble_eq_true rfl) dl_1163) (fun r2 M2 H2 locs2 h w2 hz2 hk2 => ?_)
  replace w := w.on X w2 hz2 hk2
  refine lv_icmp_eq (tgt := 1361) hx hb dl_1166 (by decide) (fun c1 => ?_) (fun c1 => absurd h.1 c1)
  exact kk M2 H2 locs2 ls _ _ h.2 w hl (by omega) (by omega)
set_option maxHeartbeats 1000000 in
set_option maxRecDepth 100000 in
theorem lc_36 {p : Program} {l : Launch} {e : Env} {s : State} {m : MethodId} {below : List Frame} {meth : Method} {c : Code} {G : GG} {b L qo : Nat} {xs : Nat → Int32} {cJ : ClassId} (X : LX G p l s m meth c b L xs cJ qo) {Rel : Mem → Prop} {j : Nat} (hj : j + 6 ≤ L) (hL : L ≤ 384) {M : Mem} {H : Heap} {locs : List Loc} {ls : Array Slot} {cells slots : Nat} (w : LW G s M H locs cJ qo) (hl : lv_has ls 8 [(0, .ref b), (1, .ref (ga G 0)), (2, .ref (ga G 57)), (3, .ref qo), (4, .int (nI j))]) (hc : cells + 1 ≤ 600128 ∧ slots + 6 ≤ 7301098) (h : q_X5_copy M (xs (j + 1)) (xs (j + 2)) (xs (j + 3)) (xs (j + 4)) (xs (j + 5)) (fun r M1 => q_X6_copy M1 (xs (j + 1)) (xs (j + 2)) (xs (j + 3)) (xs (j + 4)) (xs (j + 5)) (fun r2 M2 => r = r2 ∧ Rel M2))) (kk : ∀ (M2 : Mem) (H2 : Heap) (locs2 : List Loc) (ls2 : Array Slot) (cells2 slots2 : Nat), Rel M2 → LW G s M2 H2 locs2 cJ qo → lv_has ls2 8 [(0, .ref b), (1, .ref (ga G 0)), (2, .ref (ga G 57)), (3, .ref qo), (4, .int (nI j))] → cells2 ≤ cells + 1 → slots2 ≤ slots + 6 → W p l e room_1 s m #[Value.ref b] below meth c H2 locs2 cells2 slots2 (lw_Z below #[Value.ref b] s) (F0 m 1361 ls2 [])) : W p l e room_1 s m #[Value.ref b] below meth c H locs cells slots (lw_Z below #[Value.ref b] s) (F0 m 1238 ls []) := by
  have C := X.1
  have hx := C.1.1
  have hb := C.1.2.1
  refine lv_aload_n hx hb dl_1238 rfl (lv_at hl 1 rfl) ?_
  refine lv_aload_n hx hb dl_1239 rfl (lv_at hl 0 rfl) ?_
  refine lv_iload hx hb dl_1240 (lv_at hl 4 rfl) ?_
  refine lv_iconst (v := 1) hx hb dl_1242 (by decide) ?_
  refine lv_iadd hx hb dl_1243 ?_
  rw [show nI j + 1 = nI (j + 1) from nI_add j 1]
  refine va_sld hx hb X.2.2.2.1 X.2.2.2.2.1 (X.nb) w.1.2 (nI_in (N := L) (by omega) (by omega)) dl_1244 ?_
  rw [nI_clamp (n := j + 1) (by omega)]
  refine lv_aload_n hx hb dl_1245 rfl (lv_at hl 0 rfl) ?_
  refine lv_iload hx hb dl_1246 (lv_at hl 4 rfl) ?_
  refine lv_iconst (v := 2) hx hb dl_1248 (by decide) ?_
  refine lv_iadd hx hb dl_1249 ?_
  rw [show nI j + 2 = nI (j + 2) from nI_add j 2]
  refine va_sld hx hb X.2.2.2.1 X.2.2.2.2.1 (X.nb) w.1.2 (nI_in (N := L) (by omega) (by omega)) dl_1250 ?_
  rw [nI_clamp (n := j + 2) (by omega)]
  refine lv_aload_n hx hb dl_1251 rfl (lv_at hl 0 rfl) ?_
  refine lv_iload hx hb dl_1252 (lv_at hl 4 rfl) ?_
  refine lv_iconst (v := 3) hx hb dl_1254 (by decide) ?_
  refine lv_iadd hx hb dl_1255 ?_
  rw [show nI j + 3 = nI (j + 3) from nI_add j 3]
  refine va_sld hx hb X.2.2.2.1 X.2.2.2.2.1 (X.nb) w.1.2 (nI_in (N := L) (by omega) (by omega)) dl_1256 ?_
  rw [nI_clamp (n := j + 3) (by omega)]
  refine lv_aload_n hx hb dl_1257 rfl (lv_at hl 0 rfl) ?_
  refine lv_iload hx hb dl_1258 (lv_at hl 4 rfl) ?_
  refine lv_iconst (v := 4) hx hb dl_1260 (by decide) ?_
  refine lv_iadd hx hb dl_1261 ?_
  rw [show nI j + 4 = nI (j + 4) from nI_add j 4]
  refine va_sld hx hb X.2.2.2.1 X.2.2.2.2.1 (X.nb) w.1.2 (nI_in (N := L) (by omega) (by omega)) dl_1262 ?_
  rw [nI_clamp (n := j + 4) (by omega)]
  refine lv_aload_n hx hb dl_1263 rfl (lv_at hl 0 rfl) ?_
  refine lv_iload hx hb dl_1264 (lv_at hl 4 rfl) ?_
  refine lv_iconst (v := 5) hx hb dl_1266 (by decide) ?_
  refine lv_iadd hx hb dl_1267 ?_
  rw [show nI j + 5 = nI (j + 5) from nI_add j 5]
  refine va_sld hx hb X.2.2.2.1 X.2.2.2.2.1 (X.nb) w.1.2 (nI_in (N := L) (by omega) (by omega)) dl_1268 ?_
  rw [nI_clamp (n := j + 5) (by omega)]
  refine eg_i w.1 (rg_V (As := [.int (xs (j + 1)), .int (xs (j + 2)), .int (xs (j + 3)), .int (xs (j + 4)), .int (xs (j + 5))]) (rest := []) C w.1 hl.1 (c_X5_copy l G C.2.2.1 _ _ (xs (j + 1)) (xs (j + 2)) (xs (j + 3)) (xs (j + 4)) (xs (j + 5)) _ h) kl_39_3 kl_1_2 kl_39_0 kl_39_1 kl_39_2 hl_X5_copy ⟨Nat.le_of_ble_eq_true rfl, Nat.le_of_ble_eq_true rfl⟩ ⟨Nat.le_trans (by omega) hc.1, Nat.le_trans (by omega) hc.2⟩ (w.1.recv C (i := 0) (by decide) pE_5 rfl) rfl (Nat.le_of_ble_eq_true rfl) dl_1269) (fun r M1 H1 locs1 h w1 hz1 hk1 => ?_)
  replace w := w.on X w1 hz1 hk1
  refine lv_aload_n hx hb dl_1272 rfl (lv_at hl 2 rfl) ?_
  refine lv_aload_n hx hb dl_1273 rfl (lv_at hl 0 rfl) ?_
  refine lv_iload hx hb dl_1274 (lv_at hl 4 rfl) ?_
  refine lv_iconst (v := 1) hx hb dl_1276 (by decide) ?_
  refine lv_iadd hx hb dl_1277 ?_
  rw [show nI j + 1 = nI (j + 1) from nI_add j 1]
  refine va_sld hx hb X.2.2.2.1 X.2.2.2.2.1 (X.nb) w.1.2 (nI_in (N := L) (by omega) (by omega)) dl_1278 ?_
  rw [nI_clamp (n := j + 1) (by omega)]
  refine lv_aload_n hx hb dl_1279 rfl (lv_at hl 0 rfl) ?_
  refine lv_iload hx hb dl_1280 (lv_at hl 4 rfl) ?_
  refine lv_iconst (v := 2) hx hb dl_1282 (by decide) ?_
  refine lv_iadd hx hb dl_1283 ?_
  rw [show nI j + 2 = nI (j + 2) from nI_add j 2]
  refine va_sld hx hb X.2.2.2.1 X.2.2.2.2.1 (X.nb) w.1.2 (nI_in (N := L) (by omega) (by omega)) dl_1284 ?_
  rw [nI_clamp (n := j + 2) (by omega)]
  refine lv_aload_n hx hb dl_1285 rfl (lv_at hl 0 rfl) ?_
  refine lv_iload hx hb dl_1286 (lv_at hl 4 rfl) ?_
  refine lv_iconst (v := 3) hx hb dl_1288 (by decide) ?_
  refine lv_iadd hx hb dl_1289 ?_
  rw [show nI j + 3 = nI (j + 3) from nI_add j 3]
  refine va_sld hx hb X.2.2.2.1 X.2.2.2.2.1 (X.nb) w.1.2 (nI_in (N := L) (by omega) (by omega)) dl_1290 ?_
  rw [nI_clamp (n := j + 3) (by omega)]
  refine lv_aload_n hx hb dl_1291 rfl (lv_at hl 0 rfl) ?_
  refine lv_iload hx hb dl_1292 (lv_at hl 4 rfl) ?_
  refine lv_iconst (v := 4) hx hb dl_1294 (by decide) ?_
  refine lv_iadd hx hb dl_1295 ?_
  rw [show nI j + 4 = nI (j + 4) from nI_add j 4]
  refine va_sld hx hb X.2.2.2.1 X.2.2.2.2.1 (X.nb) w.1.2 (nI_in (N := L) (by omega) (by omega)) dl_1296 ?_
  rw [nI_clamp (n := j + 4) (by omega)]
  refine lv_aload_n hx hb dl_1297 rfl (lv_at hl 0 rfl) ?_
  refine lv_iload hx hb dl_1298 (lv_at hl 4 rfl) ?_
  refine lv_iconst (v := 5) hx hb dl_1300 (by decide) ?_
  refine lv_iadd hx hb dl_1301 ?_
  rw [show nI j + 5 = nI (j + 5) from nI_add j 5]
  refine va_sld hx hb X.2.2.2.1 X.2.2.2.2.1 (X.nb) w.1.2 (nI_in (N := L) (by omega) (by omega)) dl_1302 ?_
  rw [nI_clamp (n := j + 5) (by omega)]
  refine eg_i w.1 (rg_V (As := [.int (xs (j + 1)), .int (xs (j + 2)), .int (xs (j + 3)), .int (xs (j + 4)), .int (xs (j + 5))]) (rest := [.int r]) C w.1 hl.1 (c_X6_copy l G C.2.2.1 _ _ (xs (j + 1)) (xs (j + 2)) (xs (j + 3)) (xs (j + 4)) (xs (j + 5)) _ h) kl_39_11 kl_1_5 kl_39_8 kl_39_9 kl_39_10 hl_X6_copy ⟨Nat.le_of_ble_eq_true rfl, Nat.le_of_ble_eq_true rfl⟩ ⟨Nat.le_trans (by omega) hc.1, Nat.le_trans (by omega) hc.2⟩ (w.1.recv C (i := 57) (by decide) pE_6 rfl) rfl (Nat.le_of_ble_eq_true rfl) dl_1303) (fun r2 M2 H2 locs2 h w2 hz2 hk2 => ?_)
  replace w := w.on X w2 hz2 hk2
  refine lv_icmp_eq (tgt := 1361) hx hb dl_1306 (by decide) (fun c1 => ?_) (fun c1 => absurd h.1 c1)
  exact kk M2 H2 locs2 ls _ _ h.2 w hl (by omega) (by omega)
set_option maxHeartbeats 1000000 in
set_option maxRecDepth 100000 in
theorem lc_37 {p : Program} {l : Launch} {e : Env} {s : State} {m : MethodId} {below : List Frame} {meth : Method} {c : Code} {G : GG} {b L qo : Nat} {xs : Nat → Int32} {cJ : ClassId} (X : LX G p l s m meth c b L xs cJ qo) {Rel : Mem → Prop} {j : Nat} (hj : j + 6 ≤ L) (hL : L ≤ 384) {M : Mem} {H : Heap} {locs : List Loc} {ls : Array Slot} {cells slots : Nat} (w : LW G s M H locs cJ qo) (hl : lv_has ls 8 [(0, .ref b), (1, .ref (ga G 0)), (2, .ref (ga G 57)), (3, .ref qo), (4, .int (nI j))]) (hc : cells + 1 ≤ 600128 ∧ slots + 6 ≤ 7301098) (h : q_X5_price M (xs (j + 1)) (fun r M1 => q_X6_price M1 (xs (j + 1)) (fun r2 M2 => r = r2 ∧ Rel M2))) (kk : ∀ (M2 : Mem) (H2 : Heap) (locs2 : List Loc) (ls2 : Array Slot) (cells2 slots2 : Nat), Rel M2 → LW G s M2 H2 locs2 cJ qo → lv_has ls2 8 [(0, .ref b), (1, .ref (ga G 0)), (2, .ref (ga G 57)), (3, .ref qo), (4, .int (nI j))] → cells2 ≤ cells + 1 → slots2 ≤ slots + 6 → W p l e room_1 s m #[Value.ref b] below meth c H2 locs2 cells2 slots2 (lw_Z below #[Value.ref b] s) (F0 m 1361 ls2 [])) : W p l e room_1 s m #[Value.ref b] below meth c H locs cells slots (lw_Z below #[Value.ref b] s) (F0 m 1311 ls []) := by
  have C := X.1
  have hx := C.1.1
  have hb := C.1.2.1
  refine lv_aload_n hx hb dl_1311 rfl (lv_at hl 1 rfl) ?_
  refine lv_aload_n hx hb dl_1312 rfl (lv_at hl 0 rfl) ?_
  refine lv_iload hx hb dl_1313 (lv_at hl 4 rfl) ?_
  refine lv_iconst (v := 1) hx hb dl_1315 (by decide) ?_
  refine lv_iadd hx hb dl_1316 ?_
  rw [show nI j + 1 = nI (j + 1) from nI_add j 1]
  refine va_sld hx hb X.2.2.2.1 X.2.2.2.2.1 (X.nb) w.1.2 (nI_in (N := L) (by omega) (by omega)) dl_1317 ?_
  rw [nI_clamp (n := j + 1) (by omega)]
  refine eg_i w.1 (rg_V (As := [.int (xs (j + 1))]) (rest := []) C w.1 hl.1 (c_X5_price l G C.2.2.1 _ _ (xs (j + 1)) _ h) kl_39_15 kl_1_2 kl_39_12 kl_39_13 kl_39_14 hl_X5_price ⟨Nat.le_of_ble_eq_true rfl, Nat.le_of_ble_eq_true rfl⟩ ⟨Nat.le_trans (by omega) hc.1, Nat.le_trans (by omega) hc.2⟩ (w.1.recv C (i := 0) (by decide) pE_5 rfl) rfl (Nat.le_of_ble_eq_true rfl) dl_1318) (fun r M1 H1 locs1 h w1 hz1 hk1 => ?_)
  replace w := w.on X w1 hz1 hk1
  refine lv_aload_n hx hb dl_1321 rfl (lv_at hl 2 rfl) ?_
  refine lv_aload_n hx hb dl_1322 rfl (lv_at hl 0 rfl) ?_
  refine lv_iload hx hb dl_1323 (lv_at hl 4 rfl) ?_
  refine lv_iconst (v := 1) hx hb dl_1325 (by decide) ?_
  refine lv_iadd hx hb dl_1326 ?_
  rw [show nI j + 1 = nI (j + 1) from nI_add j 1]
  refine va_sld hx hb X.2.2.2.1 X.2.2.2.2.1 (X.nb) w.1.2 (nI_in (N := L) (by omega) (by omega)) dl_1327 ?_
  rw [nI_clamp (n := j + 1) (by omega)]
  refine eg_i w.1 (rg_V (As := [.int (xs (j + 1))]) (rest := [.int r]) C w.1 hl.1 (c_X6_price l G C.2.2.1 _ _ (xs (j + 1)) _ h) kl_40_5 kl_1_5 kl_40_2 kl_40_3 kl_40_4 hl_X6_price ⟨Nat.le_of_ble_eq_true rfl, Nat.le_of_ble_eq_true rfl⟩ ⟨Nat.le_trans (by omega) hc.1, Nat.le_trans (by omega) hc.2⟩ (w.1.recv C (i := 57) (by decide) pE_6 rfl) rfl (Nat.le_of_ble_eq_true rfl) dl_1328) (fun r2 M2 H2 locs2 h w2 hz2 hk2 => ?_)
  replace w := w.on X w2 hz2 hk2
  refine lv_icmp_eq (tgt := 1361) hx hb dl_1331 (by decide) (fun c1 => ?_) (fun c1 => absurd h.1 c1)
  exact kk M2 H2 locs2 ls _ _ h.2 w hl (by omega) (by omega)
set_option maxHeartbeats 1000000 in
set_option maxRecDepth 100000 in
theorem lc_38 {p : Program} {l : Launch} {e : Env} {s : State} {m : MethodId} {below : List Frame} {meth : Method} {c : Code} {G : GG} {b L qo : Nat} {xs : Nat → Int32} {cJ : ClassId} (X : LX G p l s m meth c b L xs cJ qo) {Rel : Mem → Prop} {j : Nat} (hj : j + 6 ≤ L) (hL : L ≤ 384) {M : Mem} {H : Heap} {locs : List Loc} {ls : Array Slot} {cells slots : Nat} (w : LW G s M H locs cJ qo) (hl : lv_has ls 8 [(0, .ref b), (1, .ref (ga G 0)), (2, .ref (ga G 57)), (3, .ref qo), (4, .int (nI j))]) (hc : cells + 1 ≤ 600128 ∧ slots + 6 ≤ 7301098) (h : q_X5_toss M (xs (j + 1)) (fun r M1 => q_X6_toss M1 (xs (j + 1)) (fun r2 M2 => r = r2 ∧ Rel M2))) (kk : ∀ (M2 : Mem) (H2 : Heap) (locs2 : List Loc) (ls2 : Array Slot) (cells2 slots2 : Nat), Rel M2 → LW G s M2 H2 locs2 cJ qo → lv_has ls2 8 [(0, .ref b), (1, .ref (ga G 0)), (2, .ref (ga G 57)), (3, .ref qo), (4, .int (nI j))] → cells2 ≤ cells + 1 → slots2 ≤ slots + 6 → W p l e room_1 s m #[Value.ref b] below meth c H2 locs2 cells2 slots2 (lw_Z below #[Value.ref b] s) (F0 m 1361 ls2 [])) : W p l e room_1 s m #[Value.ref b] below meth c H locs cells slots (lw_Z below #[Value.ref b] s) (F0 m 1336 ls []) := by
  have C := X.1
  have hx := C.1.1
  have hb := C.1.2.1
  refine lv_aload_n hx hb dl_1336 rfl (lv_at hl 1 rfl) ?_
  refine lv_aload_n hx hb dl_1337 rfl (lv_at hl 0 rfl) ?_
  refine lv_iload hx hb dl_1338 (lv_at hl 4 rfl) ?_
  refine lv_iconst (v := 1) hx hb dl_1340 (by decide) ?_
  refine lv_iadd hx hb dl_1341 ?_
  rw [show nI j + 1 = nI (j + 1) from nI_add j 1]
  refine va_sld hx hb X.2.2.2.1 X.2.2.2.2.1 (X.nb) w.1.2 (nI_in (N := L) (by omega) (by omega)) dl_1342 ?_
  rw [nI_clamp (n := j + 1) (by omega)]
  refine vx_calli (vx_runVX (C := RX5) (As := [.int (xs (j + 1))]) (rest := []) (bytes := cX5_toss) (maxL := 5) (ret := some .int) (hh := [(22, 26, 29, 277)]) C.1 (k_X5_toss l X.2.2.1 G C.2.2.1 _ _ (xs (j + 1)) _ h) (LX.cw X (y := yX5_toss) kl_40_13 kl_1_2 kl_40_10 kl_40_11 kl_40_12 hl_X5_toss ⟨Nat.le_of_ble_eq_true rfl, Nat.le_of_ble_eq_true rfl⟩) ⟨Pe.blind, w.1.recv C (i := 0) (by decide) pE_5 rfl, w.1.pe C X.2.1⟩ rfl rfl hl.1 rfl (lv_room (Nat.le_of_ble_eq_true rfl)) dl_1343 ⟨hc.1, hc.2⟩) w.1.2 (fun q _ h => w.1.af q h) w.1.af (fun q _ h => w.1.af q h) (fun E ce q9 u t H1 locs1 ht _ hpx hB hz1 hk1 hS hce hcv hcl => hpx.elim) (fun r M1 t H1 locs1 ht _ h hB hz1 hk1 hS => ?_)
  have w1 : Wd G s M1 H1 locs1 := ⟨by unfold Qw at hB; rw [ht] at hB; exact hB, hS⟩
  replace w := w.on X w1 hz1 hk1
  refine lv_aload_n hx hb dl_1346 rfl (lv_at hl 2 rfl) ?_
  refine lv_aload_n hx hb dl_1347 rfl (lv_at hl 0 rfl) ?_
  refine lv_iload hx hb dl_1348 (lv_at hl 4 rfl) ?_
  refine lv_iconst (v := 1) hx hb dl_1350 (by decide) ?_
  refine lv_iadd hx hb dl_1351 ?_
  rw [show nI j + 1 = nI (j + 1) from nI_add j 1]
  refine va_sld hx hb X.2.2.2.1 X.2.2.2.2.1 (X.nb) w.1.2 (nI_in (N := L) (by omega) (by omega)) dl_1352 ?_
  rw [nI_clamp (n := j + 1) (by omega)]
  refine eg_i w.1 (rg_V (As := [.int (xs (j + 1))]) (rest := [.int r]) C w.1 hl.1 (c_X6_toss l G C.2.2.1 _ _ (xs (j + 1)) _ h) kl_41_0 kl_1_5 kl_40_21 kl_40_22 kl_40_23 hl_X6_toss ⟨Nat.le_of_ble_eq_true rfl, Nat.le_of_ble_eq_true rfl⟩ ⟨hc.1, hc.2⟩ (w.1.recv C (i := 57) (by decide) pE_6 rfl) rfl (Nat.le_of_ble_eq_true rfl) dl_1353) (fun r2 M2 H2 locs2 h w2 hz2 hk2 => ?_)
  replace w := w.on X w2 hz2 hk2
  refine lv_icmp_eq (tgt := 1361) hx hb dl_1356 (by decide) (fun c1 => ?_) (fun c1 => absurd h.1 c1)
  exact kk M2 H2 locs2 ls _ _ h.2 w hl (by omega) (by omega)
set_option maxHeartbeats 1000000 in
set_option maxRecDepth 100000 in
theorem lc_35 {p : Program} {l : Launch} {e : Env} {s : State} {m : MethodId} {below : List Frame} {meth : Method} {c : Code} {G : GG} {b L qo : Nat} {xs : Nat → Int32} {cJ : ClassId} (X : LX G p l s m meth c b L xs cJ qo) {Rel : Mem → Prop} {j : Nat} (hj : j + 6 ≤ L) (hL : L ≤ 384) {M : Mem} {H : Heap} {locs : List Loc} {ls : Array Slot} {cells slots : Nat} (w : LW G s M H locs cJ qo) (hl : lv_has ls 8 [(0, .ref b), (1, .ref (ga G 0)), (2, .ref (ga G 57)), (3, .ref qo), (4, .int (nI j))]) (hc : cells + 1 ≤ 600128 ∧ slots + 6 ≤ 7301098) (h : ∀ o : Int64, q_L_element M o (xs (j + 1)) (xs (j + 2)) (fun k o1 M1 => q_X6_element M1 (xs (j + 1)) (xs (j + 2)) (fun r2 M2 => q_X6_thrown M2 (fun t M3 => t = k ∧ (k = 0 → o1 = r2) ∧ Rel M3)))) (kk : ∀ (M2 : Mem) (H2 : Heap) (locs2 : List Loc) (ls2 : Array Slot) (cells2 slots2 : Nat), Rel M2 → LW G s M2 H2 locs2 cJ qo → lv_has ls2 8 [(0, .ref b), (1, .ref (ga G 0)), (2, .ref (ga G 57)), (3, .ref qo), (4, .int (nI j))] → cells2 ≤ cells + 1 → slots2 ≤ slots + 6 → W p l e room_1 s m #[Value.ref b] below meth c H2 locs2 cells2 slots2 (lw_Z below #[Value.ref b] s) (F0 m 1361 ls2 [])) : W p l e room_1 s m #[Value.ref b] below meth c H locs cells slots (lw_Z below #[Value.ref b] s) (F0 m 1171 ls []) := by
  have C := X.1
  have hx := C.1.1
  have hb := C.1.2.1
  obtain ⟨w, o, ho⟩ := w
  replace h := h o
  have hqs : qo < H.size := (Array.getElem?_eq_some_iff.mp ho).1
  refine lv_aload_n hx hb dl_1171 rfl (lv_at hl 1 rfl) ?_
  refine lv_aload_n hx hb dl_1172 rfl (lv_at hl 0 rfl) ?_
  refine lv_iload hx hb dl_1173 (lv_at hl 4 rfl) ?_
  refine lv_iconst (v := 1) hx hb dl_1175 (by decide) ?_
  refine lv_iadd hx hb dl_1176 ?_
  rw [show nI j + 1 = nI (j + 1) from nI_add j 1]
  refine va_sld hx hb X.2.2.2.1 X.2.2.2.2.1 (X.nb) w.2 (nI_in (N := L) (by omega) (by omega)) dl_1177 ?_
  rw [nI_clamp (n := j + 1) (by omega)]
  refine lv_aload_n hx hb dl_1178 rfl (lv_at hl 0 rfl) ?_
  refine lv_iload hx hb dl_1179 (lv_at hl 4 rfl) ?_
  refine lv_iconst (v := 2) hx hb dl_1181 (by decide) ?_
  refine lv_iadd hx hb dl_1182 ?_
  rw [show nI j + 2 = nI (j + 2) from nI_add j 2]
  refine va_sld hx hb X.2.2.2.1 X.2.2.2.2.1 (X.nb) w.2 (nI_in (N := L) (by omega) (by omega)) dl_1183 ?_
  rw [nI_clamp (n := j + 2) (by omega)]
  refine lv_aload_n hx hb dl_1184 rfl (lv_at hl 3 rfl) ?_
  refine vx_calli (A0 := Af G s.heap.size) (vx_runSX (As := [.ref (ga G 0), .int (xs (j + 1)), .int (xs (j + 2)), .ref qo]) (rest := []) (bytes := cL_element) (maxL := 5) (ret := some .int) (hh := [(0, 9, 12, 13), (0, 9, 16, 15)]) C.1 (k_L_element l X.2.2.1 G C.2.2.1 _ _ cJ qo X.2.2.2.2.2.2.1 (by rw [X.2.2.2.2.2.1]; exact X.2.2.2.2.2.2.2.1) hqs o _ _ _ h) (LX.cs X kl_38_4 kl_38_3 kl_38_1 kl_38_2 hl_L_element ⟨Nat.le_of_ble_eq_true rfl, Nat.le_of_ble_eq_true rfl⟩) ⟨Po.blind, w.po X ho⟩ rfl rfl hl.1 rfl (lv_room (Nat.le_of_ble_eq_true rfl)) dl_1185 ⟨hc.1, hc.2⟩) w.2 (fun q _ h => w.ao X q h) (w.ao X) (fun q _ h => w.ao X q h) (fun E ce q9 u t H1 locs1 ht _ hpx hB hz1 hk1 hS hce hcv hcl => hpx.elim) (fun r u t H1 locs1 ht _ h hB hz1 hk1 hS => ?_)
  obtain ⟨o1, M1⟩ := u
  obtain ⟨hB, ho1⟩ := hB
  rw [ht] at ho1
  replace w : Wd G s M1 H1 locs1 := ⟨by unfold Qw at hB; rw [ht] at hB; exact hB, hS⟩
  dsimp only at h
  refine lv_istore (lv' := [(5, .int r), (0, .ref b), (1, .ref (ga G 0)), (2, .ref (ga G 57)), (3, .ref qo), (4, .int (nI j))]) hx hb dl_1188 hl (by decide) rfl (fun ls hl => ?_)
  refine lv_aload_n hx hb dl_1190 rfl (lv_at hl 3 rfl) ?_
  refine lv_aload_n hx hb dl_1191 rfl (lv_at hl 1 rfl) ?_
  refine lv_iload hx hb dl_1192 (lv_at hl 5 rfl) ?_
  refine lv_iconst (v := 1) hx hb dl_1194 (by decide) ?_
  refine lv_iadd hx hb dl_1195 ?_
  rw [show nI j + 1 = nI (j + 1) from nI_add j 1]
  refine va_sld hx hb X.2.2.2.1 X.2.2.2.2.1 (X.nb) w.2 (nI_in (N := L) (by omega) (by omega)) dl_1196 ?_
  rw [nI_clamp (n := j + 1) (by omega)]
  refine lv_aload_n hx hb dl_1197 rfl (lv_at hl 1 rfl) ?_
  refine lv_iload hx hb dl_1198 (lv_at hl 5 rfl) ?_
  refine lv_iconst (v := 2) hx hb dl_1200 (by decide) ?_
  refine lv_iadd hx hb dl_1201 ?_
  rw [show nI j + 2 = nI (j + 2) from nI_add j 2]
  refine va_sld hx hb X.2.2.2.1 X.2.2.2.2.1 (X.nb) w.2 (nI_in (N := L) (by omega) (by omega)) dl_1202 ?_
  rw [nI_clamp (n := j + 2) (by omega)]
  refine eg_l w (rg_V (As := [.int (xs (j + 1)), .int (xs (j + 2))]) (rest := []) C w hl.1 (c_X6_element l G C.2.2.1 _ _ (xs (j + 1)) (xs (j + 2)) _ h) kl_38_18 kl_1_5 kl_38_15 kl_38_16 kl_38_17 hl_X6_element ⟨Nat.le_of_ble_eq_true rfl, Nat.le_of_ble_eq_true rfl⟩ ⟨hc.1, hc.2⟩ (w.recv C (i := 57) (by decide) pE_6 rfl) rfl (Nat.le_of_ble_eq_true rfl) dl_1203) (fun r2 M2 H2 locs2 h w2 hz2 hk2 => ?_)
  obtain ⟨w, o2, ho2, e2⟩ := LW.on2 X ho1 w2 hz2 hk2
  subst e2
  refine lv_lstore (lv' := [(6, .long r2), (5, .int r), (0, .ref b), (1, .ref (ga G 0)), (2, .ref (ga G 57)), (3, .ref qo), (4, .int (nI j))]) hx hb dl_1206 hl (by decide) rfl (fun ls hl => ?_)
  refine lv_aload_n hx hb dl_1208 rfl (lv_at hl 4 rfl) ?_
  refine eg_i w (rg_V (As := []) (rest := []) C w hl.1 (c_X6_thrown l G C.2.2.1 _ _ _ h) kl_38_23 kl_1_5 kl_38_20 kl_38_21 kl_38_22 hl_X6_thrown ⟨Nat.le_of_ble_eq_true rfl, Nat.le_of_ble_eq_true rfl⟩ ⟨hc.1, hc.2⟩ (w.recv C (i := 57) (by decide) pE_6 rfl) rfl (Nat.le_of_ble_eq_true rfl) dl_1209) (fun t M3 H3 locs3 h w3 hz3 hk3 => ?_)
  obtain ⟨w, o3, ho3, e3⟩ := LW.on2 X ho2 w3 hz3 hk3
  subst e3
  obtain ⟨h1, h2, h3⟩ := h
  refine lv_iload hx hb dl_1212 (lv_at hl 1 rfl) ?_
  refine lv_icmp_eq (tgt := 1219) hx hb dl_1214 (by decide) (fun c1 => ?_) (fun c1 => absurd h1 c1)
  refine lv_iload hx hb dl_1219 (lv_at hl 1 rfl) ?_
  refine lv_if_ne (tgt := 1235) hx hb dl_1221 (by decide) (fun c2 => ?_) (fun c2 => ?_)
  · refine lv_goto (tgt := 1361) hx hb dl_1235 (by decide) ?_
    exact kk M3 _ _ ls _ _ h3 ⟨w, _, ho3⟩ (lv_sub hl [2, 3, 4, 5, 6] rfl) (by omega) (by omega)
  refine lv_aload_n hx hb dl_1224 rfl (lv_at hl 5 rfl) ?_
  refine lv_iconst (v := 0) hx hb dl_1225 (by decide) ?_
  refine va_lald (D := gD G) (cl := vwCl) (tys := [(cJ, .long)]) (ws := [(qo, .inl (cJ, 1, .inr (.inl (fun _ => o3))))]) hx hb (X.kj) (one_P ho3) 0 0 rfl rfl (vl (by decide)) dl_1226 ?_
  refine lv_lload hx hb dl_1227 (lv_at hl 0 rfl) ?_
  refine W.lcmp hx hb dl_1229 ?_
  refine lv_if_eq (tgt := 1235) hx hb dl_1230 (by decide) (fun c3 => ?_) (fun c3 => ?_)
  · refine lv_goto (tgt := 1361) hx hb dl_1235 (by decide) ?_
    exact kk M3 _ _ ls _ _ h3 ⟨w, _, ho3⟩ (lv_sub hl [2, 3, 4, 5, 6] rfl) (by omega) (by omega)
  · exact absurd (by rw [h2 c2]; exact cmp_same _) c3
