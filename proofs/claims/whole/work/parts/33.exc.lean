/-! EXCEPTIONS: fail, toss, element, and the law's own element; calls in any room -/
def Ex (G : GG) (U : State) : Prop := vx_Zq Bundle.tN "UNASSIGNED_STACK" Bundle.steD (Zf G) U U.heap ∧ vx_Zq Bundle.tN "SUPPRESSED_SENTINEL" Bundle.listD (Zf G) U U.heap ∧ va_Nw (.castable "java/lang/IllegalArgumentException" "java/lang/IllegalArgumentException") U ∧ va_Nw (.castable "java/lang/IllegalStateException" "java/lang/IllegalStateException") U ∧ (va_Nw (.declares (Bundle.initS "java/lang/RuntimeException")) U ∧ va_Nw (.declares (Bundle.initS "java/lang/Exception")) U ∧ va_Nw (.declares (Bundle.initS Bundle.tN)) U) ∧ va_Nc "java/lang/IllegalStateException" "java/lang/IllegalArgumentException" U ∧ (∃ a, vk_R RX1 63 "the piece fails" a U) ∧ (∃ a, vk_R RX5 272 "no such shelf" a U) ∧ (∃ a, vk_R RX5 279 "no row, or no such place in it" a U)
theorem nw_decl {x : MethodName} {s U : State} (hW : s.WarmedH U.vm) (hZ : va_Nw (.declares x) s) : va_Nw (.declares x) U := va_tabs rfl (rfl : (s.setVm U.vm).vm = U.vm) (by rw [Cond.declares_setVm hW.alike]; exact hZ)
theorem Ex.warm {G : GG} {s U : State} {H : Heap} {locs : List Loc} (hG : Ag G) (hz : gz G ≤ s.heap.size) (h : Ex G s) (hS : va_S (Af G s.heap.size) s.heap H locs) (hU : U.heap = H) (hW : s.WarmedH U.vm) : Ex G U := by
  obtain ⟨h1, h2, h3, h4, ⟨g1, g2, g3⟩, h5, ⟨a1, h6⟩, ⟨a2, h7⟩, ⟨a3, h8⟩⟩ := h
  have hq : ∀ a : Nat, a < s.heap.size → ¬ Zf G a → H[a]? = s.heap[a]? := fun a ha hn => hS.2.1 a ha (fun z => hn (Af_Zf hG hz a z))
  refine ⟨?_, ?_, va_Nw.warmC hW h3, va_Nw.warmC hW h4, ⟨nw_decl hW g1, nw_decl hW g2, nw_decl hW g3⟩, h5.moved hW.alike, ⟨a1, h6.warm hW⟩, ⟨a2, h7.warm hW⟩, ⟨a3, h8.warm hW⟩⟩
  · rw [hU]; exact (h1.kept hq).moved hW.alike
  · rw [hU]; exact (h2.kept hq).moved hW.alike
theorem Ex.call {G : GG} {U : State} {g : JFrame} {mk : MethodId} {a : Array Value} (h : Ex G U) : Ex G (U.calling g mk a) := by
  obtain ⟨h1, h2, h3, h4, ⟨g1, g2, g3⟩, h5, ⟨a1, h6⟩, ⟨a2, h7⟩, ⟨a3, h8⟩⟩ := h
  exact ⟨h1.moved (u := U) (Vm.Alike.refl U.vm), h2.moved (u := U) (Vm.Alike.refl U.vm), va_Nw.same rfl (u := U) rfl h3, va_Nw.same rfl (u := U) rfl h4, ⟨va_Nw.same rfl (u := U) rfl g1, va_Nw.same rfl (u := U) rfl g2, va_Nw.same rfl (u := U) rfl g3⟩, h5.moved (u := U) (Vm.Alike.refl U.vm), ⟨a1, h6.same rfl⟩, ⟨a2, h7.same rfl⟩, ⟨a3, h8.same rfl⟩⟩
def Pe (G : GG) (sz : Nat) (M : Mem) : State → Prop := fun U => Pw G sz M U ∧ Ex G U
theorem Pe.blind {G : GG} {M : Mem} {av : List Value} {sz : Nat} : FrameBlind (va_Pc av (Pe G sz M)) := fun a U g mk h => ⟨h.1, ⟨h.2.1.1, h.2.1.2.1.call, h.2.1.2.2⟩, h.2.2.call⟩
theorem in_x0 : ∀ w ∈ (vx_atS RX5 274 "java/lang/IllegalArgumentException" ["java/lang/RuntimeException", "java/lang/Exception"]).filter goodWord, w ∈ wsL_law := fun _ h => List.mem_append_left _ (List.mem_append_left _ (List.mem_append_right _ h))
theorem in_x1 : ∀ w ∈ (vx_atS RX5 281 "java/lang/IllegalStateException" ["java/lang/RuntimeException", "java/lang/Exception"]).filter goodWord, w ∈ wsL_law := fun _ h => List.mem_append_left _ (List.mem_append_right _ h)
theorem in_x2 : ∀ w ∈ (vx_atS RX1 65 "java/lang/IllegalStateException" ["java/lang/RuntimeException", "java/lang/Exception"]).filter goodWord, w ∈ wsL_law := fun _ h => List.mem_append_right _ h
theorem ng_x0 : ∀ w ∈ (vx_atS RX5 274 "java/lang/IllegalArgumentException" ["java/lang/RuntimeException", "java/lang/Exception"]).filter (fun w => !goodWord w), w ∈ [Cond.castable "java/lang/IllegalArgumentException" "java/lang/IllegalArgumentException", .declares (Bundle.initS "java/lang/RuntimeException"), .declares (Bundle.initS "java/lang/Exception"), .declares (Bundle.initS Bundle.tN)] := by decide +kernel
theorem ng_x1 : ∀ w ∈ (vx_atS RX5 281 "java/lang/IllegalStateException" ["java/lang/RuntimeException", "java/lang/Exception"]).filter (fun w => !goodWord w), w ∈ [Cond.castable "java/lang/IllegalStateException" "java/lang/IllegalStateException", .declares (Bundle.initS "java/lang/RuntimeException"), .declares (Bundle.initS "java/lang/Exception"), .declares (Bundle.initS Bundle.tN)] := by decide +kernel
theorem ng_x2 : ∀ w ∈ (vx_atS RX1 65 "java/lang/IllegalStateException" ["java/lang/RuntimeException", "java/lang/Exception"]).filter (fun w => !goodWord w), w ∈ [Cond.castable "java/lang/IllegalStateException" "java/lang/IllegalStateException", .declares (Bundle.initS "java/lang/RuntimeException"), .declares (Bundle.initS "java/lang/Exception"), .declares (Bundle.initS Bundle.tN)] := by decide +kernel
theorem ot_x0 : ∀ w ∈ Cond.classLink RX5 270 "java/lang/IllegalArgumentException" :: Cond.initialized "java/lang/IllegalArgumentException" :: vx_atS RX5 274 "java/lang/IllegalArgumentException" ["java/lang/RuntimeException", "java/lang/Exception"], vx_ot w = true := by decide +kernel
theorem ot_x1 : ∀ w ∈ Cond.classLink RX5 277 "java/lang/IllegalStateException" :: Cond.initialized "java/lang/IllegalStateException" :: vx_atS RX5 281 "java/lang/IllegalStateException" ["java/lang/RuntimeException", "java/lang/Exception"], vx_ot w = true := by decide +kernel
theorem ot_x2 : ∀ w ∈ Cond.classLink RX1 61 "java/lang/IllegalStateException" :: Cond.initialized "java/lang/IllegalStateException" :: vx_atS RX1 65 "java/lang/IllegalStateException" ["java/lang/RuntimeException", "java/lang/Exception"], vx_ot w = true := by decide +kernel
theorem fit_n : ∀ n ∈ (["java/lang/RuntimeException", "java/lang/Exception"] : List String), Bundle.fit n = true := by decide +kernel
section VN
variable {p : Program} {l : Launch} {e : Env} {R : Room} {s : State} {m : MethodId} {args : Array Value} {below : List Frame} {meth : Method} {c : Code} {T : State} {locs : List Loc} {cells slots : Nat}
theorem vx_callVN (X : Stand p l e R s m args below meth c T locs cells slots) (hexec : p.tables.exec = Jvm.exec) {own C host : String} {index : Nat} {y : MethodName} {bytes : ByteArray} {maxL : Nat} {ret : Option FieldType}
    (hown : s.vm.findClass own = some m.cls) (hlink : (Cond.methodLinkNest own index y host).before args s = true) (hinst : (Cond.instanceMethod y).before args s = true) (hsel : (Cond.selects C y y).before args s = true)
    (hcode : (Cond.code y bytes maxL ret).before args s = true) (hy : y.cls ≠ "java/lang/invoke/MethodHandle" ∧ y.cls ≠ "java/lang/invoke/VarHandle")
    {W9 : Nat} {Pre : Pt → Array Value → Prop} {Post : Pt → Array Value → Option Value → Pt → Prop} {PostX : Pt → Array Value → Addr → Pt → Prop} (hK : vx_Back l R p e below s args y 3 W9 Pre Post PostX)
    {b : Addr} {cellB : Cell} (hcell : T.heap[b]? = some cellB) (hobj : cellB.vm.isStatics = false) (hcls : s.vm.findClass C = some cellB.cls)
    {g : JFrame} (hg : g.method = m) (hsize : g.locals.size = c.maxLocals) {argsL rest : List Value} (hlen : ∀ sig, parseMethodDescriptor y.desc = some sig → argsL.length = sig.parameters.length)
    (hstack : g.stack = argsL.reverse ++ .ref b :: rest) (hW : 2 * g.monitorRoom + (rest.map fun v => v.category).sum ≤ W9) (hdg : decode c.code g.pc = .ok (.invokevirtual index, 3))
    (hpre : ∀ vm₁, s.WarmedH vm₁ → Pre ⟨T.setVm vm₁, locs, cells, slots⟩ (Value.ref b :: argsL).toArray) :
    (∃ (v : Option Value) (vm₁ : Vm) (B : Pt), s.WarmedH vm₁ ∧ Stand p l e R s m args below meth c B.U B.locs B.cells B.slots ∧ Post ⟨T.setVm vm₁, locs, cells, slots⟩ (Value.ref b :: argsL).toArray v B ∧
      ∀ target, Steps p.tables e below (B.U.setTop { g with pc := g.pc + 3, stack := v.toList ++ rest }) target → Steps p.tables e below (T.setTop g) target) ∨
    (∃ (q : Addr) (vm₁ : Vm) (B : Pt), s.WarmedH vm₁ ∧ Stand p l e R s m args below meth c B.U B.locs B.cells B.slots ∧ PostX ⟨T.setVm vm₁, locs, cells, slots⟩ (Value.ref b :: argsL).toArray q B ∧
      Steps p.tables e below (T.setTop g) ((B.U.setTop { g with stack := rest }).pushFrame (.throwing q))) := by
  obtain ⟨mk, methM, hnamed, hmethM, hstM, habM⟩ := Cond.instanceMethod_spec hinst
  obtain ⟨methM', cM, hmethM', -, -, -, -, -, -, hsigM⟩ := Cond.code_spec hnamed hcode
  cases hmethM.symm.trans hmethM'
  obtain ⟨c2, r2, m2, q1, q2, q3, q4, kP, hkP, hkPi⟩ := Cond.selects_spec hsel
  cases hcls.symm.trans q1
  cases (State.methodFound?_of_named hnamed hy).symm.trans q2
  cases hnamed.symm.trans q3
  have hselP : selectMethod e.platform s.vm cellB.cls mk = .method mk := by rw [Launch.admits_selectMethod X.admits]; exact q4
  obtain ⟨vm₁, X₁, hstep₁⟩ := X.invokevirtualNest hexec hown hlink hnamed hmethM hstM hkP hkPi hy (a := b) (cell := cellB) hcell
    (fun z h => by rw [h] at hobj; cases hobj) hselP hmethM habM hkP hkPi (g := g) hg (argsL := argsL) (rest := rest) (hlen _ hsigM) hstack hdg
  rcases hK m meth c ⟨T.setVm vm₁, locs, cells, slots⟩ { g with stack := rest } (.invokevirtual index) mk (Value.ref b :: argsL).toArray X₁ hg hsize hdg hW (X₁.named hnamed) (hpre vm₁ X₁.warmed) with ⟨v, B, X', hpost, hsteps⟩ | ⟨q, B, X', hpost, hsteps⟩
  · exact Or.inl ⟨v, vm₁, B, X₁.warmed, X', hpost, fun target h => hstep₁ _ fun acts => by rw [doInvoke_state]; exact hsteps.trans h⟩
  · exact Or.inr ⟨q, vm₁, B, X₁.warmed, X', hpost, hstep₁ _ fun acts => by rw [doInvoke_state]; exact hsteps⟩
end VN
section VR
variable {p : Program} {l : Launch} {e : Env} {R : Room} {s : State} {m : MethodId} {args : Array Value} {below : List Frame} {meth : Method} {c : Code} {H : Heap} {locs : List Loc} {cells slots : Nat} {Q : State → Prop}
theorem vx_runVN {y : MethodName} {bytes cc : ByteArray} {maxL nL mc ms n index : Nat} {ret : Option FieldType} {ws : List Cond} {rm : Room} {Pc : Array Value → State → Prop} {Qc : Array Value → State → Outcome → State → Prop} {XC : String → State → State → Prop} {free : Addr → Prop} {Ts : List Cond} {own C host : String} {b : Addr} {As rest : List Value} {g : JFrame}
    (S : CallFix p m c cc nL s args Ts own) (hM : vx_Met l y ws rm Pc Qc XC mc ms free) (cw : va_CN R s args own index y host bytes maxL ret ws rm mc ms n ∧ (Cond.instanceMethod y).before args s = true ∧ (Cond.selects C y y).before args s = true) (hp : PreV s H C b Pc As)
    (hg : g.method = m) (hn : As.length = n) (hsize : g.locals.size = nL) (hstack : g.stack = As.reverse ++ .ref b :: rest) (hW : 2 * g.monitorRoom + (rest.map fun v => v.category).sum ≤ 8) (hdg : decode cc g.pc = .ok (.invokevirtual index, 3)) (hf : cells + mc ≤ R.cells ∧ slots + ms ≤ R.slots) :
    vx_Run p l e R s m args below meth c H locs cells slots mc ms g rest (Qc (Value.ref b :: As).toArray) XC free := by
  obtain ⟨⟨⟨hrc, hrs, hfr, hlo, hws, hcw⟩, hcode, hini, hy, hlen, hl⟩, hx1, hx2⟩ := cw
  have hK : vx_Back l R p e below s args y 3 8 (PreOf R mc ms Pc) (PostOf Qc mc ms free) (vx_Post XC mc ms free) := vx_back (bytes := bytes) (maxL := maxL) (ret := ret) hM hp.1 hrc hrs hfr hlo hws hcw (fun a' U hW => word_at hW (Or.inl (by first | rfl | simp [Cond.onTables, Cond.keeps, Cond.steady])) hini)
  obtain ⟨hx, hb, hml, ho, -⟩ := S
  obtain ⟨-, ⟨cellB, hcB, hoB, hclB⟩, hPc⟩ := hp
  intro T hT X
  rcases vx_callVN X hx (C := C) (bytes := bytes) (maxL := maxL) (ret := ret) ho hl hx1 hx2 hcode hy hK (by rw [hT]; exact hcB) hoB hclB hg (hsize.trans hml.symm) (argsL := As) (rest := rest) (fun sig h => hn.trans (hlen sig h)) hstack hW (by rw [hb]; exact hdg)
    (fun vm₁ hW₁ => ⟨hf.1, hf.2, hPc (T.setVm vm₁) hT hW₁⟩) with ⟨v, vm₁, ⟨U', l2, c2, s2⟩, hW₁, X', ⟨g', mk, t, L, e1, e2, hq, h1, hL, h2, h3⟩, st⟩ | ⟨q, vm₁, ⟨U', l2, c2, s2⟩, hW₁, X', ⟨g', mk, t, L, E, ce, e1, e2, hq, hce, hcv, hcl, h1, hL, h2, h3⟩, st⟩
  · dsimp only [Pt.U, Pt.locs, Pt.cells, Pt.slots] at X' e1 e2 h1 h2 h3 st
    subst h1; subst h2; subst h3
    exact Or.inl ⟨v, (T.setVm vm₁).calling g' mk (Value.ref b :: As).toArray, t, U', L, hT, X', hL, e1, e2, hq, st⟩
  · dsimp only [Pt.U, Pt.locs, Pt.cells, Pt.slots] at X' e1 e2 h1 h2 h3 st hcl
    subst h1; subst h2; subst h3
    exact Or.inr ⟨q, (T.setVm vm₁).calling g' mk (Value.ref b :: As).toArray, t, U', L, E, ce, hT, X', hL, e1, e2, hq, hce, hcv, vx_cls hW₁ hcl, st⟩
variable {cc : ByteArray} {pc nL : Nat} {ls : Array Slot} {rest : List Value} {G : GG} {M : Mem} {own : String} {ret : Option FieldType}
variable {y : MethodName} {b : ByteArray} {nY d n idx q9 : Nat} {rt : Option FieldType} {Qc : Array Value → State → Outcome → State → Prop} {As : List Value}
theorem rg_V (C : Cx G p s m args meth c own cc nL ret) (w : Wd G s M H locs) (hl : ls.size = nL) (hM : Met l y (Cond.code y b nY rt :: wsL_law) (rmk d) (va_Pc (.ref q9 :: As) (Pw G H.size M)) Qc 0 0 (Af G H.size)) (hy : Cond.code y b nY rt ∈ wsL_law) (hi : Cond.initialized y.cls ∈ wsL_law) (hk : Cond.methodLink own idx y ∈ wsL_law) (hin : Cond.instanceMethod y ∈ wsL_law) (hse : Cond.selects y.cls y y ∈ wsL_law)
    (hd : y.cls ≠ "java/lang/invoke/MethodHandle" ∧ y.cls ≠ "java/lang/invoke/VarHandle" ∧ (parseMethodDescriptor y.desc).map (fun d => d.parameters.length) = some As.length) (hR : d + 1 ≤ R.frames ∧ 8 + (nY + 11) + 64 * d ≤ R.locals) (hc : cells ≤ R.cells ∧ slots ≤ R.slots) (hrv : ∃ cell : Cell, H[q9]? = some cell ∧ cell.vm.isStatics = false ∧ s.vm.findClass y.cls = some cell.cls) {st0 : List Value} (hst : st0 = As.reverse ++ .ref q9 :: rest) (hrm : (rest.map fun v => v.category).sum ≤ 8) (hdg : decode cc pc = .ok (.invokevirtual idx, 3)) :
    va_Run p l e R s m args below meth c H locs cells slots 0 0 (F0 m pc ls st0) rest (Qc (Value.ref q9 :: As).toArray) (Af G H.size) :=
  va_runV C.1 hM ⟨callB_of _ C.1.2.2.2.2 (good_y hy) rfl rfl rfl (C.ws hi) (C.ws hk) hd hR, C.ws hin, C.ws hse⟩ ⟨Pw.blind, hrv, w.pre C⟩ rfl rfl hl hst (lv_room hrm) hdg hc
theorem rg_VN (C : Cx G p s m args meth c own cc nL ret) (w : Wd G s M H locs) (hl : ls.size = nL) (hM : Met l y (Cond.code y b nY rt :: wsL_law) (rmk d) (va_Pc (.ref q9 :: As) (Pw G H.size M)) Qc 0 0 (Af G H.size)) (hy : Cond.code y b nY rt ∈ wsL_law) (hi : Cond.initialized y.cls ∈ wsL_law) (hk : Cond.methodLinkNest own idx y RX5 ∈ nestA) (hin : Cond.instanceMethod y ∈ wsL_law) (hse : Cond.selects y.cls y y ∈ wsL_law)
    (hd : y.cls ≠ "java/lang/invoke/MethodHandle" ∧ y.cls ≠ "java/lang/invoke/VarHandle" ∧ (parseMethodDescriptor y.desc).map (fun d => d.parameters.length) = some As.length) (hR : d + 1 ≤ R.frames ∧ 8 + (nY + 11) + 64 * d ≤ R.locals) (hc : cells ≤ R.cells ∧ slots ≤ R.slots) (hrv : ∃ cell : Cell, H[q9]? = some cell ∧ cell.vm.isStatics = false ∧ s.vm.findClass y.cls = some cell.cls) {st0 : List Value} (hst : st0 = As.reverse ++ .ref q9 :: rest) (hrm : (rest.map fun v => v.category).sum ≤ 8) (hdg : decode cc pc = .ok (.invokevirtual idx, 3)) :
    va_Run p l e R s m args below meth c H locs cells slots 0 0 (F0 m pc ls st0) rest (Qc (Value.ref q9 :: As).toArray) (Af G H.size) :=
  va_runVN C.1 hM ⟨va_cnB _ C.1.2.2.2.2 (good_y hy) rfl rfl rfl (C.2.1.2.1 _ hk) (C.ws hi) hd hR, C.ws hin, C.ws hse⟩ ⟨Pw.blind, hrv, w.pre C⟩ rfl rfl hl hst (lv_room hrm) hdg hc
theorem rg_S (C : Cx G p s m args meth c own cc nL ret) (w : Wd G s M H locs) (hl : ls.size = nL) (hM : Met l y (Cond.code y b nY rt :: wsL_law) (rmk d) (va_Pc As (Pw G H.size M)) Qc 0 0 (Af G H.size)) (hy : Cond.code y b nY rt ∈ wsL_law) (hi : Cond.initialized y.cls ∈ wsL_law) (hk : Cond.methodLink own idx y ∈ wsL_law) (hse : Cond.static y ∈ wsL_law)
    (hd : y.cls ≠ "java/lang/invoke/MethodHandle" ∧ y.cls ≠ "java/lang/invoke/VarHandle" ∧ (parseMethodDescriptor y.desc).map (fun d => d.parameters.length) = some As.length) (hR : d + 1 ≤ R.frames ∧ 8 + (nY + 11) + 64 * d ≤ R.locals) (hc : cells ≤ R.cells ∧ slots ≤ R.slots) {st0 : List Value} (hst : st0 = As.reverse ++ rest) (hrm : (rest.map fun v => v.category).sum ≤ 8) (hdg : decode cc pc = .ok (.invokestatic idx, 3)) :
    va_Run p l e R s m args below meth c H locs cells slots 0 0 (F0 m pc ls st0) rest (Qc As.toArray) (Af G H.size) :=
  va_runS C.1 hM ⟨callB_of _ C.1.2.2.2.2 (good_y hy) rfl rfl rfl (C.ws hi) (C.ws hk) hd hR, C.ws hse⟩ ⟨Pw.blind, w.pre C⟩ rfl rfl hl hst (lv_room hrm) hdg hc
theorem eg_i (w : Wd G s M H locs) {post : Int32 → Mem → Prop} {st0 : List Value} {a : Array Value} (hr : va_Run p l e R s m args below meth c H locs cells slots 0 0 (F0 m pc ls st0) rest (va_Qi post (Qw G) (Af G H.size) a) (Af G H.size))
    (kk : ∀ (r : Int32) (M1 : Mem) (H1 : Heap) (locs1 : List Loc), post r M1 → Wd G s M1 H1 locs1 → H.size ≤ H1.size → (∀ q : Nat, q < H.size → ¬ Af G H.size q → H1[q]? = H[q]?) → W p l e R s m args below meth c H1 locs1 cells slots Q (F0 m (pc + 3) ls (.int r :: rest))) : W p l e R s m args below meth c H locs cells slots Q (F0 m pc ls st0) :=
  va_calli hr w.2 (fun q _ h => w.af q h) w.af (fun r u t H1 locs1 ht _ hp hB h1 h2 hS => kk r u H1 locs1 hp ⟨by unfold Qw at hB; rw [ht] at hB; exact hB, hS⟩ h1 h2)
theorem eg_l (w : Wd G s M H locs) {post : Int64 → Mem → Prop} {st0 : List Value} {a : Array Value} (hr : va_Run p l e R s m args below meth c H locs cells slots 0 0 (F0 m pc ls st0) rest (va_Ql post (Qw G) (Af G H.size) a) (Af G H.size))
    (kk : ∀ (r : Int64) (M1 : Mem) (H1 : Heap) (locs1 : List Loc), post r M1 → Wd G s M1 H1 locs1 → H.size ≤ H1.size → (∀ q : Nat, q < H.size → ¬ Af G H.size q → H1[q]? = H[q]?) → W p l e R s m args below meth c H1 locs1 cells slots Q (F0 m (pc + 3) ls (.long r :: rest))) : W p l e R s m args below meth c H locs cells slots Q (F0 m pc ls st0) :=
  va_calll hr w.2 (fun q _ h => w.af q h) w.af (fun r u t H1 locs1 ht _ hp hB h1 h2 hS => kk r u H1 locs1 hp ⟨by unfold Qw at hB; rw [ht] at hB; exact hB, hS⟩ h1 h2)
theorem Wd.pe (C : Cx G p s m args meth c own cc nL ret) (hX : Ex G s) (w : Wd G s M H locs) {av : List Value} : ∀ U : State, U.heap = H → s.WarmedH U.vm → va_Pc av (Pe G H.size M) av.toArray U := fun U hU hW => ⟨rfl, (w.pre C (av := av) U hU hW).2, hX.warm C.2.2.1 C.2.1.2.2.1 w.2 hU hW⟩
theorem Cx.ofH {hh : List (Nat × Nat × Nat × Nat)} {rm : Room} {s₁ : State} (hG : Ag G) (hE : Ec G s) (hy : y.cls = own) (hml : c.maxLocals = nL) (B : BodyLoose p l y (headSpec (Cond.codeWith y cc nL ret hh :: wsL_law) rm) cc nL ret e s m args below meth c s₁) : Cx G p s m args meth c own cc nL ret := by
  subst hy
  exact ⟨⟨B.exec, B.bytes, hml, findClass_of_methodNamed B.named, fun w hw => atoms_spec (ws := Cond.codeWith y cc nL ret hh :: wsL_law) B.pre w (List.mem_cons_of_mem _ hw)⟩, hE, hG, B.returns, B.notSynchronized⟩
theorem good_h {hh : List (Nat × Nat × Nat × Nat)} (h : Cond.codeWith y b nY rt hh ∈ wsL_law) : GoodIn wsL_law (Cond.codeWith y b nY rt hh :: wsL_law) := fun w hw => by
  have hm : w ∈ wsL_law := (List.mem_cons.mp hw).elim (fun e => e ▸ h) id
  exact ⟨hm, good_of_word (List.all_eq_true.mp goodA w hm)⟩
end VR
theorem dX1_fail_0 : decode cX1_fail 0 = .ok (.aload_n 0, 1) := by decide +kernel
theorem dX1_fail_1 : decode cX1_fail 1 = .ok (.getfield 11, 3) := by decide +kernel
theorem dX1_fail_4 : decode cX1_fail 4 = .ok (.iconst 5, 1) := by decide +kernel
theorem dX1_fail_5 : decode cX1_fail 5 = .ok (.if_icmp .eq 20, 3) := by decide +kernel
theorem dX1_fail_8 : decode cX1_fail 8 = .ok (.aload_n 0, 1) := by decide +kernel
theorem dX1_fail_9 : decode cX1_fail 9 = .ok (.getfield 15, 3) := by decide +kernel
theorem dX1_fail_12 : decode cX1_fail 12 = .ok (.ifCond .eq 13, 3) := by decide +kernel
theorem dX1_fail_15 : decode cX1_fail 15 = .ok (.new 61, 3) := by decide +kernel
theorem dX1_fail_18 : decode cX1_fail 18 = .ok (.dup, 1) := by decide +kernel
theorem dX1_fail_19 : decode cX1_fail 19 = .ok (.ldc 63, 2) := by decide +kernel
theorem dX1_fail_21 : decode cX1_fail 21 = .ok (.invokespecial 65, 3) := by decide +kernel
theorem dX1_fail_24 : decode cX1_fail 24 = .ok (.athrow, 1) := by decide +kernel
theorem dX1_fail_25 : decode cX1_fail 25 = .ok (.return_, 1) := by decide +kernel
theorem dX5_element_0 : decode cX5_element 0 = .ok (.iload_n 1, 1) := by decide +kernel
theorem dX5_element_1 : decode cX5_element 1 = .ok (.invokestatic 250, 3) := by decide +kernel
theorem dX5_element_4 : decode cX5_element 4 = .ok (.ifCond .ne 14, 3) := by decide +kernel
theorem dX5_element_7 : decode cX5_element 7 = .ok (.new 270, 3) := by decide +kernel
theorem dX5_element_10 : decode cX5_element 10 = .ok (.dup, 1) := by decide +kernel
theorem dX5_element_11 : decode cX5_element 11 = .ok (.ldc_w 272, 3) := by decide +kernel
theorem dX5_element_14 : decode cX5_element 14 = .ok (.invokespecial 274, 3) := by decide +kernel
theorem dX5_element_17 : decode cX5_element 17 = .ok (.athrow, 1) := by decide +kernel
theorem dX5_element_18 : decode cX5_element 18 = .ok (.aload_n 0, 1) := by decide +kernel
theorem dX5_element_19 : decode cX5_element 19 = .ok (.getfield 45, 3) := by decide +kernel
theorem dX5_element_22 : decode cX5_element 22 = .ok (.iload_n 1, 1) := by decide +kernel
theorem dX5_element_23 : decode cX5_element 23 = .ok (.aaload, 1) := by decide +kernel
theorem dX5_element_24 : decode cX5_element 24 = .ok (.iload_n 2, 1) := by decide +kernel
theorem dX5_element_25 : decode cX5_element 25 = .ok (.invokevirtual 264, 3) := by decide +kernel
theorem dX5_element_28 : decode cX5_element 28 = .ok (.ifCond .ne 14, 3) := by decide +kernel
theorem dX5_element_31 : decode cX5_element 31 = .ok (.new 277, 3) := by decide +kernel
theorem dX5_element_34 : decode cX5_element 34 = .ok (.dup, 1) := by decide +kernel
theorem dX5_element_35 : decode cX5_element 35 = .ok (.ldc_w 279, 3) := by decide +kernel
theorem dX5_element_38 : decode cX5_element 38 = .ok (.invokespecial 281, 3) := by decide +kernel
theorem dX5_element_41 : decode cX5_element 41 = .ok (.athrow, 1) := by decide +kernel
theorem dX5_element_42 : decode cX5_element 42 = .ok (.aload_n 0, 1) := by decide +kernel
theorem dX5_element_43 : decode cX5_element 43 = .ok (.getfield 45, 3) := by decide +kernel
theorem dX5_element_46 : decode cX5_element 46 = .ok (.iload_n 1, 1) := by decide +kernel
theorem dX5_element_47 : decode cX5_element 47 = .ok (.aaload, 1) := by decide +kernel
theorem dX5_element_48 : decode cX5_element 48 = .ok (.getfield 238, 3) := by decide +kernel
theorem dX5_element_51 : decode cX5_element 51 = .ok (.iload_n 2, 1) := by decide +kernel
theorem dX5_element_52 : decode cX5_element 52 = .ok (.iaload, 1) := by decide +kernel
theorem dX5_element_53 : decode cX5_element 53 = .ok (.i2l, 1) := by decide +kernel
theorem dX5_element_54 : decode cX5_element 54 = .ok (.lreturn, 1) := by decide +kernel
theorem ke_1_2 : Cond.initialized RX5 ∈ wsL_law := kin_1 (List.mem_of_getElem? (i := 2) rfl)
theorem ke_2_8 : Cond.fieldLink RX5 45 "TowThatJerks" "shelves" "[LTowThatJerks$Shelf;" ∈ wsL_law := kin_2 (List.mem_of_getElem? (i := 8) rfl)
theorem ke_2_11 : Cond.initialized RX3 ∈ wsL_law := kin_2 (List.mem_of_getElem? (i := 11) rfl)
theorem ke_3_10 : Cond.fieldLink RX1 11 "TowThatJerks$Piece" "kind" "I" ∈ wsL_law := kin_3 (List.mem_of_getElem? (i := 10) rfl)
theorem ke_3_11 : Cond.fieldLink RX1 15 "TowThatJerks$Piece" "figure" "I" ∈ wsL_law := kin_3 (List.mem_of_getElem? (i := 11) rfl)
theorem ke_6_3 : Cond.methodLink RX5 250 yX5_isShelf ∈ wsL_law := kin_6 (List.mem_of_getElem? (i := 3) rfl)
theorem ke_6_4 : Cond.static yX5_isShelf ∈ wsL_law := kin_6 (List.mem_of_getElem? (i := 4) rfl)
theorem ke_6_5 : Cond.code yX5_isShelf cX5_isShelf 1 (some .boolean) ∈ wsL_law := kin_6 (List.mem_of_getElem? (i := 5) rfl)
theorem ke_7_6 : Cond.instanceMethod yX3_hasPlace ∈ wsL_law := kin_7 (List.mem_of_getElem? (i := 6) rfl)
theorem ke_7_7 : Cond.selects RX3 yX3_hasPlace yX3_hasPlace ∈ wsL_law := kin_7 (List.mem_of_getElem? (i := 7) rfl)
theorem ke_7_8 : Cond.code yX3_hasPlace cX3_hasPlace 2 (some .boolean) ∈ wsL_law := kin_7 (List.mem_of_getElem? (i := 8) rfl)
theorem ke_38_11 : Cond.classLink RX5 270 "java/lang/IllegalArgumentException" ∈ wsL_law := kin_38 (List.mem_of_getElem? (i := 11) rfl)
theorem ke_38_12 : Cond.initialized "java/lang/IllegalArgumentException" ∈ wsL_law := kin_38 (List.mem_of_getElem? (i := 12) rfl)
theorem ke_38_13 : Cond.classLink RX5 277 "java/lang/IllegalStateException" ∈ wsL_law := kin_38 (List.mem_of_getElem? (i := 13) rfl)
theorem ke_38_14 : Cond.initialized "java/lang/IllegalStateException" ∈ wsL_law := kin_38 (List.mem_of_getElem? (i := 14) rfl)
theorem ke_40_17 : Cond.classLink RX1 61 "java/lang/IllegalStateException" ∈ wsL_law := kin_40 (List.mem_of_getElem? (i := 17) rfl)
theorem kne_34 : (Cond.fieldLinkNest RX5 238 RX3 "elements" "[I" RX5 : Cond) ∈ nestA := List.mem_of_getElem? (i := 34) rfl
theorem kne_84 : (Cond.methodLinkNest RX5 264 yX3_hasPlace RX5 : Cond) ∈ nestA := List.mem_of_getElem? (i := 84) rfl
set_option maxHeartbeats 4000000 in
set_option maxRecDepth 100000 in
theorem k_X1_fail (l : Launch) (hst : l.stackTraces = false) (G : GG) (hG : Ag G) (sz : Nat) (M : Mem) (a0 : Nat) (ha0 : 30 ≤ a0 ∧ a0 < 57) : vx_Met l yX1_fail (Cond.code yX1_fail cX1_fail 1 none :: wsL_law) (rmc 8 1 6) (va_Pc [.ref (ga G a0)] (Pe G sz M)) (va_Qv (fun M1 : Mem => M1 = M ∧ (M a0 0 = 5 ∨ M a0 1 = 0)) (Qw G) (Af G sz)) (vx_X (fun M1 : Mem => M1 = M ∧ ¬ M a0 0 = 5 ∧ ¬ M a0 1 = 0) (fun E M1 t => E = "java/lang/IllegalStateException" ∧ Qw G M1 t) (Af G sz)) 1 6 (Af G sz) := by
  refine vx_ofW (cc := cX1_fail) (maxL := 1) (ret := none) (by decide) rfl ?_
  intro p e s m args below meth c s₁ B hml htab hv
  obtain ⟨rfl, ⟨hsz, hE, hP⟩, hX⟩ := hv
  subst hsz
  have C := Cx.of (own := RX1) hG hE rfl hml B
  have w : Wd G s M s.heap [] := ⟨hP, va_S.rf⟩
  have hl := lv_entry [.ref (ga G a0)] (n := 1) (Nat.le_of_ble_eq_true rfl)
  rw [lg_entry_eq]
  generalize (lg_sl [.ref (ga G a0)] ++ List.replicate (1 - (lg_sl [.ref (ga G a0)]).length) Slot.unset).toArray = ls at hl ⊢
  have hl : lv_has ls 1 [(0, .ref (ga G a0))] := hl
  have hx := C.1.1
  have hb := C.1.2.1
  show W p l e (rmc 8 1 6) s m _ below meth c s.heap [] 0 0 _ _
  refine lv_aload_n hx hb dX1_fail_0 rfl (lv_at hl 0 rfl) ?_
  refine gt_1_0 C w ha0 ke_3_10 dX1_fail_1 ?_
  refine lv_iconst (v := 5) hx hb dX1_fail_4 (by decide) ?_
  refine lv_icmp_eq (tgt := 25) hx hb dX1_fail_5 (by decide) (fun c1 => ?_) (fun c1 => ?_)
  · refine W.widen (k := 1) (n := 6) (by omega) (by omega) (vx_ret ?_)
    exact W.vret hx hb C.2.2.2.1 (fun t ht hW => ⟨⟨M, rfl, ⟨rfl, Or.inl c1⟩, by unfold Qw; rw [ht]; exact w.1⟩, w.2.F ht⟩) w.2.2.2 dX1_fail_25 C.2.2.2.2
  refine lv_aload_n hx hb dX1_fail_8 rfl (lv_at hl 0 rfl) ?_
  refine gt_1_1 C w ha0 ke_3_11 dX1_fail_9 ?_
  refine lv_if_eq (tgt := 25) hx hb dX1_fail_12 (by decide) (fun c2 => ?_) (fun c2 => ?_)
  · refine W.widen (k := 1) (n := 6) (by omega) (by omega) (vx_ret ?_)
    exact W.vret hx hb C.2.2.2.1 (fun t ht hW => ⟨⟨M, rfl, ⟨rfl, Or.inr c2⟩, by unfold Qw; rw [ht]; exact w.1⟩, w.2.F ht⟩) w.2.2.2 dX1_fail_25 C.2.2.2.2
  obtain ⟨h1, h2, h3, h4, ⟨g1, g2, g3⟩, h5, ⟨a1, h6⟩, ⟨a2, h7⟩, ⟨a3, h8⟩⟩ := hX
  refine vx_throwS (own := RX1) (cls := "java/lang/IllegalStateException") (names := ["java/lang/RuntimeException", "java/lang/Exception"]) (A := Zf G) hx hb hst C.1.2.2.2.1 (by decide +kernel) fit_n (C.ws ke_40_17) (C.ws ke_38_14) h6 (vx_hat (fun w hw => C.ws (in_x2 w hw)) ng_x2 (vx_c (va_Nw.use rfl h4) (vx_c (va_Nw.use rfl g1) (vx_c (va_Nw.use rfl g2) (vx_c (va_Nw.use rfl g3) vx_n))))) ot_x2 h1 h2 (w.zf C) (hl.1.trans hml.symm) dX1_fail_15 dX1_fail_18 dX1_fail_19 dX1_fail_21 dX1_fail_24 (fun x hx9 => (htab x hx9).elim) (Nat.le_of_ble_eq_true rfl) (Nat.le_of_ble_eq_true rfl) (Nat.le_of_ble_eq_true rfl) (Nat.le_of_ble_eq_true rfl) C.2.2.2.2 (fun t hvm hz hq => ?_) w.2.2.2 (by decide) (by decide)
  exact ⟨M, ⟨rfl, c1, c2⟩, ⟨rfl, fun k q hk => (w.1 k q hk).kept (hq q.1 ((w.1 k q hk).lt))⟩, hz, fun q h9 _ => hq q h9⟩
def q_X5_element (M : Mem) (x1 x2 : Int32) (post : Int64 → Mem → Prop) (pA pS : Mem → Prop) : Prop := q_X5_isShelf M x1 (fun r1 M1 => (r1 = 0 → pA M1) ∧ (¬ r1 = 0 → vp_in x1 8 ∧ q_X3_hasPlace M1 (14 + x1.toNatClampNeg) x2 (fun r2 M2 => (r2 = 0 → pS M2) ∧ (¬ r2 = 0 → vp_in x2 100 ∧ post (M2 (8 + (14 + x1.toNatClampNeg)) x2.toNatClampNeg).toInt64 M2))))
set_option maxHeartbeats 4000000 in
set_option maxRecDepth 100000 in
theorem k_X5_element (l : Launch) (hst : l.stackTraces = false) (G : GG) (hG : Ag G) (sz : Nat) (M : Mem) (x1 x2 : Int32) (post : Int64 → Mem → Prop) (pA pS : Mem → Prop) (h : q_X5_element M x1 x2 post pA pS) : vx_Met l yX5_element (Cond.code yX5_element cX5_element 3 (some .long) :: wsL_law) (rmc 8 1 6) (va_Pc [.ref (ga G 0), .int x1, .int x2] (Pe G sz M)) (va_Ql post (Qw G) (Af G sz)) (vx_X (S := Bool × Mem) (fun u => (u.1 = true → pA u.2) ∧ (u.1 = false → pS u.2)) (fun E u t => E = (if u.1 then "java/lang/IllegalArgumentException" else "java/lang/IllegalStateException") ∧ Qw G u.2 t) (Af G sz)) 1 6 (Af G sz) := by
  refine vx_ofW (cc := cX5_element) (maxL := 3) (ret := some .long) (by decide) rfl ?_
  intro p e s m args below meth c s₁ B hml htab hv
  obtain ⟨rfl, ⟨hsz, hE, hP⟩, hX⟩ := hv
  subst hsz
  have C := Cx.of (own := RX5) hG hE rfl hml B
  have w : Wd G s M s.heap [] := ⟨hP, va_S.rf⟩
  have hl := lv_entry [.ref (ga G 0), .int x1, .int x2] (n := 3) (Nat.le_of_ble_eq_true rfl)
  rw [lg_entry_eq]
  generalize (lg_sl [.ref (ga G 0), .int x1, .int x2] ++ List.replicate (3 - (lg_sl [.ref (ga G 0), .int x1, .int x2]).length) Slot.unset).toArray = ls at hl ⊢
  have hl : lv_has ls 3 [(0, .ref (ga G 0)), (1, .int x1), (2, .int x2)] := hl
  have hx := C.1.1
  have hb := C.1.2.1
  show W p l e (rmc 8 1 6) s m _ below meth c s.heap [] 0 0 _ _
  unfold q_X5_element at h
  refine lv_iload_n hx hb dX5_element_0 rfl (lv_at hl 1 rfl) ?_
  refine eg_i w (rg_S (As := [.int x1]) C w hl.1 (c_X5_isShelf l G C.2.2.1 _ _ x1 _ h) ke_6_5 ke_1_2 ke_6_3 ke_6_4 hd_X5_isShelf ⟨by decide, by decide⟩ ⟨by decide, by decide⟩ rfl (Nat.le_of_ble_eq_true rfl) dX5_element_1) (fun r1 M1 H locs h w _ _ => ?_)
  refine lv_if_ne (tgt := 18) hx hb dX5_element_4 (by decide) (fun c1 => ?_) (fun c1 => ?_)
  · replace h := h.2 c1
    have hin := h.1
    replace h := h.2
    have hz := in_lt hin
    refine lv_aload_n hx hb dX5_element_18 rfl (lv_at hl 0 rfl) ?_
    refine gt_5_6 C w ke_2_8 dX5_element_19 ?_
    refine lv_iload_n hx hb dX5_element_22 rfl (lv_at hl 1 rfl) ?_
    refine pw_ldS C w hin rfl dX5_element_23 ?_
    refine lv_iload_n hx hb dX5_element_24 rfl (lv_at hl 2 rfl) ?_
    refine eg_i w (rg_VN (As := [.int x2]) C w hl.1 (c_X3_hasPlace l G C.2.2.1 _ _ (14 + x1.toNatClampNeg) x2 (by omega) _ h) ke_7_8 ke_2_11 kne_84 ke_7_6 ke_7_7 hd_X3_hasPlace ⟨by decide, by decide⟩ ⟨by decide, by decide⟩ (w.recv C (i := 14 + x1.toNatClampNeg) (by omega) (pE_3 (by omega)) rfl) rfl (Nat.le_of_ble_eq_true rfl) dX5_element_25) (fun r2 M2 H locs h w _ _ => ?_)
    refine lv_if_ne (tgt := 42) hx hb dX5_element_28 (by decide) (fun c2 => ?_) (fun c2 => ?_)
    · replace h := h.2 c2
      refine lv_aload_n hx hb dX5_element_42 rfl (lv_at hl 0 rfl) ?_
      refine gt_5_6 C w ke_2_8 dX5_element_43 ?_
      refine lv_iload_n hx hb dX5_element_46 rfl (lv_at hl 1 rfl) ?_
      refine pw_ldS C w hin rfl dX5_element_47 ?_
      refine gn_3_4 C w (by omega) kne_34 dX5_element_48 ?_
      refine lv_iload_n hx hb dX5_element_51 rfl (lv_at hl 2 rfl) ?_
      refine pw_ld C w (i := 8 + (14 + x1.toNatClampNeg)) (by omega) (pE_el (by omega)) h.1 rfl dX5_element_52 ?_
      refine lv_i2l hx hb dX5_element_53 rfl ?_
      refine W.widen (k := 1) (n := 6) (by omega) (by omega) (vx_ret ?_)
      exact W.lret hx hb C.2.2.2.1 (fun t ht hW => ⟨⟨_, M2, rfl, h.2, by unfold Qw; rw [ht]; exact w.1⟩, w.2.F ht⟩) w.2.2.2 dX5_element_54 C.2.2.2.2
    · replace h := h.1 c2
      obtain ⟨h1, h2, h3, h4, ⟨g1, g2, g3⟩, h5, ⟨a1, h6⟩, ⟨a2, h7⟩, ⟨a3, h8⟩⟩ := hX
      refine vx_throwSW (own := RX5) (cls := "java/lang/IllegalStateException") (names := ["java/lang/RuntimeException", "java/lang/Exception"]) (A := Zf G) hx hb hst C.1.2.2.2.1 (by decide +kernel) fit_n (C.ws ke_38_13) (C.ws ke_38_14) h8 (vx_hat (fun w hw => C.ws (in_x1 w hw)) ng_x1 (vx_c (va_Nw.use rfl h4) (vx_c (va_Nw.use rfl g1) (vx_c (va_Nw.use rfl g2) (vx_c (va_Nw.use rfl g3) vx_n))))) ot_x1 h1 h2 (w.zf C) (hl.1.trans hml.symm) dX5_element_31 dX5_element_34 dX5_element_35 dX5_element_38 dX5_element_41 (fun x hx9 => (htab x hx9).elim) (Nat.le_of_ble_eq_true rfl) (Nat.le_of_ble_eq_true rfl) (Nat.le_of_ble_eq_true rfl) (Nat.le_of_ble_eq_true rfl) C.2.2.2.2 (fun t hvm hz hq => ?_) w.2.2.2 (by decide) (by decide)
      exact ⟨(false, M2), ⟨(fun z => Bool.noConfusion z), fun _ => h⟩, ⟨rfl, fun k q hk => (w.1 k q hk).kept (hq q.1 ((w.1 k q hk).lt))⟩, Nat.le_trans w.2.1 hz, fun q h9 hn => (hq q (Nat.lt_of_lt_of_le h9 w.2.1)).trans (w.2.2.1 q h9 hn)⟩
  · replace h := h.1 c1
    obtain ⟨h1, h2, h3, h4, ⟨g1, g2, g3⟩, h5, ⟨a1, h6⟩, ⟨a2, h7⟩, ⟨a3, h8⟩⟩ := hX
    refine vx_throwSW (own := RX5) (cls := "java/lang/IllegalArgumentException") (names := ["java/lang/RuntimeException", "java/lang/Exception"]) (A := Zf G) hx hb hst C.1.2.2.2.1 (by decide +kernel) fit_n (C.ws ke_38_11) (C.ws ke_38_12) h7 (vx_hat (fun w hw => C.ws (in_x0 w hw)) ng_x0 (vx_c (va_Nw.use rfl h3) (vx_c (va_Nw.use rfl g1) (vx_c (va_Nw.use rfl g2) (vx_c (va_Nw.use rfl g3) vx_n))))) ot_x0 h1 h2 (w.zf C) (hl.1.trans hml.symm) dX5_element_7 dX5_element_10 dX5_element_11 dX5_element_14 dX5_element_17 (fun x hx9 => (htab x hx9).elim) (Nat.le_of_ble_eq_true rfl) (Nat.le_of_ble_eq_true rfl) (Nat.le_of_ble_eq_true rfl) (Nat.le_of_ble_eq_true rfl) C.2.2.2.2 (fun t hvm hz hq => ?_) w.2.2.2 (by decide) (by decide)
    exact ⟨(true, M1), ⟨fun _ => h, fun z => Bool.noConfusion z⟩, ⟨rfl, fun k q hk => (w.1 k q hk).kept (hq q.1 ((w.1 k q hk).lt))⟩, Nat.le_trans w.2.1 hz, fun q h9 hn => (hq q (Nat.lt_of_lt_of_le h9 w.2.1)).trans (w.2.2.1 q h9 hn)⟩
