/-! CONSTRUCTORS: worlds as lists of cells; what each makes -/
def firstT (j : Nat) : Int32 := ([0, 20, 4, 300, 3, 0, 0] : List Int32).getD j 0
def Ah (h sz : Nat) : Nat → Prop := fun q => q = h ∨ sz ≤ q
/-- the static FIRST_SET's array -/
def Fc (G : GG) (t : Nat) (H : Heap) : Prop := t < gz G ∧ ∃ cell : Cell, H[t]? = some cell ∧ cell.cls = gI G ∧ (∀ k, cell.vm ≠ .statics k) ∧ cell.vm ≠ .unknown ∧ cell.slots.size = 7 ∧ ∀ j : Nat, j < 7 → cell.slots[j]? = some (.int (firstT j))
/-- what constructors know beside Ec -/
def Ef (G : GG) (t : Nat) (U : State) : Prop := va_Z RX5 "FIRST_SET" "[I" (.ref t) (Zf G) U U.heap ∧ Fc G t U.heap ∧ va_Nw (.castable "[I" "java/lang/Cloneable") U ∧ va_AO RX1 U ∧ va_AO RX3 U
def Cy (G : GG) (p : Program) (s : State) (m : MethodId) (args : Array Value) (meth : Method) (c : Code) (own : String) (cc : ByteArray) (nL : Nat) (ret : Option FieldType) : Prop :=
  CallFix p m c cc nL s args wsL_law own ∧ Ec G s ∧ meth.sig.returnType = ret ∧ meth.locks = false
def Wy (G : GG) (s : State) (A : Nat → Prop) (ws : va_W) (H : Heap) (locs : List Loc) : Prop := va_P (gD G) vwCl ws H ∧ va_D A ws ∧ va_S A s.heap H locs ∧ ∀ q, s.heap.size ≤ q → A q
def rmc (d mc ms : Nat) : Room := { frames := d, cells := mc, slots := ms, locals := 64 * d }
def Py (G : GG) (t sz h : Nat) (e : va_E) : State → Prop := fun U => U.heap.size = sz ∧ Ec G U ∧ Ef G t U ∧ va_P (gD G) vwCl [(h, e)] U.heap
def Qy (G : GG) (A : Nat → Prop) : va_W → State → Prop := fun w t => va_P (gD G) vwCl w t.heap ∧ va_D A w
theorem Ef.warm {G : GG} {t : Nat} {s U : State} {H : Heap} {locs : List Loc} {A : Nat → Prop} (h : Ef G t s) (hz : gz G ≤ s.heap.size) (hAz : ∀ q, A q → Zf G q) (hS : va_S A s.heap H locs) (hU : U.heap = H) (hW : s.WarmedH U.vm) : Ef G t U := by
  obtain ⟨h1, ⟨ht, cell, hc, h2⟩, h3, h4, h5⟩ := h
  have hq : ∀ a : Nat, a < s.heap.size → ¬ Zf G a → H[a]? = s.heap[a]? := fun a ha hn => hS.2.1 a ha (fun z => hn (hAz a z))
  refine ⟨?_, ⟨ht, cell, ?_, h2⟩, va_Nw.warmC hW h3, h4.moved hW.alike, h5.moved hW.alike⟩
  · rw [hU]; exact (h1.kept hq).moved hW.alike
  · rw [hU, hq t (Array.getElem?_eq_some_iff.mp hc).1 (fun z => Nat.not_le.mpr ht z)]; exact hc
theorem Ef.call {G : GG} {t : Nat} {U : State} {g : JFrame} {mk : MethodId} {a : Array Value} (h : Ef G t U) : Ef G t (U.calling g mk a) := by
  obtain ⟨h1, h2, h3, h4, h5⟩ := h
  exact ⟨h1.moved (u := U) (Vm.Alike.refl U.vm), h2, va_Nw.same rfl (u := U) rfl h3, h4.moved (u := U) (Vm.Alike.refl U.vm), h5.moved (u := U) (Vm.Alike.refl U.vm)⟩
/-- Ec's part, for any set of cells that are new -/
theorem Ec.warm2 {G : GG} {s U : State} {H : Heap} {locs : List Loc} {A : Nat → Prop} (h : Ec G s) (hAz : ∀ q, A q → Zf G q) (hS : va_S A s.heap H locs) (hU : U.heap = H) (hW : s.WarmedH U.vm) : Ec G U := by
  obtain ⟨h1, h2, h3, h4, h5⟩ := h
  refine ⟨va_K.moved hW.alike h1, fun w hw => nest_warm (List.all_eq_true.mp nestA_ok w hw) hW (h2 w hw), ?_, ?_, fun i hi => (h5 i hi).warm hW⟩
  · rw [hU]; exact Nat.le_trans h3 hS.1
  · rw [hU]
    exact (h4.kept (fun a ha hz => hS.2.1 a ha (fun z => hz (hAz a z)))).moved hW.alike
theorem range_get (ws : va_W) (x : Nat × va_E) : (List.range ws.length).map (fun i => (ws ++ [x])[i]?) = ws.map some := by
  apply List.ext_getElem?
  intro j
  by_cases h : j < ws.length
  · rw [List.getElem?_map, List.getElem?_range h, List.getElem?_map]
    simp [List.getElem?_append_left h, h]
  · rw [List.getElem?_eq_none (by simp; omega), List.getElem?_eq_none (by simp; omega)]
theorem nd_of : ∀ l : List Nat, l.Nodup → va_nd l = true
  | [], _ => rfl
  | a :: l, h => by
    obtain ⟨h1, h2⟩ := List.nodup_cons.mp h
    simp only [va_nd, nd_of l h2, Bool.and_true, decide_eq_true_eq]
    exact h1
theorem nd_range (n : Nat) : va_nd (List.range n) = true := nd_of _ List.nodup_range
section CT
variable {p : Program} {l : Launch} {e : Env} {R : Room} {s : State} {m : MethodId} {args : Array Value} {below : List Frame} {meth : Method} {c : Code} {H : Heap} {locs : List Loc} {cells slots : Nat} {Q : State → Prop}
variable {cc : ByteArray} {pc nL : Nat} {ls : Array Slot} {rest : List Value} {G : GG} {own : String} {ret : Option FieldType} {A : Nat → Prop} {ws : va_W}
theorem Cy.tb (C : Cy G p s m args meth c own cc nL ret) {w : Cond} (h : w ∈ wsL_law) : w.before args s = true := C.1.2.2.2.2 w h
theorem ky_put (C : Cy G p s m args meth c own cc nL ret) (w : Wy G s A ws H locs) {C0 : String} {T : u_T} {N ci index : Nat} (hin : ∀ w ∈ u_ws C0 T N, w ∈ wsL_law) (ty0 : Nat → FieldType) (hty : ∀ k, k < N → parseFieldDescriptor (T k).2.2.1 = some (ty0 k)) (hnm : ∀ a, a < N → ∀ b, b < N → a ≠ b → (T a).2.1 ≠ (T b).2.1) (q0 : Nat) {a : Nat} {fs : List Value} (he : ws[q0]? = some (a, .inr (ci, fs))) (hc : vwCl[ci]? = some (C0, T, N)) (k : Nat) (hk : k < N) (hs : (T k).1 = C0) (hlink : Cond.fieldLink own index C0 (T k).2.1 (T k).2.2.1 ∈ wsL_law) (hfin : (T k).2.2.2 = false) {ty : FieldType} {v : Value} (hd : parseFieldDescriptor (T k).2.2.1 = some ty) (hn : narrow ty v = v) (hfit : fits ty v = true) (hl : k < fs.length)
    (hdg : decode cc pc = .ok (.putfield index, 3)) (kk : ∀ (H1 : Heap) (locs1 : List Loc), Wy G s A (ws.set q0 (a, .inr (ci, fs.set k v))) H1 locs1 → W p l e R s m args below meth c H1 locs1 cells slots Q (F0 m (pc + 3) ls rest)) : W p l e R s m args below meth c H locs cells slots Q (F0 m pc ls (v :: .ref a :: rest)) :=
  va_put C.1.1 C.1.2.1 C.1.2.2.2.2 hin ty0 hty hnm C.1.2.2.2.1 C.2.1.1 w.1 w.2.1 w.2.2.1 q0 he hc k hk (C.tb hlink) (fun x h => by rw [hs] at h; exact h) hfin hd hn hfit hl hdg (fun H1 locs1 hP hD hS => kk H1 locs1 ⟨hP, hD, hS, w.2.2.2⟩)
theorem ky_putF (C : Cy G p s m args meth c own cc nL ret) (w : Wy G s A ws H locs) {C0 : String} {T : u_T} {N ci index : Nat} (hin : ∀ w ∈ u_ws C0 T N, w ∈ wsL_law) (ty0 : Nat → FieldType) (hty : ∀ k, k < N → parseFieldDescriptor (T k).2.2.1 = some (ty0 k)) (hnm : ∀ a, a < N → ∀ b, b < N → a ≠ b → (T a).2.1 ≠ (T b).2.1) (hini : meth.name = "<init>") (q0 : Nat) {a : Nat} {fs : List Value} (he : ws[q0]? = some (a, .inr (ci, fs))) (hc : vwCl[ci]? = some (C0, T, N)) (k : Nat) (hk : k < N) (hs : (T k).1 = C0) (hs2 : (T k).1 = own) (hlink : Cond.fieldLink own index C0 (T k).2.1 (T k).2.2.1 ∈ wsL_law) (hfin : (T k).2.2.2 = true) {ty : FieldType} {v : Value} (hd : parseFieldDescriptor (T k).2.2.1 = some ty) (hn : narrow ty v = v) (hfit : fits ty v = true) (hl : k < fs.length)
    (hdg : decode cc pc = .ok (.putfield index, 3)) (kk : ∀ (H1 : Heap) (locs1 : List Loc), Wy G s A (ws.set q0 (a, .inr (ci, fs.set k v))) H1 locs1 → W p l e R s m args below meth c H1 locs1 cells slots Q (F0 m (pc + 3) ls rest)) : W p l e R s m args below meth c H locs cells slots Q (F0 m pc ls (v :: .ref a :: rest)) :=
  va_putF C.1.1 C.1.2.1 C.1.2.2.2.2 hin ty0 hty hnm C.1.2.2.2.1 C.2.1.1 w.1 w.2.1 w.2.2.1 q0 he hc k hk (C.tb hlink) (fun x h => by rw [hs] at h; exact h) hfin hini hs2 hd hn hfit hl hdg (fun H1 locs1 hP hD hS => kk H1 locs1 ⟨hP, hD, hS, w.2.2.2⟩)
theorem ky_get (C : Cy G p s m args meth c own cc nL ret) (w : Wy G s A ws H locs) {C0 : String} {T : u_T} {N ci index : Nat} (hin : ∀ w ∈ u_ws C0 T N, w ∈ wsL_law) (q0 : Nat) {a : Nat} {fs : List Value} (he : ws[q0]? = some (a, .inr (ci, fs))) (hc : vwCl[ci]? = some (C0, T, N)) (k : Nat) (hk : k < N) (hs : (T k).1 = C0) (hlink : Cond.fieldLink own index C0 (T k).2.1 (T k).2.2.1 ∈ wsL_law) {v : Value} (hv : fs[k]? = some v)
    (hdg : decode cc pc = .ok (.getfield index, 3)) (kk : W p l e R s m args below meth c H locs cells slots Q (F0 m (pc + 3) ls (v :: rest))) : W p l e R s m args below meth c H locs cells slots Q (F0 m pc ls (.ref a :: rest)) :=
  va_get C.1.1 C.1.2.1 C.1.2.2.2.2 hin C.1.2.2.2.1 C.2.1.1 w.1 q0 he hc k hk (C.tb hlink) (fun x h => by rw [hs] at h; exact h) hv hdg kk
theorem ky_new (C : Cy G p s m args meth c own cc nL ret) (w : Wy G s A ws H locs) {C0 : String} {T : u_T} {N ci index : Nat} (hin : ∀ w ∈ u_ws C0 T N, w ∈ wsL_law) (ty : Nat → FieldType) (hty : ∀ k, k < N → parseFieldDescriptor (T k).2.2.1 = some (ty k)) (hcl : Cond.classLink own index C0 ∈ wsL_law) (hinst : Cond.instantiable C0 N ∈ wsL_law) (hini : Cond.initialized C0 ∈ wsL_law) (hc : vwCl[ci]? = some (C0, T, N)) {fs : List Value} (hfs : ∀ j, j < N → defaultValue (ty j) = vp_V fs j) (hcells : cells + 1 ≤ R.cells) (hslots : slots + N ≤ R.slots) (hdg : decode cc pc = .ok (.new index, 3))
    (kk : ∀ (q : Nat) (H1 : Heap), Wy G s A (ws ++ [(q, .inr (ci, fs))]) H1 locs → W p l e R s m args below meth c H1 locs (cells + 1) (slots + N) Q (F0 m (pc + 3) ls (.ref q :: rest))) : W p l e R s m args below meth c H locs cells slots Q (F0 m pc ls rest) :=
  va_new C.1.1 C.1.2.1 C.1.2.2.2.2 hin ty hty C.1.2.2.2.1 (C.tb hcl) (C.tb hinst) (C.tb hini) C.2.1.1 w.1 w.2.1 w.2.2.1 w.2.2.2 hc hfs hcells hslots hdg (fun q H1 hP hD hS => kk q H1 ⟨hP, hD, hS, w.2.2.2⟩)
theorem ky_newI (C : Cy G p s m args meth c own cc nL ret) (w : Wy G s A ws H locs) (harr : Cond.arrayClass .int ∈ wsL_law) {n : Int32} {N : Nat} (hn : ¬ n < 0) (hN : n.toNatClampNeg = N) (hb4 : N * 4 ≤ 536870912) (hcells : cells + 1 ≤ R.cells) (hslots : slots + N ≤ R.slots) (hdg : decode cc pc = .ok (.newarray .int, 2))
    (kk : ∀ (q : Nat) (H1 : Heap), Wy G s A (ws ++ [(q, .inl (gI G, N, .inl (fun _ => 0)))]) H1 locs → W p l e R s m args below meth c H1 locs (cells + 1) (slots + N) Q (F0 m (pc + 2) ls (.ref q :: rest))) : W p l e R s m args below meth c H locs cells slots Q (F0 m pc ls (.int n :: rest)) := by
  refine va_newa (atype := .int) (ty := .int) (a0 := (N, .inl (fun _ => 0))) C.1.1 C.1.2.1 (C.tb harr) rfl C.2.1.1 w.1 w.2.1 w.2.2.1 w.2.2.2 (fun cA => rfl) hn hN hb4 hcells hslots hdg (fun q cA H1 hK hP hD hS => ?_)
  have e : cA = gI G := by
    have h1 := (hK.2 3 (cA, .int) rfl).2
    have h2 := (hK.2 0 (gI G, .int) rfl).2
    exact Option.some.inj (h1.symm.trans h2)
  subst e
  exact kk q H1 ⟨hP, hD, hS, w.2.2.2⟩
theorem ky_newQ (C : Cy G p s m args meth c own cc nL ret) (w : Wy G s A ws H locs) {C0 : String} {index i0 : Nat} {cR : ClassId} (hR : (tyA G)[i0]? = some (cR, .object C0)) (hcl : Cond.classLink own index C0 ∈ wsL_law) (ho : va_AO C0 s) {n : Int32} {N : Nat} (hn : ¬ n < 0) (hN : n.toNatClampNeg = N) (hb4 : N * 4 ≤ 536870912) (hcells : cells + 1 ≤ R.cells) (hslots : slots + N ≤ R.slots) (hdg : decode cc pc = .ok (.anewarray index, 3))
    (kk : ∀ (q : Nat) (H1 : Heap), Wy G s A (ws ++ [(q, .inl (cR, N, .inr (.inr (.inr (.inr (fun _ => none))))))]) H1 locs → W p l e R s m args below meth c H1 locs (cells + 1) (slots + N) Q (F0 m (pc + 3) ls (.ref q :: rest))) : W p l e R s m args below meth c H locs cells slots Q (F0 m pc ls (.int n :: rest)) := by
  refine va_newq C.1.1 C.1.2.1 C.1.2.2.2.1 (C.tb hcl) ho C.2.1.1 w.1 w.2.1 w.2.2.1 w.2.2.2 hn hN hb4 hcells hslots hdg (fun q cA H1 hK hP hD hS => ?_)
  have e : cA = cR := by
    obtain ⟨kA, comp, h1, h2, h3, h4⟩ := (hK.2 3 (cA, .object C0) rfl).2
    obtain ⟨kA2, comp2, g1, g2, g3, g4⟩ := (C.2.1.1.2 i0 _ hR).2
    exact Option.some.inj (h4.symm.trans g4)
  subst e
  exact kk q H1 ⟨hP, hD, hS, w.2.2.2⟩
theorem ky_ast (C : Cy G p s m args meth c own cc nL ret) (w : Wy G s A ws H locs) (q0 t0 qk ci : Nat) {a : Nat} {cA : ClassId} {r : vw_C} {n v : Nat} {vs : List Value} {f : Nat → Option Nat} (ha : ws[q0]? = some (a, .inl (cA, n, .inr (.inr (.inr (.inr f)))))) (ht : (tyA G)[t0]? = some (cA, .object r.1)) (hv : ws[qk]? = some (v, .inr (ci, vs))) (hc : vwCl[ci]? = some r) {i : Int32} (hin : vp_in i n) {k : Nat} (hk : i.toNatClampNeg = k) (hdg : decode cc pc = .ok (.aastore, 1))
    (kk : ∀ (H1 : Heap) (locs1 : List Loc), Wy G s A (ws.set q0 (a, .inl (cA, n, .inr (.inr (.inr (.inr (va_up f k (some v)))))))) H1 locs1 → W p l e R s m args below meth c H1 locs1 cells slots Q (F0 m (pc + 1) ls rest)) : W p l e R s m args below meth c H locs cells slots Q (F0 m pc ls (.ref v :: .int i :: .ref a :: rest)) := by
  subst hk
  exact va_astq C.1.1 C.1.2.1 C.2.1.1 w.1 w.2.1 w.2.2.1 q0 t0 qk ci ha ht hv hc hin hdg (fun H1 locs1 hP hD hS => kk H1 locs1 ⟨hP, hD, hS, w.2.2.2⟩)
theorem Wy.sub (w : Wy G s A ws H locs) {ws' : va_W} (is : List Nat) (h1 : va_nd is = true) (h2 : is.map (fun i => ws[i]?) = ws'.map some) (h3 : is.filterMap (fun i => ws[i]?) = ws') : Wy G s A ws' H locs := ⟨w.1.sub is h3, w.2.1.sub is h1 h2, w.2.2⟩
theorem Cy.of {y : MethodName} {rm : Room} {s₁ : State} (hE : Ec G s) (hy : y.cls = own) (hml : c.maxLocals = nL) (B : BodyLoose p l y (headSpec (Cond.code y cc nL ret :: wsL_law) rm) cc nL ret e s m args below meth c s₁) : Cy G p s m args meth c own cc nL ret := by
  subst hy
  exact ⟨⟨B.exec, B.bytes, hml, findClass_of_methodNamed B.named, fun w hw => atoms_spec (ws := Cond.code y cc nL ret :: wsL_law) B.pre w (List.mem_cons_of_mem _ hw)⟩, hE, B.returns, B.notSynchronized⟩
variable {y : MethodName} {b : ByteArray} {nY d D mc ms idx q t : Nat} {e0 : va_E} {PW : va_W → Prop}
/-- 'new', and its constructor, of a nest mate -/
theorem ky_ctor (C : Cy G p s m args meth c own cc nL ret) (hF : Ef G t s) (hAz : ∀ q, A q → Zf G q) (w : Wy G s A (ws ++ [(q, e0)]) H locs) (hl : ls.size = nL)
    (hM : Met l y (Cond.code y b nY none :: wsL_law) (rmc d mc ms) (va_Pc [.ref q] (Py G t H.size q e0)) (va_Qv PW (Qy G (Ah q H.size)) (Ah q H.size)) mc ms (Ah q H.size))
    (hy : Cond.code y b nY none ∈ wsL_law) (hi : Cond.initialized y.cls ∈ wsL_law) (hk : Cond.methodLinkNest own idx y RX5 ∈ nestA) (hin : Cond.instanceMethod y ∈ wsL_law) (hy1 : y.name = "<init>")
    (hd : y.cls ≠ "java/lang/invoke/MethodHandle" ∧ y.cls ≠ "java/lang/invoke/VarHandle" ∧ (parseMethodDescriptor y.desc).map (fun d => d.parameters.length) = some 0) (hR : d + 1 ≤ R.frames ∧ 8 + (nY + 11) + 64 * d ≤ R.locals) (hc : cells + mc ≤ R.cells ∧ slots + ms ≤ R.slots) (hrm : (rest.map fun v => v.category).sum ≤ 8) (hdg : decode cc pc = .ok (.invokespecial idx, 3))
    (kk : ∀ (w1 : va_W) (H1 : Heap) (locs1 : List Loc), PW w1 → Wy G s A (ws ++ w1) H1 locs1 → W p l e R s m args below meth c H1 locs1 (cells + mc) (slots + ms) Q (F0 m (pc + 3) ls rest)) : W p l e R s m args below meth c H locs cells slots Q (F0 m pc ls (.ref q :: rest)) := by
  have hq : (ws ++ [(q, e0)])[ws.length]? = some (q, e0) := by simp
  have hP1 : va_P (gD G) vwCl [(q, e0)] H := fun k x hx => by
    have hz : k < 1 := (List.getElem?_eq_some_iff.mp hx).1
    rw [show k = 0 by omega] at hx
    cases hx
    exact w.1 _ _ hq
  have hF9 : ∀ x, Ah q H.size x → A x := fun x h => by
    rcases h with rfl | h
    · exact w.2.1.2 _ _ hq
    · exact w.2.2.2 x (Nat.le_trans w.2.2.1.1 h)
  refine va_callv (va_runIN (As := []) (rest := rest) C.1 hM ⟨va_cnB 0 C.1.2.2.2.2 (good_y hy) rfl rfl rfl (C.2.1.2.1 _ hk) (C.tb hi) hd hR, hy1, C.tb hin⟩ ⟨fun a U g mk h => ⟨h.1, h.2.1, h.2.2.1.call, h.2.2.2.1.call, h.2.2.2.2⟩, fun U hU hW => ⟨rfl, by rw [hU], C.2.1.warm2 hAz w.2.2.1 hU hW, hF.warm C.2.1.2.2.1 hAz w.2.2.1 hU hW, by rw [hU]; exact hP1⟩⟩ rfl rfl hl rfl (lv_room hrm) hdg hc) w.2.2.1 (fun x _ h => hF9 x h) hF9 (fun u t1 H1 locs1 ht _ hp hB hz1 hk1 hS => ?_)
  obtain ⟨hB1, hB2⟩ := hB
  rw [ht] at hB1
  have hAe : ∀ x, va_A [(q, e0)] H.size x ↔ Ah q H.size x := fun x => by
    constructor
    · rintro (⟨k, e9, h⟩ | h)
      · have hz : k < 1 := (List.getElem?_eq_some_iff.mp h).1
        rw [show k = 0 by omega] at h
        cases h
        exact Or.inl rfl
      · exact Or.inr h
    · rintro (rfl | h)
      · exact Or.inl ⟨0, e0, rfl⟩
      · exact Or.inr h
  obtain ⟨g1, g2⟩ := va_join (wc := [(q, e0)]) (wr := ws) w.1 w.2.1 [ws.length] (List.range ws.length) (by simp) (range_get ws _) (nd_range _) (fun i hi h => by simp at hi h; omega) (fun x hx hn => hk1 x hx (fun z => hn ((hAe x).mpr z))) (fun x h => hF9 x ((hAe x).mp h)) hB1 (hB2.weaken (fun _ x _ h => (hAe x.1).mpr h))
  exact kk u H1 locs1 hp ⟨g1, g2, hS, w.2.2.2⟩
end CT
theorem d_one {h sz : Nat} {e : va_E} : va_D (Ah h sz) [(h, e)] := by
  refine ⟨fun i j p q hp hq _ => ?_, fun k q hk => ?_⟩
  · have h1 : i < 1 := (List.getElem?_eq_some_iff.mp hp).1
    have h2 : j < 1 := (List.getElem?_eq_some_iff.mp hq).1
    omega
  · have hz : k < 1 := (List.getElem?_eq_some_iff.mp hk).1
    rw [show k = 0 by omega] at hk
    cases hk
    exact Or.inl rfl
section CL
variable {p : Program} {l : Launch} {e : Env} {R : Room} {s : State} {m : MethodId} {args : Array Value} {below : List Frame} {meth : Method} {c : Code} {H : Heap} {locs : List Loc} {cells slots : Nat} {Q : State → Prop}
variable {cc : ByteArray} {pc nL : Nat} {ls : Array Slot} {rest : List Value} {G : GG} {own : String} {ret : Option FieldType} {A : Nat → Prop} {ws : va_W} {t : Nat}
theorem ky_gets (C : Cy G p s m args meth c own cc nL ret) (hF : Ef G t s) (hAz : ∀ q, A q → Zf G q) (w : Wy G s A ws H locs) {idx : Nat} (hk : Cond.fieldLinkNest own idx RX5 "FIRST_SET" "[I" RX5 ∈ nestA) (hdg : decode cc pc = .ok (.getstatic idx, 3)) (kk : W p l e R s m args below meth c H locs cells slots Q (F0 m (pc + 3) ls (.ref t :: rest))) : W p l e R s m args below meth c H locs cells slots Q (F0 m pc ls rest) :=
  va_getsN C.1.1 C.1.2.1 (hF.1.narrow hAz) w.2.2.1 C.1.2.2.2.1 (va_Nw.use rfl (C.2.1.2.1 _ hk)) (fun _ h => h) hdg kk
theorem ky_clone (C : Cy G p s m args meth c own cc nL ret) (hF : Ef G t s) (hAz : ∀ q, A q → Zf G q) (w : Wy G s A ws H locs) (hl : ls.size = nL) {index : Nat} (k1 : Cond.methodLink own index ⟨"[I", "clone", "()Ljava/lang/Object;"⟩ ∈ wsL_law) (k2 : Cond.sameMethod "[I" "java/lang/Object" "clone" "()Ljava/lang/Object;" ∈ wsL_law) (k3 : Cond.native ⟨"java/lang/Object", "clone", "()Ljava/lang/Object;"⟩ ∈ wsL_law) (k4 : Cond.instanceMethod ⟨"java/lang/Object", "clone", "()Ljava/lang/Object;"⟩ ∈ wsL_law) (k5 : Cond.selects "[I" ⟨"[I", "clone", "()Ljava/lang/Object;"⟩ ⟨"java/lang/Object", "clone", "()Ljava/lang/Object;"⟩ ∈ wsL_law)
    (hfr : 1 ≤ R.frames) (hlo : (rest.map fun v => v.category).sum + 14 ≤ R.locals) (hcells : cells + 1 ≤ R.cells) (hslots : slots + 7 ≤ R.slots) (hdg : decode cc pc = .ok (.invokevirtual index, 3))
    (kk : ∀ (q : Nat) (H1 : Heap), Wy G s A (ws ++ [(q, .inl (gI G, 7, .inl firstT))]) H1 locs → W p l e R s m args below meth c H1 locs (cells + 1) (slots + 7) Q (F0 m (pc + 3) ls (.ref q :: rest))) : W p l e R s m args below meth c H locs cells slots Q (F0 m pc ls (.ref t :: rest)) := by
  obtain ⟨-, ⟨ht, cell, hc, hcls, hst, hun, hsz, hel⟩, hcl, -, -⟩ := hF
  have hcH : H[t]? = some cell := by
    rw [w.2.2.1.2.1 t (Array.getElem?_eq_some_iff.mp hc).1 (fun z => Nat.not_le.mpr ht (hAz t z))]
    exact hc
  have hnm : s.vm.findClass "[I" = some (gI G) := (C.2.1.1.2 0 _ rfl).2
  obtain ⟨c0, t0', f1, f2, f3⟩ := Cond.castable_spec (va_Nw.use (A := args) rfl hcl)
  cases hnm.symm.trans f1
  have hslotsE : cell.slots = (vp_cell (gI G) (7, .inl firstT)).slots := by
    apply Array.ext_getElem?
    intro j
    by_cases hj : j < 7
    · rw [hel j hj, vp_cell_i, arrV_read _ _ hj]
    · rw [Array.getElem?_eq_none (by omega), Array.getElem?_eq_none (by rw [vp_cell_i, arrV_size]; omega)]
  have hcellE : ({ cls := cell.cls, slots := cell.slots } : Cell) = vp_cell (gI G) (7, .inl firstT) := by
    rw [hcls, hslotsE]; rfl
  intro T hT X
  have hcellT : T.heap[t]? = some cell := by rw [hT]; exact hcH
  obtain ⟨-, kA, hkA, comp, hkind⟩ := State.isArrayOf_alike X.warmed.alike ((C.2.1.1.2 0 _ rfl).1 0 (fun _ => .null))
  obtain ⟨-, kS, hkS, compS, hkindS⟩ := (C.2.1.1.2 0 _ rfl).1 0 (fun _ => .null)
  obtain ⟨vm', X', st⟩ := X.cloneArray C.1.1 C.1.2.2.2.1 (C.tb k1) (C.tb k2) (C.tb k3) (C.tb k4) (C.tb k5) (a := t) (cell := cell) hcellT hst hun (by rw [hcls]; exact hnm) f2 (by rw [hcls]; exact f3)
    (fun i v hv => by
      rw [hcls]
      have hk' : T.vm.classes[gI G]? = some kA := hkA
      have hi : i < 7 := by
        have := (Array.getElem?_eq_some_iff.mp hv).1
        omega
      rw [hel i hi] at hv
      cases hv
      simp [State.fitsSlot, State.slotType?, hk', hkind, fits])
    (g := F0 m pc ls (.ref t :: rest)) rfl (hl.trans C.1.2.2.1.symm) rfl (by rw [C.1.2.1]; exact hdg) hfr (by show 2 * 0 + _ + 14 ≤ _; omega) hcells (by rw [hsz]; exact hslots) (hloader := by rw [hcls]; exact Vm.clonesLoader_of_array hkS hkindS)
  rw [hcellE, hsz] at X'
  generalize hH1 : H.push (vp_cell (gI G) (7, .inl firstT)) = H1
  have z1 : H1.size = H.size + 1 := by rw [← hH1, Array.size_push]
  have e1 : H1[H.size]? = some (vp_cell (gI G) (7, .inl firstT)) := by rw [← hH1, Array.getElem?_push_size]
  have o1 : ∀ q : Nat, q < H.size → H1[q]? = H[q]? := fun q hq => by rw [← hH1, Array.getElem?_push, if_neg (Nat.ne_of_lt hq)]
  have hk : ∀ (k : Nat) (y : Nat × va_E), ws[k]? = some y → H1[y.1]? = H[y.1]? := fun k y hy => o1 y.1 ((w.1 k y hy).lt)
  obtain ⟨t9, b1, b2⟩ := kk H.size H1 ⟨(w.1.kept hk).app (fun k y hy => by
      have hz : k < 1 := (List.getElem?_eq_some_iff.mp hy).1
      rw [show k = 0 by omega] at hy
      cases hy
      exact e1), w.2.1.push w.1 rfl (w.2.2.2 _ w.2.2.1.1), ⟨Nat.le_trans w.2.2.1.1 (by omega), fun y h1 h2 => (o1 y (Nat.lt_of_lt_of_le h1 w.2.2.1.1)).trans (w.2.2.1.2.1 y h1 h2), w.2.2.1.2.2⟩, w.2.2.2⟩
    ((T.setVm vm').pushCell (vp_cell (gI G) (7, .inl firstT))) (by rw [← hH1, ← hT]; rfl) X'
  refine ⟨t9, st t9 ?_, b2⟩
  rw [hcellE, hT]
  exact b1
end CL
abbrev pcE : va_E := .inr (1, [.int 0, .int 0, .int 1, .int 0, .int 0, .int 0, .int 0, .int 0, .int 0])
abbrev lnE : va_E := .inr (0, [.int 0, .int 0, .int 0, .int 0, .int 0, .int 0])
abbrev rfs (f : Nat → Option Nat) : (Nat → Int32) ⊕ (Nat → Int64) ⊕ (Nat → UInt32) ⊕ (Nat → UInt64) ⊕ (Nat → Option Nat) := .inr (.inr (.inr (.inr f)))
def PW_1 (h : Nat) (w : va_W) : Prop := w = [(h, pcE)]
def PW_0 (h : Nat) (w : va_W) : Prop := w = [(h, lnE)]
def PW_2 (G : GG) (h : Nat) (w : va_W) : Prop := ∃ q1 : Nat, w = [(h, .inr (2, [.int 0, .ref q1, .int 0])), (q1, .inl (gI G, 3, .inl (fun _ => 0)))]
def PW_3 (G : GG) (h : Nat) (w : va_W) : Prop := ∃ q1 q2 : Nat, w = [(h, .inr (3, [.int 0, .ref q1, .int 0, .int 0, .ref q2])), (q1, pcE), (q2, .inl (gI G, 100, .inl (fun _ => 0)))]
def PW_4 (G : GG) (h : Nat) (w : va_W) : Prop := ∃ (qa qs p0 p1 p2 p3 p4 p5 : Nat) (f : Nat → Option Nat), (f 0 = some p0 ∧ f 1 = some p1 ∧ f 2 = some p2 ∧ f 3 = some p3 ∧ f 4 = some p4 ∧ f 5 = some p5) ∧ w = [(h, .inr (4, [.ref qa, .int 0, .ref qs, .int 0, .int 0, .int 0, .int 0, .int (-4), .int 0])), (qa, .inl (gP G, 6, rfs f)), (qs, .inl (gI G, 7, .inl firstT)), (p0, pcE), (p1, pcE), (p2, pcE), (p3, pcE), (p4, pcE), (p5, pcE)]
section CM
variable {p : Program} {l : Launch} {e : Env} {R : Room} {s : State} {m : MethodId} {args : Array Value} {below : List Frame} {meth : Method} {c : Code} {H : Heap} {locs : List Loc} {cells slots : Nat} {Q : State → Prop}
variable {cc : ByteArray} {pc nL : Nat} {ls : Array Slot} {rest : List Value} {G : GG} {own : String} {ret : Option FieldType} {A : Nat → Prop} {ws : va_W}
theorem ky_ist (C : Cy G p s m args meth c own cc nL ret) (w : Wy G s A ws H locs) (q0 : Nat) {a n : Nat} {f : Nat → Int32} (ha : ws[q0]? = some (a, .inl (gI G, n, .inl f))) {i x : Int32} (hin : vp_in i n) {k : Nat} (hk : i.toNatClampNeg = k) (hdg : decode cc pc = .ok (.iastore, 1))
    (kk : ∀ (H1 : Heap) (locs1 : List Loc), Wy G s A (ws.set q0 (a, .inl (gI G, n, .inl (upd f k x)))) H1 locs1 → W p l e R s m args below meth c H1 locs1 cells slots Q (F0 m (pc + 1) ls rest)) : W p l e R s m args below meth c H locs cells slots Q (F0 m pc ls (.int x :: .int i :: .ref a :: rest)) := by
  subst hk
  exact va_iast C.1.1 C.1.2.1 C.2.1.1 w.1 w.2.1 w.2.2.1 q0 0 ha rfl hin hdg (fun H1 locs1 hP hD hS => kk H1 locs1 ⟨hP, hD, hS, w.2.2.2⟩)
theorem ky_castA (C : Cy G p s m args meth c own cc nL ret) (w : Wy G s A ws H locs) {index : Nat} (hlink : Cond.classLink own index "[I" ∈ wsL_law) {q0 a : Nat} {x : vp_A} (ha : ws[q0]? = some (a, .inl (gI G, x))) (hdg : decode cc pc = .ok (.checkcast index, 3))
    (k : W p l e R s m args below meth c H locs cells slots Q (F0 m (pc + 3) ls (.ref a :: rest))) : W p l e R s m args below meth c H locs cells slots Q (F0 m pc ls (.ref a :: rest)) :=
  va_castA C.1.1 C.1.2.1 C.1.2.2.2.1 (C.tb hlink) w.1 q0 ha ((C.2.1.1.2 0 _ rfl).2) hdg k
end CM
