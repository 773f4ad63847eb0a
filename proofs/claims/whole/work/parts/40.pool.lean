/-! THE POOL at the start: what the two constructors made, by its numbers -/
def M00 : Mem := fun i => if 1 ≤ i ∧ i < 4 then (fun k => if k = 7 then -4 else 0) else if 11 ≤ i ∧ i < 14 then firstT else if 30 ≤ i ∧ i < 57 then (fun k => if k = 2 then 1 else 0) else if i = 58 then upd (upd (upd (upd (fun _ => 0) 6 20) 7 4) 8 300) 9 3 else fun _ => 0
theorem refs_eq {cA : ClassId} {n : Nat} {f g : Nat → Option Nat} (h : ∀ k, k < n → f k = g k) : vp_cell cA (n, rfs f) = vp_cell cA (n, rfs g) := by
  rw [vp_cell_q, vp_cell_q]
  unfold arrV
  congr 1
  apply Array.ext_getElem?
  intro j
  by_cases hj : j < n
  · simp [hj, h j hj]
  · simp [hj]
/-- a tuple of the pool, by the list of its addresses -/
def mkG (D : va_G) (cI cP cS : ClassId) (as : List Nat) (K V : Nat → Nat) (z gl gm : Nat) : GG := (D, (cI, cP, cS), (fun i => as.getD i 0), K, V, z, gl, gm)
theorem mkG_Ag {D : va_G} {cI cP cS : ClassId} {as : List Nat} {K V : Nat → Nat} {z gl gm : Nat} {A : Nat → Prop} {ws : va_W} (hl : ws.length = 69) (ha : as = ws.map Prod.fst) (hD : va_D A ws) (hA : ∀ q, A q → z ≤ q) : Ag (mkG D cI cP cS as K V z gl gm) := by
  subst ha
  have key : ∀ i, i < 69 → ∃ e, ws[i]? = some ((ws.map Prod.fst).getD i 0, e) := fun i hi => by
    have h : i < ws.length := by omega
    refine ⟨ws[i].2, ?_⟩
    rw [List.getElem?_eq_getElem h]
    simp [h]
  refine ⟨fun i j hi hj e => ?_, fun i hi => ?_⟩
  · obtain ⟨e1, h1⟩ := key i hi
    obtain ⟨e2, h2⟩ := key j hj
    exact hD.1 i j _ _ h1 h2 e
  · obtain ⟨e1, h1⟩ := key i hi
    exact hA _ (hD.2 i _ h1)
set_option maxHeartbeats 4000000 in
set_option maxRecDepth 100000 in
theorem mkG_P {D : va_G} {cI cP cS : ClassId} {K V : Nat → Nat} {z gl gm : Nat} {H : Heap} {h5 q5 q5_a q5_s q5_p0 q5_p1 q5_p2 q5_p3 q5_p4 q5_p5 q16 q16_a q16_s q16_p0 q16_p1 q16_p2 q16_p3 q16_p4 q16_p5 q27 q27_a q27_s q27_p0 q27_p1 q27_p2 q27_p3 q27_p4 q27_p5 q38 q49 q60 nu q73 q97_0 q97_0_p q97_0_e q97_1 q97_1_p q97_1_e q97_2 q97_2_p q97_2_e q97_3 q97_3_p q97_3_e q97_4 q97_4_p q97_4_e q97_5 q97_5_p q97_5_e q97_6 q97_6_p q97_6_e q97_7 q97_7_p q97_7_e h6 m7 m15 m23 m31 m39 m47 m55 m64 m72 m80 m87 : Nat} {q5_f q16_f q27_f : Nat → Option Nat} (hf1 : q5_f 0 = some q5_p0 ∧ q5_f 1 = some q5_p1 ∧ q5_f 2 = some q5_p2 ∧ q5_f 3 = some q5_p3 ∧ q5_f 4 = some q5_p4 ∧ q5_f 5 = some q5_p5) (hf2 : q16_f 0 = some q16_p0 ∧ q16_f 1 = some q16_p1 ∧ q16_f 2 = some q16_p2 ∧ q16_f 3 = some q16_p3 ∧ q16_f 4 = some q16_p4 ∧ q16_f 5 = some q16_p5) (hf3 : q27_f 0 = some q27_p0 ∧ q27_f 1 = some q27_p1 ∧ q27_f 2 = some q27_p2 ∧ q27_f 3 = some q27_p3 ∧ q27_f 4 = some q27_p4 ∧ q27_f 5 = some q27_p5) (hP : va_P D vwCl [(h5, .inr (5, [.ref q5, .ref q16, .ref q27, .ref q38, .ref q49, .ref q60, .ref q73, .int 0])), (q5, .inr (4, [.ref q5_a, .int 0, .ref q5_s, .int 0, .int 0, .int 0, .int 0, .int (-4), .int 0])), (q16, .inr (4, [.ref q16_a, .int 0, .ref q16_s, .int 0, .int 0, .int 0, .int 0, .int (-4), .int 0])), (q27, .inr (4, [.ref q27_a, .int 0, .ref q27_s, .int 0, .int 0, .int 0, .int 0, .int (-4), .int 0])), (q38, .inr (0, [.int 0, .int 0, .int 0, .int 0, .int 0, .int 0])), (q60, .inr (2, [.int 0, .ref nu, .int 0])), (q73, .inl (cS, 8, rfs (va_up (va_up (va_up (va_up (va_up (va_up (va_up (va_up (fun _ => none) 0 (some q97_0)) 1 (some q97_1)) 2 (some q97_2)) 3 (some q97_3)) 4 (some q97_4)) 5 (some q97_5)) 6 (some q97_6)) 7 (some q97_7)))), (nu, .inl (cI, 3, .inl (fun _ => 0))), (q5_a, .inl (cP, 6, rfs q5_f)), (q16_a, .inl (cP, 6, rfs q16_f)), (q27_a, .inl (cP, 6, rfs q27_f)), (q5_s, .inl (cI, 7, .inl firstT)), (q16_s, .inl (cI, 7, .inl firstT)), (q27_s, .inl (cI, 7, .inl firstT)), (q97_0, .inr (3, [.int 0, .ref q97_0_p, .int 0, .int 0, .ref q97_0_e])), (q97_1, .inr (3, [.int 0, .ref q97_1_p, .int 0, .int 0, .ref q97_1_e])), (q97_2, .inr (3, [.int 0, .ref q97_2_p, .int 0, .int 0, .ref q97_2_e])), (q97_3, .inr (3, [.int 0, .ref q97_3_p, .int 0, .int 0, .ref q97_3_e])), (q97_4, .inr (3, [.int 0, .ref q97_4_p, .int 0, .int 0, .ref q97_4_e])), (q97_5, .inr (3, [.int 0, .ref q97_5_p, .int 0, .int 0, .ref q97_5_e])), (q97_6, .inr (3, [.int 0, .ref q97_6_p, .int 0, .int 0, .ref q97_6_e])), (q97_7, .inr (3, [.int 0, .ref q97_7_p, .int 0, .int 0, .ref q97_7_e])), (q97_0_e, .inl (cI, 100, .inl (fun _ => 0))), (q97_1_e, .inl (cI, 100, .inl (fun _ => 0))), (q97_2_e, .inl (cI, 100, .inl (fun _ => 0))), (q97_3_e, .inl (cI, 100, .inl (fun _ => 0))), (q97_4_e, .inl (cI, 100, .inl (fun _ => 0))), (q97_5_e, .inl (cI, 100, .inl (fun _ => 0))), (q97_6_e, .inl (cI, 100, .inl (fun _ => 0))), (q97_7_e, .inl (cI, 100, .inl (fun _ => 0))), (q97_0_p, pcE), (q97_1_p, pcE), (q97_2_p, pcE), (q97_3_p, pcE), (q97_4_p, pcE), (q97_5_p, pcE), (q97_6_p, pcE), (q97_7_p, pcE), (q5_p0, pcE), (q5_p1, pcE), (q5_p2, pcE), (q5_p3, pcE), (q5_p4, pcE), (q5_p5, pcE), (q16_p0, pcE), (q16_p1, pcE), (q16_p2, pcE), (q16_p3, pcE), (q16_p4, pcE), (q16_p5, pcE), (q27_p0, pcE), (q27_p1, pcE), (q27_p2, pcE), (q27_p3, pcE), (q27_p4, pcE), (q27_p5, pcE), (q49, pcE), (h6, .inr (6, [.ref m7, .ref m15, .ref m23, .ref m31, .ref m39, .ref m47, .ref m55, .ref m64, .ref m72, .ref m80, .int 0, .int 0, .int 0, .int 0, .int 0, .int 0, .int 0, .ref m87, .int 0, .int 0, .int 0, .int 0, .int 0, .int 0])), (m7, .inl (cI, 54, .inl (upd (upd (upd (upd (fun _ => 0) 6 20) 7 4) 8 300) 9 3))), (m15, .inl (cI, 54, .inl (fun _ => 0))), (m23, .inl (cI, 54, .inl (fun _ => 0))), (m31, .inl (cI, 54, .inl (fun _ => 0))), (m39, .inl (cI, 8, .inl (fun _ => 0))), (m47, .inl (cI, 8, .inl (fun _ => 0))), (m55, .inl (cI, 8, .inl (fun _ => 0))), (m64, .inl (cI, 800, .inl (fun _ => 0))), (m72, .inl (cI, 8, .inl (fun _ => 0))), (m80, .inl (cI, 8, .inl (fun _ => 0))), (m87, .inl (cI, 3, .inl (fun _ => 0)))] H) : va_P D vwCl (wl (mkG D cI cP cS [h5, q5, q16, q27, q38, q60, q73, nu, q5_a, q16_a, q27_a, q5_s, q16_s, q27_s, q97_0, q97_1, q97_2, q97_3, q97_4, q97_5, q97_6, q97_7, q97_0_e, q97_1_e, q97_2_e, q97_3_e, q97_4_e, q97_5_e, q97_6_e, q97_7_e, q97_0_p, q97_1_p, q97_2_p, q97_3_p, q97_4_p, q97_5_p, q97_6_p, q97_7_p, q5_p0, q5_p1, q5_p2, q5_p3, q5_p4, q5_p5, q16_p0, q16_p1, q16_p2, q16_p3, q16_p4, q16_p5, q27_p0, q27_p1, q27_p2, q27_p3, q27_p4, q27_p5, q49, h6, m7, m15, m23, m31, m39, m47, m55, m64, m72, m80, m87] K V z gl gm) M00) H := by
  intro k q hk
  obtain ⟨h1, rfl⟩ := wl_inv hk
  have h9 : k = 0 ∨ k = 1 ∨ k = 2 ∨ k = 3 ∨ k = 4 ∨ k = 5 ∨ k = 6 ∨ k = 7 ∨ k = 8 ∨ k = 9 ∨ k = 10 ∨ k = 11 ∨ k = 12 ∨ k = 13 ∨ k = 14 ∨ k = 15 ∨ k = 16 ∨ k = 17 ∨ k = 18 ∨ k = 19 ∨ k = 20 ∨ k = 21 ∨ k = 22 ∨ k = 23 ∨ k = 24 ∨ k = 25 ∨ k = 26 ∨ k = 27 ∨ k = 28 ∨ k = 29 ∨ k = 30 ∨ k = 31 ∨ k = 32 ∨ k = 33 ∨ k = 34 ∨ k = 35 ∨ k = 36 ∨ k = 37 ∨ k = 38 ∨ k = 39 ∨ k = 40 ∨ k = 41 ∨ k = 42 ∨ k = 43 ∨ k = 44 ∨ k = 45 ∨ k = 46 ∨ k = 47 ∨ k = 48 ∨ k = 49 ∨ k = 50 ∨ k = 51 ∨ k = 52 ∨ k = 53 ∨ k = 54 ∨ k = 55 ∨ k = 56 ∨ k = 57 ∨ k = 58 ∨ k = 59 ∨ k = 60 ∨ k = 61 ∨ k = 62 ∨ k = 63 ∨ k = 64 ∨ k = 65 ∨ k = 66 ∨ k = 67 ∨ k = 68 := by omega
  rcases h9 with rfl | rfl | rfl | rfl | rfl | rfl | rfl | rfl | rfl | rfl | rfl | rfl | rfl | rfl | rfl | rfl | rfl | rfl | rfl | rfl | rfl | rfl | rfl | rfl | rfl | rfl | rfl | rfl | rfl | rfl | rfl | rfl | rfl | rfl | rfl | rfl | rfl | rfl | rfl | rfl | rfl | rfl | rfl | rfl | rfl | rfl | rfl | rfl | rfl | rfl | rfl | rfl | rfl | rfl | rfl | rfl | rfl | rfl | rfl | rfl | rfl | rfl | rfl | rfl | rfl | rfl | rfl | rfl | rfl
  · exact hP 0 _ rfl
  · exact hP 1 _ rfl
  · exact hP 2 _ rfl
  · exact hP 3 _ rfl
  · exact hP 4 _ rfl
  · exact hP 5 _ rfl
  · have h := hP 6 _ rfl
    exact (show H[q73]? = _ from h).trans (congrArg some (refs_eq (fun k hk => by rcases (show k = 0 ∨ k = 1 ∨ k = 2 ∨ k = 3 ∨ k = 4 ∨ k = 5 ∨ k = 6 ∨ k = 7 by omega) with rfl | rfl | rfl | rfl | rfl | rfl | rfl | rfl <;> rfl)))
  · exact hP 7 _ rfl
  · have h := hP 8 _ rfl
    exact (show H[q5_a]? = _ from h).trans (congrArg some (refs_eq (fun k hk => by rcases (show k = 0 ∨ k = 1 ∨ k = 2 ∨ k = 3 ∨ k = 4 ∨ k = 5 by omega) with rfl | rfl | rfl | rfl | rfl | rfl <;> first | exact hf1.1 | exact hf1.2.1 | exact hf1.2.2.1 | exact hf1.2.2.2.1 | exact hf1.2.2.2.2.1 | exact hf1.2.2.2.2.2)))
  · have h := hP 9 _ rfl
    exact (show H[q16_a]? = _ from h).trans (congrArg some (refs_eq (fun k hk => by rcases (show k = 0 ∨ k = 1 ∨ k = 2 ∨ k = 3 ∨ k = 4 ∨ k = 5 by omega) with rfl | rfl | rfl | rfl | rfl | rfl <;> first | exact hf2.1 | exact hf2.2.1 | exact hf2.2.2.1 | exact hf2.2.2.2.1 | exact hf2.2.2.2.2.1 | exact hf2.2.2.2.2.2)))
  · have h := hP 10 _ rfl
    exact (show H[q27_a]? = _ from h).trans (congrArg some (refs_eq (fun k hk => by rcases (show k = 0 ∨ k = 1 ∨ k = 2 ∨ k = 3 ∨ k = 4 ∨ k = 5 by omega) with rfl | rfl | rfl | rfl | rfl | rfl <;> first | exact hf3.1 | exact hf3.2.1 | exact hf3.2.2.1 | exact hf3.2.2.2.1 | exact hf3.2.2.2.2.1 | exact hf3.2.2.2.2.2)))
  · exact hP 11 _ rfl
  · exact hP 12 _ rfl
  · exact hP 13 _ rfl
  · exact hP 14 _ rfl
  · exact hP 15 _ rfl
  · exact hP 16 _ rfl
  · exact hP 17 _ rfl
  · exact hP 18 _ rfl
  · exact hP 19 _ rfl
  · exact hP 20 _ rfl
  · exact hP 21 _ rfl
  · exact hP 22 _ rfl
  · exact hP 23 _ rfl
  · exact hP 24 _ rfl
  · exact hP 25 _ rfl
  · exact hP 26 _ rfl
  · exact hP 27 _ rfl
  · exact hP 28 _ rfl
  · exact hP 29 _ rfl
  · exact hP 30 _ rfl
  · exact hP 31 _ rfl
  · exact hP 32 _ rfl
  · exact hP 33 _ rfl
  · exact hP 34 _ rfl
  · exact hP 35 _ rfl
  · exact hP 36 _ rfl
  · exact hP 37 _ rfl
  · exact hP 38 _ rfl
  · exact hP 39 _ rfl
  · exact hP 40 _ rfl
  · exact hP 41 _ rfl
  · exact hP 42 _ rfl
  · exact hP 43 _ rfl
  · exact hP 44 _ rfl
  · exact hP 45 _ rfl
  · exact hP 46 _ rfl
  · exact hP 47 _ rfl
  · exact hP 48 _ rfl
  · exact hP 49 _ rfl
  · exact hP 50 _ rfl
  · exact hP 51 _ rfl
  · exact hP 52 _ rfl
  · exact hP 53 _ rfl
  · exact hP 54 _ rfl
  · exact hP 55 _ rfl
  · exact hP 56 _ rfl
  · exact hP 57 _ rfl
  · exact hP 58 _ rfl
  · exact hP 59 _ rfl
  · exact hP 60 _ rfl
  · exact hP 61 _ rfl
  · exact hP 62 _ rfl
  · exact hP 63 _ rfl
  · exact hP 64 _ rfl
  · exact hP 65 _ rfl
  · exact hP 66 _ rfl
  · exact hP 67 _ rfl
  · exact hP 68 _ rfl
