theorem lx_nw_in : ∀ w ∈ gx_nw, w ∈ lw_tbl ∧ w.onTables = true := by decide +kernel
theorem lx_table {args : Array Value} {s : State} {nm : String} {f : Nat → Int32} (hl : (Cond.laysStatic "RosetteGantry" nm "[I").before args s = true) (hini : (Cond.initialized "RosetteGantry").before args s = true) (harr : (Cond.arrayOf (.static "RosetteGantry" nm "[I") .int).before args s = true) (hlen : (Cond.eq (.length (.static "RosetteGantry" nm "[I")) (.int 24)).before args s = true)
    (hel : ∀ j : Nat, j < 24 → (Cond.eq (.elem (.static "RosetteGantry" nm "[I") (.int (Int32.ofNat j))) (.int (f j))).before args s = true) :
    ∃ t : Nat, va_Z "RosetteGantry" nm "[I" (.ref t) (fun q => s.heap.size ≤ q) s s.heap ∧ va_T .int t 24 (fun j => .int (f j)) (fun q => s.heap.size ≤ q) s s.heap := by
  obtain ⟨t, ht, hT⟩ := va_Tof (A := fun q => s.heap.size ≤ q) (N := 24) (f := fun j => .int (f j)) (by decide) harr (va_eqt hlen) (fun j hj => va_eqt (hel j hj)) (fun a h => Nat.not_le.mpr h)
  exact ⟨t, va_Zof hl hini ht (fun a h => Nat.not_le.mpr h), hT⟩
theorem lx_tab_COSINES {args : Array Value} {s : State} (h : (Jvm.Cond.and given_1 narrow_1).before args s = true) : (Cond.arrayOf (.static "RosetteGantry" "COSINES" "[I") .int).before args s = true ∧ (Cond.eq (.length (.static "RosetteGantry" "COSINES" "[I")) (.int 24)).before args s = true ∧ ∀ j : Nat, j < 24 → (Cond.eq (.elem (.static "RosetteGantry" "COSINES" "[I") (.int (Int32.ofNat j))) (.int (gx_cos j))).before args s = true := by
  have hs := flat_of_before _ h
  refine ⟨hs _ (by decide +kernel), hs _ (by decide +kernel), fun j hj => hs _ ?_⟩
  exact (show ∀ j, j < 24 → Cond.eq (.elem (.static "RosetteGantry" "COSINES" "[I") (.int (Int32.ofNat j))) (.int (gx_cos j)) ∈ flatC (Jvm.Cond.and given_1 narrow_1) by decide +kernel) j hj
theorem lx_tab_SINES {args : Array Value} {s : State} (h : (Jvm.Cond.and given_1 narrow_1).before args s = true) : (Cond.arrayOf (.static "RosetteGantry" "SINES" "[I") .int).before args s = true ∧ (Cond.eq (.length (.static "RosetteGantry" "SINES" "[I")) (.int 24)).before args s = true ∧ ∀ j : Nat, j < 24 → (Cond.eq (.elem (.static "RosetteGantry" "SINES" "[I") (.int (Int32.ofNat j))) (.int (gx_sin j))).before args s = true := by
  have hs := flat_of_before _ h
  refine ⟨hs _ (by decide +kernel), hs _ (by decide +kernel), fun j hj => hs _ ?_⟩
  exact (show ∀ j, j < 24 → Cond.eq (.elem (.static "RosetteGantry" "SINES" "[I") (.int (Int32.ofNat j))) (.int (gx_sin j)) ∈ flatC (Jvm.Cond.and given_1 narrow_1) by decide +kernel) j hj
theorem lx_arr {s : State} {args : Array Value} {ty : FieldType} (ht : ∀ C, ty ≠ .object C) (h : (Cond.arrayClass ty).before args s = true) : ∃ cA : ClassId, ArrOfT s cA ty ∧ va_RA s cA ty := by
  obtain ⟨cA, kA, comp, h1, h2, h3⟩ := Cond.arrayClass_spec h
  refine ⟨cA, fun n z => ⟨fun k h => (by cases h), kA, h2, comp, h3⟩, ?_⟩
  revert h1; cases ty <;> intro h1 <;> first | exact h1 | exact absurd rfl (ht _)
theorem lx_arrq {s : State} {args : Array Value} {C : String} (h : (Cond.arrayOver (.object C)).before args s = true) : ∃ cA : ClassId, ArrOfT s cA (.object C) ∧ va_RA s cA (.object C) := by
  obtain ⟨comp, cA, kA, h1, h2, h3, h4, h5⟩ := Cond.arrayOver_spec h
  exact ⟨cA, fun n z => ⟨fun k h => (by cases h), kA, h3, comp, h4⟩, kA, comp, h3, h4, h1, h5⟩
set_option maxRecDepth 100000 in
theorem lx_facts {p : Program} {s : State} {m : MethodId} {meth : Method} {c : Code} {b L : Nat} {xs : Nat → Int32} (C0 : lw_At p s m meth c b L xs) : ∃ (D : va_G) (cs : lx_CS) (t : Nat × Nat), lx_C D cs t p s m meth c b L xs := by
  obtain ⟨hx, hb, hr, hml, hown, hts0, hX, hbl, hlocks, hgv⟩ := C0
  have hts : ∀ w ∈ gx_T, w.before #[Value.ref b] s = true := fun w hw => hts0 w (List.mem_filter.mp hw).1
  obtain ⟨c0, s0, hK0⟩ := u_known (C := RX0) (T := TX0) (N := 2) (n := 2) hts in_X0 (hts0 (.instantiable RX0 2) (List.mem_of_getElem? (i := 216) (by decide +kernel)))
  obtain ⟨c1, s1, hK1⟩ := u_known (C := RX1) (T := TX1) (N := 4) (n := 4) hts in_X1 (hts0 (.instantiable RX1 4) (List.mem_of_getElem? (i := 233) (by decide +kernel)))
  obtain ⟨c2, s2, hK2⟩ := u_known (C := RX2) (T := TX2) (N := 15) (n := 15) hts in_X2 (hts0 (.instantiable RX2 15) (List.mem_of_getElem? (i := 278) (by decide +kernel)))
  obtain ⟨c3, s3, hK3⟩ := u_known (C := RX3) (T := TX3) (N := 4) (n := 4) hts in_X3 (hts0 (.instantiable RX3 4) (List.mem_of_getElem? (i := 256) (by decide +kernel)))
  obtain ⟨c4, s4, hK4⟩ := u_known (C := RX4) (T := TX4) (N := 12) (n := 12) hts in_X4 (hts0 (.instantiable RX4 12) (List.mem_of_getElem? (i := 106) (by decide +kernel)))
  obtain ⟨c5, s5, hK5⟩ := u_known (C := RX5) (T := TX5) (N := 2) (n := 2) hts in_X5 (hts0 (.instantiable RX5 2) (List.mem_of_getElem? (i := 86) (by decide +kernel)))
  obtain ⟨c6, s6, hK6⟩ := u_known (C := RX6) (T := TX6) (N := 10) (n := 10) hts in_X6 (hts0 (.instantiable RX6 10) (List.mem_of_getElem? (i := 78) (by decide +kernel)))
  obtain ⟨c7, s7, hK7⟩ := u_known (C := RX7) (T := TX7) (N := 8) (n := 8) hts in_X7 (hts0 (.instantiable RX7 8) (List.mem_of_getElem? (i := 70) (by decide +kernel)))
  obtain ⟨c8, s8, hK8⟩ := u_known (C := RX8) (T := TX8) (N := 17) (n := 17) hts in_X8 (hts0 (.instantiable RX8 17) (List.mem_of_getElem? (i := 714) (by decide +kernel)))
  obtain ⟨dC, dI, hKc⟩ : ∃ (dC : Nat → ClassId) (dI : Nat → Nat → Nat), ∀ (k : Nat) (q : vw_C), gx_cls[k]? = some q → u_Kn s q.1 q.2.1 q.2.2 (dC k) (dI k) := by
    refine ⟨fun k => match k with | 0 => c0 | 1 => c1 | 2 => c2 | 3 => c3 | 4 => c4 | 5 => c5 | 6 => c6 | 7 => c7 | _ => c8, fun k => match k with | 0 => s0 | 1 => s1 | 2 => s2 | 3 => s3 | 4 => s4 | 5 => s5 | 6 => s6 | 7 => s7 | _ => s8, ?_⟩
    intro k q hq
    match k, hq with
    | 0, hq => cases hq; exact hK0
    | 1, hq => cases hq; exact hK1
    | 2, hq => cases hq; exact hK2
    | 3, hq => cases hq; exact hK3
    | 4, hq => cases hq; exact hK4
    | 5, hq => cases hq; exact hK5
    | 6, hq => cases hq; exact hK6
    | 7, hq => cases hq; exact hK7
    | 8, hq => cases hq; exact hK8
    | k + 9, hq => simp [gx_cls] at hq
  obtain ⟨cI, hI⟩ := lx_arr (ty := .int) (fun _ h => by cases h) (hts0 (.arrayClass .int) (List.mem_of_getElem? (i := 105) (by decide +kernel)))
  obtain ⟨cZ, hZ⟩ := lx_arr (ty := .boolean) (fun _ h => by cases h) (hts0 (.arrayClass .boolean) (List.mem_of_getElem? (i := 276) (by decide +kernel)))
  obtain ⟨cC, hC⟩ := lx_arr (ty := .char) (fun _ h => by cases h) (hts0 (.arrayClass .char) (List.mem_of_getElem? (i := 771) (by decide +kernel)))
  have hoR := hts0 (.arrayOver (.object RX4)) (List.mem_of_getElem? (i := 84) (by decide +kernel))
  obtain ⟨cR, hR⟩ := lx_arrq hoR
  have hoS := hts0 (.arrayOver (.object RX6)) (List.mem_of_getElem? (i := 222) (by decide +kernel))
  obtain ⟨cS, hS⟩ := lx_arrq hoS
  have hini := hts0 (.initialized RX7) (List.mem_of_getElem? (i := 58) (by decide +kernel))
  obtain ⟨tC, hZC⟩ := lx_table (f := gx_cos) (hts0 (.laysStatic "RosetteGantry" "COSINES" "[I") (List.mem_of_getElem? (i := 482) (by decide +kernel))) hini (lx_tab_COSINES hgv).1 (lx_tab_COSINES hgv).2.1 (lx_tab_COSINES hgv).2.2
  obtain ⟨tS, hZS⟩ := lx_table (f := gx_sin) (hts0 (.laysStatic "RosetteGantry" "SINES" "[I") (List.mem_of_getElem? (i := 484) (by decide +kernel))) hini (lx_tab_SINES hgv).1 (lx_tab_SINES hgv).2.1 (lx_tab_SINES hgv).2.2
  refine ⟨(dC, dI), (cI, cZ, cC, cR, cS), (tC, tS), hx, hb, hr, hml, hown, hts, hX, hbl, hlocks, ⟨hKc, ?_⟩, ⟨hZC.1, hZC.2, hZS.1, hZS.2⟩, fun w hw => va_Nw.of (lx_nw_in w hw).2 (hts0 w (lx_nw_in w hw).1), va_AO.of hoR, va_AO.of hoS⟩
  intro k q hq
  match k, hq with
  | 0, hq => cases hq; exact hI
  | 1, hq => cases hq; exact hZ
  | 2, hq => cases hq; exact hC
  | 3, hq => cases hq; exact hR
  | 4, hq => cases hq; exact hS
  | k + 5, hq => simp [gx_tys] at hq
theorem lx_wsX {D : va_G} {cs : lx_CS} {t : Nat × Nat} {z : Nat} {I : gx_M} : gx_ws (lx_X0 D cs t z) 282 (cellX (lx_X0 D cs t z) I) = gx_ws (lx_X D cs t z) 282 (cellX (lx_X D cs t z) I) := by
  have h : ∀ a, cellX (lx_X0 D cs t z) I a = cellX (lx_X D cs t z) I a := fun a => by unfold cellX; rfl
  unfold gx_ws
  exact List.map_congr_left fun a _ => by rw [h]; rfl
theorem lx_wsM {D : va_G} {cs : lx_CS} {t : Nat × Nat} {z : Nat} {J : gx_MM} : gx_ws (lx_M0 D cs t z) 7 (cellM (lx_M0 D cs t z) J) = gx_ws (lx_M D cs t z) 7 (cellM (lx_M D cs t z) J) := by
  have h : ∀ a, cellM (lx_M0 D cs t z) J a = cellM (lx_M D cs t z) J a := fun a => by unfold cellM; rfl
  unfold gx_ws
  exact List.map_congr_left fun a _ => by rw [h]; rfl
set_option maxHeartbeats 4000000 in
set_option maxRecDepth 100000 in
/-- THE LAW, from its entry -/
theorem lx_whole (Inv : gx_M → gx_MM → Prop) (h0 : Inv gx_I0 gx_J0) (hstep : lx_step Inv) {p : Program} {e : Env} {s : State} {m : MethodId} {below : List Frame} {meth : Method} {c : Code} (l : Launch) {b L : Nat} {xs : Nat → Int32} (hL : L ≤ 2560) (C0 : lw_At p s m meth c b L xs) : W p l e room_1 s m #[Value.ref b] below meth c s.heap [] 0 0 (lw_Z below #[Value.ref b] s) (entryFrame m ([Value.ref b] : List Value).toArray 4) := by
  obtain ⟨D, cs, t, C⟩ := lx_facts C0
  have C1 := C
  obtain ⟨hx, hb, hr, hml, hown, hts, hX, hbl, hlocks, hK, hZ, hN, o4, o6⟩ := C1
  have hl := lv_entry ([.ref b]) (n := 4) (Nat.le_of_ble_eq_true rfl)
  rw [lg_entry_eq]
  generalize (lg_sl ([.ref b]) ++ List.replicate (4 - (lg_sl ([.ref b])).length) Slot.unset).toArray = ls at hl ⊢
  have hl : lv_has ls 4 [(0, .ref b)] := hl
  have hlin : gx_lin (lx_X0 D cs t s.heap.size) := ⟨fun a => (by show s.heap.size + a = s.heap.size + 0 + a; omega), fun q => Iff.rfl⟩
  have hlinM : gx_lin (lx_M0 D cs t s.heap.size) := ⟨fun a => (by show s.heap.size + 282 + a = s.heap.size + 282 + 0 + a; omega), fun q => Iff.rfl⟩
  have K : gx_CK (lx_X0 D cs t s.heap.size) 0 p s m #[Value.ref b] meth c RL code 4 ret := ⟨fun N => ⟨hx, hb, hr, hlocks, hml, hown, hts, hK, hZ, hlin.ok N, hN⟩, hlin, rfl, o4, o6, fun h => absurd rfl h⟩
  have hM : gx_S (lx_X0 D cs t s.heap.size) 0 (fun _ => .inr (7, [])) s.heap s.heap [] := ⟨fun k q h => by simp [gx_ws] at h, va_S.rf⟩
  refine gk_new (N := 0) (fs := [.null, .null, .int 0, .null, .null, .int 0, .null, .null]) K hM rfl (ci := 7) rfl in_X7 tyX7 tyX7_ok gw_69 gw_70 gw_58 (fun j hj => by rcases (show j = 0 ∨ j = 1 ∨ j = 2 ∨ j = 3 ∨ j = 4 ∨ j = 5 ∨ j = 6 ∨ j = 7 by omega) with rfl | rfl | rfl | rfl | rfl | rfl | rfl | rfl <;> rfl) (Nat.le_of_ble_eq_true rfl) (Nat.le_of_ble_eq_true rfl) dL_law_0 (fun H hM => ?_)
  have hM : gx_S (lx_X0 D cs t s.heap.size) (0 + 1) (gx_cs (fun _ => .inr (7, [])) (cellX (lx_X0 D cs t s.heap.size) gx_I0) 0 [.inr (7, [.null, .null, .int 0, .null, .null, .int 0, .null, .null])]) s.heap H [] := gx_S_re hM gx_cs_new
  refine lv_dup hx hb dL_law_3 rfl ?_
  refine gk_call (As := []) (rest := [.ref (gx_ad (lx_X0 D cs t s.heap.size) 0)]) K (b := 0) hM rfl (ci_X7 l (lx_X0 D cs t s.heap.size) _ 0 (by decide +kernel)) ⟨gw_73, gw_58, by decide, by decide, by decide +kernel⟩ rfl gw_72 (Or.inl gw_71) rfl hl.1 rfl (Nat.le_of_ble_eq_true rfl) ⟨⟨rfl, rfl⟩, Nat.le_of_ble_eq_true rfl, Nat.le_of_ble_eq_true rfl⟩ ⟨Nat.le_of_ble_eq_true rfl, Nat.le_of_ble_eq_true rfl⟩ dL_law_4 (fun H locs hM => ?_)
  have hM : gx_S (lx_X0 D cs t s.heap.size) 282 (cellX (lx_X0 D cs t s.heap.size) gx_I0) s.heap H locs := gx_S_re hM (fun b _ => gx_cs_made (by simp))
  refine lv_astore_n (lv' := [(1, .ref (gx_ad (lx_X0 D cs t s.heap.size) 0)), (0, .ref b)]) hx hb dL_law_7 rfl hl (by decide) rfl (fun ls hl => ?_)
  refine gk_new (N := 282) (fs := [.null, .null, .int 0, .null, .int 0, .int 0, .long 0, .long 0, .long 0, .int 0, .long 0, .null, .int 0, .null, .int 0, .int 0, .null]) K hM rfl (ci := 8) rfl in_X8 tyX8 tyX8_ok gw_713 gw_714 gw_67 (fun j hj => by rcases (show j = 0 ∨ j = 1 ∨ j = 2 ∨ j = 3 ∨ j = 4 ∨ j = 5 ∨ j = 6 ∨ j = 7 ∨ j = 8 ∨ j = 9 ∨ j = 10 ∨ j = 11 ∨ j = 12 ∨ j = 13 ∨ j = 14 ∨ j = 15 ∨ j = 16 by omega) with rfl | rfl | rfl | rfl | rfl | rfl | rfl | rfl | rfl | rfl | rfl | rfl | rfl | rfl | rfl | rfl | rfl <;> rfl) (Nat.le_of_ble_eq_true rfl) (Nat.le_of_ble_eq_true rfl) dL_law_8 (fun H hM => ?_)
  refine lv_dup hx hb dL_law_11 rfl ?_
  refine gk_size (N := 282) K hM rfl (fun hsz => ?_)
  have hcell := hM.1 282 _ (gx_ws_get (by decide))
  have hPX : va_P D gx_cls (gx_ws (lx_X0 D cs t s.heap.size) 282 (cellX (lx_X0 D cs t s.heap.size) gx_I0)) H := by
    intro k q hq
    obtain ⟨h1, rfl⟩ := gx_ws_of hq
    have h2 := hM.1 k _ (gx_ws_get (by omega))
    rw [if_neg (by omega)] at h2
    exact h2
  have hpre : ∀ U : State, U.heap = H → s.WarmedH U.vm → gx_UK (lx_M0 D cs t s.heap.size) (0 + 1) (gx_cs (fun _ => .inr (8, [])) (cellM (lx_M0 D cs t s.heap.size) gx_J0) 0 [.inr (8, [.null, .null, .int 0, .null, .int 0, .int 0, .long 0, .long 0, .long 0, .int 0, .long 0, .null, .int 0, .null, .int 0, .int 0, .null])]) U := by
    intro U hU hv
    refine ⟨⟨?_, va_K.moved hv.alike hK, lx_Z hZ (fun q h => Nat.le_trans (Nat.le_add_right _ 282) h) ⟨rfl, rfl⟩ hv.alike (fun q hq => by rw [hU]; exact hM.2.2.1 q hq (Nat.not_le.mpr hq)), hlinM.ok _, hN.moved hv⟩, hlinM, by rw [hU, hsz]; rfl, va_AO.moved hv.alike o4, va_AO.moved hv.alike o6⟩
    rw [hU]
    intro k q hq
    obtain ⟨h1, rfl⟩ := gx_ws_of hq
    have h3 : k = 0 := by omega
    subst h3
    rw [if_pos rfl] at hcell
    exact hcell
  have hrun : va_Run p l e room_1 s m #[Value.ref b] below meth c H locs 283 2461 6 2212 (F0 m 12 ls [.ref (gx_ad (lx_M0 D cs t s.heap.size) 0), .ref (gx_ad (lx_M0 D cs t s.heap.size) 0)]) [.ref (gx_ad (lx_M0 D cs t s.heap.size) 0)] (va_Qv (fun _ : Unit => True) (fun _ u => gx_UK (lx_M0 D cs t s.heap.size) (0 + 1 + 6) (gx_cs (fun _ => .inr (8, [])) (cellM (lx_M0 D cs t s.heap.size) gx_J0) 0 []) u) (gx_A (lx_M0 D cs t s.heap.size)) (Value.ref (gx_ad (lx_M0 D cs t s.heap.size) 0) :: []).toArray) (gx_A (lx_M0 D cs t s.heap.size)) :=
    va_runI (Ts := gx_T) (As := []) ⟨hx, hb, hml, hown, hts⟩ (ci_X8 l (lx_M0 D cs t s.heap.size) (fun _ => .inr (8, [])) 0 (by decide +kernel)) ⟨callB_of 0 hts (gx_GI gw_717) rfl rfl rfl (hts _ gw_67) (hts _ gw_715) ⟨by decide, by decide, by decide +kernel⟩ ⟨Nat.le_of_ble_eq_true rfl, Nat.le_of_ble_eq_true rfl⟩, rfl, hts _ gw_716⟩ ⟨gx_UK_blind, fun U hU hv => ⟨rfl, hpre U hU hv⟩⟩ rfl rfl hl.1 rfl (lv_room (Nat.le_of_ble_eq_true rfl)) dL_law_12 ⟨Nat.le_of_ble_eq_true rfl, Nat.le_of_ble_eq_true rfl⟩
  refine va_callv (A0 := fun q => s.heap.size ≤ q) hrun hM.2 (fun q _ h => Nat.le_trans (Nat.le_add_right _ 282) h) (fun q h => Nat.le_trans (Nat.le_add_right _ 282) h) fun u tt H1 locs1 ht hvm hp hB hz hk1 hS => ?_
  have hW : lx_W D cs t s gx_I0 gx_J0 H1 locs1 := by
    refine ⟨?_, ?_, hS⟩
    · rw [← lx_wsX]
      refine va_P.kept hPX fun k q hq => ?_
      have hlt := (hPX k q hq).lt
      obtain ⟨h1, rfl⟩ := gx_ws_of hq
      refine hk1 _ hlt fun h2 => ?_
      have h3 : s.heap.size + 282 ≤ s.heap.size + k := h2
      omega
    · rw [← lx_wsM, ← ht]
      rw [← gx_ws_congr (c1 := gx_cs (fun _ => .inr (8, [])) (cellM (lx_M0 D cs t s.heap.size) gx_J0) 0 []) (fun b _ => gx_cs_made (by simp))]
      exact hB.1.1
  refine lv_astore_n (lv' := [(2, .ref (gx_ad (lx_M0 D cs t s.heap.size) 0)), (1, .ref (gx_ad (lx_X0 D cs t s.heap.size) 0)), (0, .ref b)]) hx hb dL_law_15 rfl hl (by decide) rfl (fun ls hl => ?_)
  refine lv_iconst (v := nI (5 * 0)) hx hb dL_law_16 (by decide) ?_
  refine lv_istore_n (lv' := [(3, .int (nI (5 * 0))), (2, .ref (gx_ad (lx_M0 D cs t s.heap.size) 0)), (1, .ref (gx_ad (lx_X0 D cs t s.heap.size) 0)), (0, .ref b)]) hx hb dL_law_17 rfl hl (by decide) rfl (fun ls hl => ?_)
  exact lx_loop hstep hL C (L + 1) 0 (by omega) (by omega) gx_I0 gx_J0 H1 locs1 ls h0 hW (lv_sub hl [3, 2, 1, 0] rfl)
