theorem lx_nw_in : ∀ w ∈ gx_nw, w ∈ lw_tbl ∧ w.onTables = true := by decide +kernel
theorem lx_table {args : Array Value} {s : State} {nm : String} {f : Nat → Int32} (hl : (Cond.laysStatic "RosetteGantry" nm "[I").before args s = true) (hini : (Cond.initialized "RosetteGantry").before args s = true) (harr : (Cond.arrayOf (.static "RosetteGantry" nm "[I") .int).before args s = true) (hlen : (Cond.eq (.length (.static "RosetteGantry" nm "[I")) (.int 24)).before args s = true)
    (hel : ∀ j : Nat, j < 24 → (Cond.eq (.elem (.static "RosetteGantry" nm "[I") (.int (Int32.ofNat j))) (.int (f j))).before args s = true) :
    ∃ t : Nat, va_Z "RosetteGantry" nm "[I" (.ref t) (fun q => s.heap.size ≤ q) s s.heap ∧ va_T .int t 24 (fun j => .int (f j)) (fun q => s.heap.size ≤ q) s s.heap := by
  obtain ⟨t, ht, hT⟩ := va_Tof (A := fun q => s.heap.size ≤ q) (N := 24) (f := fun j => .int (f j)) (by decide) harr (va_eqt hlen) (fun j hj => va_eqt (hel j hj)) (fun a h => Nat.not_le.mpr h)
  exact ⟨t, va_Zof hl hini ht (fun a h => Nat.not_le.mpr h), hT⟩
theorem lx_tab_COSINES {args : Array Value} {s : State} (h : (Jvm.Cond.and given_1 narrow_1).before args s = true) : (Cond.arrayOf (.static "RosetteGantry" "COSINES" "[I") .int).before args s = true ∧ (Cond.eq (.length (.static "RosetteGantry" "COSINES" "[I")) (.int 24)).before args s = true ∧ ∀ j : Nat, j < 24 → (Cond.eq (.elem (.static "RosetteGantry" "COSINES" "[I") (.int (Int32.ofNat j))) (.int (gx_cos j))).before args s = true := by
  have hs := flat_of_before _ h
  refine ⟨hs _ (by decide +kernel), hs _ (by decide +kernel), fun j hj => hs _ ?_⟩
  exact (show ∀ j, j < 24 → Cond.eq (.elem (.static "RosetteGantry" "COSINES" "[I") (.int (Int32.ofNat j))) (.int (gx_cos j)) ∈ flatC (Jvm.Cond.and given_1 narrow_1) by decide +kernel) j hj
theorem lx_tab_SINES {args : Array Value} {s : State} (h : (Jvm.Cond.and given_1 narrow_1).before args s = true) : (Cond.arrayOf (.static "RosetteGantry" "SINES" "[I") .int).before args s = true ∧ (Cond.eq (.length (.static "RosetteGantry" "SINES" "[I")) (.int 24)).before args s = true ∧ ∀ j : Nat, j < 24 → (Cond.eq (.elem (.static "RosetteGantry" "SINES" "[I") (.int (Int32.ofNat j))) (.int (gx_sin j))).before args s = true := by
  have hs := flat_of_before _ h
  refine ⟨hs _ (by decide +kernel), hs _ (by decide +kernel), fun j hj => hs _ ?_⟩
  exact (show ∀ j, j < 24 → Cond.eq (.elem (.static "RosetteGantry" "SINES" "[I") (.int (Int32.ofNat j))) (.int (gx_sin j)) ∈ flatC (Jvm.Cond.and given_1 narrow_1) by decide +kernel) j hj
theorem lx_arr {s : State} {args : Array Value} {ty : FieldType} (ht : ∀ C, ty ≠ .object C) (h : (Cond.arrayClass ty).before args s = true) : ∃ cA : ClassId, ArrOfT s cA ty ∧ va_RA s cA ty := by
  obtain ⟨cA, kA, comp, h1, h2, h3⟩ := Cond.arrayClass_spec h
  refine ⟨cA, fun n z => ⟨fun k h => (by cases h), kA, h2, comp, h3⟩, ?_⟩
  revert h1; cases ty <;> intro h1 <;> first | exact h1 | exact absurd rfl (ht _)
theorem lx_arrq {s : State} {args : Array Value} {C : String} (h : (Cond.arrayOver (.object C)).before args s = true) : ∃ cA : ClassId, ArrOfT s cA (.object C) ∧ va_RA s cA (.object C) := by
  obtain ⟨comp, cA, kA, h1, h2, h3, h4, h5⟩ := Cond.arrayOver_spec h
  exact ⟨cA, fun n z => ⟨fun k h => (by cases h), kA, h3, comp, h4⟩, kA, comp, h3, h4, h1, h5⟩
/-- the object's layout: its cells lie from z on -/
def lx_L (D : va_G) (cs : ClassId × ClassId × ClassId × ClassId × ClassId) (t : Nat × Nat) (z : Nat) : gx_L := (D, (fun a => z + a), (fun q => z ≤ q), cs, t)
set_option maxRecDepth 100000 in
theorem lx_facts {p : Program} {s : State} {m : MethodId} {meth : Method} {c : Code} {b L : Nat} {xs : Nat → Int32} (hL : L ≤ 260) (C0 : lw_At p s m meth c b L xs) : ∃ G : gx_L, gx_CK G 0 p s m #[Value.ref b] meth c RL code 15 ret ∧ lx_E G b L xs s := by
  obtain ⟨hx, hb, hr, hml, hown, hts0, hX, hbl, hlocks, hgv⟩ := C0
  have hts : ∀ w ∈ gx_T, w.before #[Value.ref b] s = true := fun w hw => hts0 w (List.mem_filter.mp hw).1
  obtain ⟨c0, s0, hK0⟩ := u_known (C := RX0) (T := TX0) (N := 2) (n := 2) hts in_X0 (hts0 (.instantiable RX0 2) (List.mem_of_getElem? (i := 179) (by decide +kernel)))
  obtain ⟨c1, s1, hK1⟩ := u_known (C := RX1) (T := TX1) (N := 4) (n := 4) hts in_X1 (hts0 (.instantiable RX1 4) (List.mem_of_getElem? (i := 196) (by decide +kernel)))
  obtain ⟨c2, s2, hK2⟩ := u_known (C := RX2) (T := TX2) (N := 15) (n := 15) hts in_X2 (hts0 (.instantiable RX2 15) (List.mem_of_getElem? (i := 241) (by decide +kernel)))
  obtain ⟨c3, s3, hK3⟩ := u_known (C := RX3) (T := TX3) (N := 4) (n := 4) hts in_X3 (hts0 (.instantiable RX3 4) (List.mem_of_getElem? (i := 219) (by decide +kernel)))
  obtain ⟨c4, s4, hK4⟩ := u_known (C := RX4) (T := TX4) (N := 12) (n := 12) hts in_X4 (hts0 (.instantiable RX4 12) (List.mem_of_getElem? (i := 69) (by decide +kernel)))
  obtain ⟨c5, s5, hK5⟩ := u_known (C := RX5) (T := TX5) (N := 2) (n := 2) hts in_X5 (hts0 (.instantiable RX5 2) (List.mem_of_getElem? (i := 49) (by decide +kernel)))
  obtain ⟨c6, s6, hK6⟩ := u_known (C := RX6) (T := TX6) (N := 10) (n := 10) hts in_X6 (hts0 (.instantiable RX6 10) (List.mem_of_getElem? (i := 41) (by decide +kernel)))
  obtain ⟨c7, s7, hK7⟩ := u_known (C := RX7) (T := TX7) (N := 8) (n := 8) hts in_X7 (hts0 (.instantiable RX7 8) (List.mem_of_getElem? (i := 33) (by decide +kernel)))
  obtain ⟨dC, dI, hKc⟩ : ∃ (dC : Nat → ClassId) (dI : Nat → Nat → Nat), ∀ (k : Nat) (q : vw_C), gx_cls[k]? = some q → u_Kn s q.1 q.2.1 q.2.2 (dC k) (dI k) := by
    refine ⟨fun k => match k with | 0 => c0 | 1 => c1 | 2 => c2 | 3 => c3 | 4 => c4 | 5 => c5 | 6 => c6 | _ => c7, fun k => match k with | 0 => s0 | 1 => s1 | 2 => s2 | 3 => s3 | 4 => s4 | 5 => s5 | 6 => s6 | _ => s7, ?_⟩
    intro k q hq
    match k, hq with
    | 0, hq => cases hq; exact hK0
    | 1, hq => cases hq; exact hK1
    | 2, hq => cases hq; exact hK2
    | 3, hq => cases hq; exact hK3
    | 4, hq => cases hq; exact hK4
    | 5, hq => cases hq; exact hK5
    | 6, hq => cases hq; exact hK6
    | 7, hq => cases hq; exact hK7
    | k + 8, hq => simp [gx_cls] at hq
  obtain ⟨cI, hI⟩ := lx_arr (ty := .int) (fun _ h => by cases h) (hts0 (.arrayClass .int) (List.mem_of_getElem? (i := 68) (by decide +kernel)))
  obtain ⟨cZ, hZ⟩ := lx_arr (ty := .boolean) (fun _ h => by cases h) (hts0 (.arrayClass .boolean) (List.mem_of_getElem? (i := 239) (by decide +kernel)))
  have hoR := hts0 (.arrayOver (.object RX4)) (List.mem_of_getElem? (i := 47) (by decide +kernel))
  obtain ⟨cR, hR⟩ := lx_arrq hoR
  have hoS := hts0 (.arrayOver (.object RX6)) (List.mem_of_getElem? (i := 185) (by decide +kernel))
  obtain ⟨cS, hS⟩ := lx_arrq hoS
  have hini := hts0 (.initialized RX7) (List.mem_of_getElem? (i := 22) (by decide +kernel))
  obtain ⟨tC, hZC⟩ := lx_table (f := gx_cos) (hts0 (.laysStatic "RosetteGantry" "COSINES" "[I") (List.mem_of_getElem? (i := 498) (by decide +kernel))) hini (lx_tab_COSINES hgv).1 (lx_tab_COSINES hgv).2.1 (lx_tab_COSINES hgv).2.2
  obtain ⟨tS, hZS⟩ := lx_table (f := gx_sin) (hts0 (.laysStatic "RosetteGantry" "SINES" "[I") (List.mem_of_getElem? (i := 500) (by decide +kernel))) hini (lx_tab_SINES hgv).1 (lx_tab_SINES hgv).2.1 (lx_tab_SINES hgv).2.2
  have hKK : va_K (dC, dI) gx_cls (gx_tys (lx_L (dC, dI) (cI, cZ, cI, cR, cS) (tC, tS) s.heap.size)) s := by
    refine ⟨hKc, ?_⟩
    intro k q hq
    match k, hq with
    | 0, hq => cases hq; exact hI
    | 1, hq => cases hq; exact hZ
    | 2, hq => cases hq; exact hR
    | 3, hq => cases hq; exact hS
    | k + 4, hq => simp [gx_tys] at hq
  have hlin : gx_lin (lx_L (dC, dI) (cI, cZ, cI, cR, cS) (tC, tS) s.heap.size) := ⟨fun a => (by show s.heap.size + a = s.heap.size + 0 + a; omega), fun q => Iff.rfl⟩
  have hZ4 : gx_Z (lx_L (dC, dI) (cI, cZ, cI, cR, cS) (tC, tS) s.heap.size) s s.heap := ⟨hZC.1, hZC.2, hZS.1, hZS.2⟩
  have hN : gx_N s := fun w hw => va_Nw.of (lx_nw_in w hw).2 (hts0 w (lx_nw_in w hw).1)
  exact ⟨lx_L (dC, dI) (cI, cZ, cI, cR, cS) (tC, tS) s.heap.size, ⟨fun N => ⟨hx, hb, hr, hlocks, hml, hown, hts, hKK, hZ4, hlin.ok N, hN⟩, hlin, rfl, va_AO.of hoR, va_AO.of hoS, fun h => absurd rfl h⟩, hX, hbl, Nat.not_le.mpr hbl, fun q h => h, hL⟩
set_option maxHeartbeats 4000000 in
set_option maxRecDepth 100000 in
/-- THE LAW, from its entry -/
theorem lx_whole {p : Program} {e : Env} {s : State} {m : MethodId} {below : List Frame} {meth : Method} {c : Code} {l : Launch} {b L : Nat} {xs : Nat → Int32} (hL : L ≤ 260) (C0 : lw_At p s m meth c b L xs) (h : wp_L_law (cel L xs) gx_I0) : W p l e room_1 s m #[Value.ref b] below meth c s.heap [] 0 0 (lw_Z below #[Value.ref b] s) (entryFrame m ([Value.ref b] : List Value).toArray 15) := by
  obtain ⟨G, K, E⟩ := lx_facts hL C0
  obtain ⟨hx, hb, hr, hml, hown, hts0, hX, hbl, hlocks, hgv⟩ := C0
  have hl := lv_entry ([.ref b]) (n := 15) (Nat.le_of_ble_eq_true rfl)
  rw [lg_entry_eq]
  generalize (lg_sl ([.ref b]) ++ List.replicate (15 - (lg_sl ([.ref b])).length) Slot.unset).toArray = ls at hl ⊢
  have hl : lv_has ls 15 [(0, .ref b)] := hl
  have hM : gx_S G 0 (fun _ => .inr (7, [])) s.heap s.heap [] := ⟨fun k q h => by simp [gx_ws] at h, va_S.rf⟩
  refine gk_new (N := 0) (fs := [.null, .null, .int 0, .null, .null, .int 0, .null, .null]) K hM rfl (ci := 7) rfl in_X7 tyX7 tyX7_ok gw_32 gw_33 gw_22 (fun j hj => by rcases (show j = 0 ∨ j = 1 ∨ j = 2 ∨ j = 3 ∨ j = 4 ∨ j = 5 ∨ j = 6 ∨ j = 7 by omega) with rfl | rfl | rfl | rfl | rfl | rfl | rfl | rfl <;> rfl) (Nat.le_of_ble_eq_true rfl) (Nat.le_of_ble_eq_true rfl) dL_law_0 (fun H hM => ?_)
  have hM : gx_S G (0 + 1) (gx_cs (fun _ => .inr (7, [])) (cellX G gx_I0) 0 [.inr (7, [.null, .null, .int 0, .null, .null, .int 0, .null, .null])]) s.heap H [] := gx_S_re hM gx_cs_new
  refine lv_dup hx hb dL_law_3 rfl ?_
  refine gk_call (As := []) (rest := [.ref (gx_ad G 0)]) K (b := 0) hM rfl (ci_X7 l G _ 0 (by decide +kernel)) ⟨gw_36, gw_22, by decide, by decide, by decide +kernel⟩ rfl gw_35 (Or.inl gw_34) rfl hl.1 rfl (Nat.le_of_ble_eq_true rfl) ⟨⟨rfl, rfl⟩, Nat.le_of_ble_eq_true rfl, Nat.le_of_ble_eq_true rfl⟩ ⟨Nat.le_of_ble_eq_true rfl, Nat.le_of_ble_eq_true rfl⟩ dL_law_4 (fun H locs hM => ?_)
  have hM : gx_S G 282 (cellX G gx_I0) s.heap H locs := gx_S_re hM (fun b _ => gx_cs_made (by simp))
  refine lv_astore_n (lv' := [(1, .ref (gx_ad G 0)), (0, .ref b)]) hx hb dL_law_7 rfl hl (by decide) rfl (fun ls hl => ?_)
  exact lx_body (K.1 282) E H locs ls hM hl h
