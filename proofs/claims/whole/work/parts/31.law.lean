/-! THE LAW: from step statements about the pure wp_ alone to the claim. -/
def lx_step (Inv : gx_M → gx_MM → Prop) : Prop :=
  (∀ (I : gx_M) (J : gx_MM) (p0 p1 p2 p3 : Int32), Inv I J → (p1 = 0 ∨ p1 = 1) → wp_X7_addRosette 0 p0 p1 p2 p3 I (fun r I1 => wp_X8_addRosette 0 p0 p1 p2 p3 J (fun r2 J1 => r = r2 ∧ Inv I1 J1))) ∧
  (∀ (I : gx_M) (J : gx_MM) (p0 p1 p2 p3 : Int32), Inv I J → wp_X7_setStrain 0 p0 p1 p2 p3 I (fun r I1 => wp_X8_setStrain 0 p0 p1 p2 p3 J (fun r2 J1 => r = r2 ∧ Inv I1 J1))) ∧
  (∀ (I : gx_M) (J : gx_MM) (p0 p1 : Int32), Inv I J → wp_X7_setLeads 0 p0 p1 I (fun r I1 => wp_X8_setLeads 0 p0 p1 J (fun r2 J1 => r = r2 ∧ Inv I1 J1))) ∧
  (∀ (I : gx_M) (J : gx_MM) (p0 p1 p2 : Int32), Inv I J → wp_X7_setOffset 0 p0 p1 p2 I (fun r I1 => wp_X8_setOffset 0 p0 p1 p2 J (fun r2 J1 => r = r2 ∧ Inv I1 J1))) ∧
  (∀ (I : gx_M) (J : gx_MM) (p0 p1 : Int32), Inv I J → (p1 = 0 ∨ p1 = 1) → wp_X7_setShunt 0 p0 p1 I (fun r I1 => wp_X8_setShunt 0 p0 p1 J (fun r2 J1 => r = r2 ∧ Inv I1 J1))) ∧
  (∀ (I : gx_M) (J : gx_MM) (p0 : Int32), Inv I J → wp_X7_setSize 0 p0 I (fun r I1 => wp_X8_setSize 0 p0 J (fun r2 J1 => r = r2 ∧ Inv I1 J1))) ∧
  (∀ (I : gx_M) (J : gx_MM) (p0 p1 p2 : Int32), Inv I J → wp_X7_request 0 p0 p1 p2 I (fun r I1 => wp_X8_request 0 p0 p1 p2 J (fun r2 J1 => r = r2 ∧ Inv I1 J1))) ∧
  (∀ (I : gx_M) (J : gx_MM) (p0 : Int32), Inv I J → wp_X7_cancel 0 p0 I (fun r I1 => wp_X8_cancel 0 p0 J (fun r2 J1 => r = r2 ∧ Inv I1 J1))) ∧
  (∀ (I : gx_M) (J : gx_MM), Inv I J → wp_X7_next 0 I (fun r I1 => wp_X8_next 0 J (fun r2 J1 => r = r2 ∧ Inv I1 J1))) ∧
  (∀ (I : gx_M) (J : gx_MM), Inv I J → wp_X7_workOff 0 I (fun r I1 => wp_X8_workOff 0 J (fun r2 J1 => r = r2 ∧ Inv I1 J1))) ∧
  (∀ (I : gx_M) (J : gx_MM) (p0 : Int32), Inv I J → (∃ z : Int32, p0 = (z.toUInt32 % 65536).toInt32) → wp_X7_type 0 p0 I (fun r I1 => wp_X8_type 0 p0 J (fun r2 J1 => r = r2 ∧ Inv I1 J1))) ∧
  (∀ (I : gx_M) (J : gx_MM), Inv I J → wp_X7_clearText 0 I (fun r I1 => wp_X8_clearText 0 J (fun r2 J1 => r = r2 ∧ Inv I1 J1))) ∧
  (∀ (I : gx_M) (J : gx_MM), Inv I J → wp_X7_readJobs 0 I (fun r I1 => wp_X8_readJobs 0 J (fun r2 J1 => r = r2 ∧ Inv I1 J1))) ∧
  (∀ (I : gx_M) (J : gx_MM), Inv I J → wp_X7_undo 0 I (fun r I1 => wp_X8_undo 0 J (fun r2 J1 => r = r2 ∧ Inv I1 J1))) ∧
  (∀ (I : gx_M) (J : gx_MM), Inv I J → wp_X7_keep 0 I (fun r I1 => wp_X8_keep 0 J (fun r2 J1 => r = r2 ∧ Inv I1 J1))) ∧
  (∀ (I : gx_M) (J : gx_MM), Inv I J → wp_X7_restore 0 I (fun r I1 => wp_X8_restore 0 J (fun r2 J1 => r = r2 ∧ Inv I1 J1))) ∧
  (∀ (I : gx_M) (J : gx_MM) (p0 p1 : Int32), Inv I J → wp_X7_rosette 0 p0 p1 I (fun r I1 => wp_X8_rosette 0 p0 p1 J (fun r2 J1 => r = r2 ∧ Inv I1 J1))) ∧
  (∀ (I : gx_M) (J : gx_MM) (p0 p1 p2 : Int32), Inv I J → wp_X7_gauge 0 p0 p1 p2 I (fun r I1 => wp_X8_gauge 0 p0 p1 p2 J (fun r2 J1 => r = r2 ∧ Inv I1 J1))) ∧
  (∀ (I : gx_M) (J : gx_MM) (p0 p1 : Int32), Inv I J → wp_X7_principal 0 p0 p1 I (fun r I1 => wp_X8_principal 0 p0 p1 J (fun r2 J1 => r = r2 ∧ Inv I1 J1))) ∧
  (∀ (I : gx_M) (J : gx_MM) (p0 p1 : Int32), Inv I J → wp_X7_pull 0 p0 p1 I (fun r I1 => wp_X8_pull 0 p0 p1 J (fun r2 J1 => r = r2 ∧ Inv I1 J1))) ∧
  (∀ (I : gx_M) (J : gx_MM) (p0 p1 : Int32), Inv I J → wp_X7_job 0 p0 p1 I (fun r I1 => wp_X8_job 0 p0 p1 J (fun r2 J1 => r = r2 ∧ Inv I1 J1))) ∧
  (∀ (I : gx_M) (J : gx_MM) (p0 p1 : Int32), Inv I J → wp_X7_record 0 p0 p1 I (fun r I1 => wp_X8_record 0 p0 p1 J (fun r2 J1 => r = r2 ∧ Inv I1 J1))) ∧
  (∀ (I : gx_M) (J : gx_MM) (p0 p1 : Int32), Inv I J → (p1 = 0 ∨ p1 = 1) → wp_X7_neighbour 0 p0 p1 I (fun r I1 => wp_X8_neighbour 0 p0 p1 J (fun r2 J1 => r = r2 ∧ Inv I1 J1))) ∧
  (∀ (I : gx_M) (J : gx_MM) (p0 : Int32), Inv I J → wp_X7_count 0 p0 I (fun r I1 => wp_X8_count 0 p0 J (fun r2 J1 => r = r2 ∧ Inv I1 J1)))
abbrev lx_CS : Type := ClassId × ClassId × ClassId × ClassId × ClassId
def lx_X0 (D : va_G) (cs : lx_CS) (t : Nat × Nat) (z : Nat) : gx_L := (D, (fun a => z + a), (fun q => z ≤ q), cs, t)
def lx_X (D : va_G) (cs : lx_CS) (t : Nat × Nat) (z : Nat) : gx_L := (D, (fun a => z + a), (fun q => z ≤ q ∧ q < z + 282), cs, t)
def lx_M0 (D : va_G) (cs : lx_CS) (t : Nat × Nat) (z : Nat) : gx_L := (D, (fun a => z + 282 + a), (fun q => z + 282 ≤ q), cs, t)
def lx_M (D : va_G) (cs : lx_CS) (t : Nat × Nat) (z : Nat) : gx_L := (D, (fun a => z + 282 + a), (fun q => z + 282 ≤ q ∧ q < z + 289), cs, t)
/-- what the law's walk stands on -/
def lx_C (D : va_G) (cs : lx_CS) (t : Nat × Nat) (p : Program) (s : State) (m : MethodId) (meth : Method) (c : Code) (b L : Nat) (xs : Nat → Int32) : Prop :=
  p.tables.exec = Jvm.exec ∧ c.code = code ∧ meth.sig.returnType = ret ∧ c.maxLocals = 4 ∧ s.vm.findClass RL = some m.cls ∧ (∀ w ∈ gx_T, w.before #[Value.ref b] s = true) ∧ va_X b L xs s s.heap ∧ b < s.heap.size ∧ meth.locks = false ∧
  va_K D gx_cls (gx_tys (lx_X D cs t s.heap.size)) s ∧ gx_Z (lx_X0 D cs t s.heap.size) s s.heap ∧ gx_N s ∧ va_AO RX4 s ∧ va_AO RX6 s
def lx_W (D : va_G) (cs : lx_CS) (t : Nat × Nat) (s : State) (I : gx_M) (J : gx_MM) (H : Heap) (locs : List Loc) : Prop :=
  va_P D gx_cls (gx_ws (lx_X D cs t s.heap.size) 282 (cellX (lx_X D cs t s.heap.size) I)) H ∧ va_P D gx_cls (gx_ws (lx_M D cs t s.heap.size) 7 (cellM (lx_M D cs t s.heap.size) J)) H ∧ va_S (fun q => s.heap.size ≤ q) s.heap H locs
theorem lx_Z {D : va_G} {cs : lx_CS} {t : Nat × Nat} {s U : State} {L : gx_L} (h : gx_Z (lx_X0 D cs t s.heap.size) s s.heap) (hA : ∀ q, gx_A L q → s.heap.size ≤ q) (ht : gx_tC L = t.1 ∧ gx_tS L = t.2) (hvm : s.vm.Alike U.vm) (hS : ∀ q, q < s.heap.size → U.heap[q]? = s.heap[q]?) : gx_Z L U U.heap := by
  have h1 : gx_Z L s s.heap := by
    unfold gx_Z
    rw [ht.1, ht.2]
    exact ⟨va_Z.narrow h.1 hA, va_T.narrow h.2.1 hA, va_Z.narrow h.2.2.1 hA, va_T.narrow h.2.2.2 hA⟩
  exact (h1.moved hvm).kept fun a h2 _ => hS a h2
theorem lx_UX {D : va_G} {cs : lx_CS} {t : Nat × Nat} {p : Program} {s : State} {m : MethodId} {meth : Method} {c : Code} {b L : Nat} {xs : Nat → Int32} {I : gx_M} {J : gx_MM} {H : Heap} {locs : List Loc} (C : lx_C D cs t p s m meth c b L xs) (hW : lx_W D cs t s I J H locs) {U : State} (hU : U.heap = H) (hv : s.WarmedH U.vm) : gx_U (lx_X D cs t s.heap.size) 282 (cellX (lx_X D cs t s.heap.size) I) U := by
  obtain ⟨-, -, -, -, -, -, -, -, -, hK, hZ, hN, -, -⟩ := C
  refine ⟨by rw [hU]; exact hW.1, va_K.moved hv.alike hK, lx_Z hZ (fun q h => h.1) ⟨rfl, rfl⟩ hv.alike (fun q hq => by rw [hU]; exact hW.2.2.2.1 q hq (Nat.not_le.mpr hq)), ⟨fun a b _ _ e => ?_, fun a ha => ⟨Nat.le_add_right _ _, Nat.add_lt_add_left ha _⟩⟩, hN.moved hv⟩
  have e1 : s.heap.size + a = s.heap.size + b := e
  omega
theorem lx_UM {D : va_G} {cs : lx_CS} {t : Nat × Nat} {p : Program} {s : State} {m : MethodId} {meth : Method} {c : Code} {b L : Nat} {xs : Nat → Int32} {I : gx_M} {J : gx_MM} {H : Heap} {locs : List Loc} (C : lx_C D cs t p s m meth c b L xs) (hW : lx_W D cs t s I J H locs) {U : State} (hU : U.heap = H) (hv : s.WarmedH U.vm) : gx_U (lx_M D cs t s.heap.size) 7 (cellM (lx_M D cs t s.heap.size) J) U := by
  obtain ⟨-, -, -, -, -, -, -, -, -, hK, hZ, hN, -, -⟩ := C
  refine ⟨by rw [hU]; exact hW.2.1, va_K.moved hv.alike hK, lx_Z hZ (fun q h => Nat.le_trans (Nat.le_add_right _ 282) h.1) ⟨rfl, rfl⟩ hv.alike (fun q hq => by rw [hU]; exact hW.2.2.2.1 q hq (Nat.not_le.mpr hq)), ⟨fun a b _ _ e => ?_, fun a ha => ⟨Nat.le_add_right _ _, ?_⟩⟩, hN.moved hv⟩
  · have e1 : s.heap.size + 282 + a = s.heap.size + 282 + b := e
    omega
  · show s.heap.size + 282 + a < s.heap.size + 289
    omega
section LX
variable {D : va_G} {cs : lx_CS} {t : Nat × Nat} {p : Program} {l : Launch} {e : Env} {R : Room} {s : State} {m : MethodId} {below : List Frame} {meth : Method} {c : Code} {H : Heap} {locs : List Loc} {cells slots : Nat} {Q : State → Prop} {b L : Nat} {xs : Nat → Int32} {I : gx_M} {J : gx_MM} {pc : Nat} {ls : Array Slot} {rest st0 : List Value}
variable {y : MethodName} {bytes : ByteArray} {maxL k index : Nat} {rm : Room} {As : List Value}
theorem lx_callX (C : lx_C D cs t p s m meth c b L xs) (hW : lx_W D cs t s I J H locs) {Qp : Int32 → gx_M → Prop} (hy : y.cls = RX7)
    (hY : Met l y (gx_w y bytes maxL (some .int)) rm (va_Pc (.ref (gx_ad (lx_X D cs t s.heap.size) 0) :: As) (gx_U (lx_X D cs t s.heap.size) 282 (cellX (lx_X D cs t s.heap.size) I))) (va_Qi Qp (fun I' u => gx_U (lx_X D cs t s.heap.size) 282 (cellX (lx_X D cs t s.heap.size) I') u) (gx_A (lx_X D cs t s.heap.size))) 0 0 (gx_A (lx_X D cs t s.heap.size)))
    (hk : gx_kV y bytes maxL (some .int) k) (hl : Cond.methodLink RL index y ∈ gx_T) (hn : As.length = k) (hls : ls.size = 4) (hst : st0 = As.reverse ++ .ref (gx_ad (lx_X D cs t s.heap.size) 0) :: rest) (hsum : (rest.map fun v => v.category).sum ≤ 8)
    (hr : (rm.cells = 0 ∧ rm.slots = 0) ∧ rm.frames + 1 ≤ R.frames ∧ 8 + (maxL + 11) + rm.locals ≤ R.locals) (hf : cells ≤ R.cells ∧ slots ≤ R.slots) (hdg : decode code pc = .ok (.invokevirtual index, 3))
    (kk : ∀ (r : Int32) (I : gx_M) (H : Heap) (locs : List Loc), Qp r I → lx_W D cs t s I J H locs → W p l e R s m #[Value.ref b] below meth c H locs cells slots Q (F0 m (pc + 3) ls (.int r :: rest))) : W p l e R s m #[Value.ref b] below meth c H locs cells slots Q (F0 m pc ls st0) := by
  have C0 := C
  obtain ⟨hx, hb, -, hml, hown, hts, -, -, -, hK, hZ, hN, -, -⟩ := C0
  obtain ⟨⟨k1, k2, k3⟩, k4, k5⟩ := hk
  have hrun := va_runV (meth := meth) (cells := cells) (slots := slots) (Ts := gx_T) (As := As) (rest := rest) (g := F0 m pc ls st0) (locs := locs) (e := e) (below := below) (R := R) ⟨hx, hb, hml, hown, hts⟩ hY ⟨callB_of k hts (gx_GI k1) rfl hr.1.1 hr.1.2 (hts _ k2) (hts _ hl) k3 hr.2, hts _ k4, hts _ k5⟩ ⟨gx_U_blind, by rw [hy]; exact va_recv (q := (RX7, TX7, 8)) hK hW.1 (ci := 7) rfl (q0 := 0) (by rw [gx_ws_get (by decide), cX_7 (by decide +kernel)]), fun U hU hv => ⟨rfl, lx_UX C hW hU hv⟩⟩ rfl hn hls hst (lv_room hsum) hdg ⟨by simpa using hf.1, by simpa using hf.2⟩
  refine va_calli hrun hW.2.2 (fun q _ h => h.1) (fun q h => h.1) fun r u tt H1 locs1 ht hvm hp hB hz hk1 hS => ?_
  refine kk r u H1 locs1 hp ⟨by rw [← ht]; exact hB.1, va_P.kept hW.2.1 fun k q hq => ?_, hS⟩
  have hlt := (hW.2.1 k q hq).lt
  obtain ⟨h1, rfl⟩ := gx_ws_of hq
  refine hk1 _ hlt fun h2 => ?_
  have h3 : s.heap.size + 282 + k < s.heap.size + 282 := h2.2
  omega
theorem lx_callM (C : lx_C D cs t p s m meth c b L xs) (hW : lx_W D cs t s I J H locs) {Qp : Int32 → gx_MM → Prop} (hy : y.cls = RX8)
    (hY : Met l y (gx_w y bytes maxL (some .int)) rm (va_Pc (.ref (gx_ad (lx_M D cs t s.heap.size) 0) :: As) (gx_U (lx_M D cs t s.heap.size) 7 (cellM (lx_M D cs t s.heap.size) J))) (va_Qi Qp (fun I' u => gx_U (lx_M D cs t s.heap.size) 7 (cellM (lx_M D cs t s.heap.size) I') u) (gx_A (lx_M D cs t s.heap.size))) 0 0 (gx_A (lx_M D cs t s.heap.size)))
    (hk : gx_kV y bytes maxL (some .int) k) (hl : Cond.methodLink RL index y ∈ gx_T) (hn : As.length = k) (hls : ls.size = 4) (hst : st0 = As.reverse ++ .ref (gx_ad (lx_M D cs t s.heap.size) 0) :: rest) (hsum : (rest.map fun v => v.category).sum ≤ 8)
    (hr : (rm.cells = 0 ∧ rm.slots = 0) ∧ rm.frames + 1 ≤ R.frames ∧ 8 + (maxL + 11) + rm.locals ≤ R.locals) (hf : cells ≤ R.cells ∧ slots ≤ R.slots) (hdg : decode code pc = .ok (.invokevirtual index, 3))
    (kk : ∀ (r : Int32) (J : gx_MM) (H : Heap) (locs : List Loc), Qp r J → lx_W D cs t s I J H locs → W p l e R s m #[Value.ref b] below meth c H locs cells slots Q (F0 m (pc + 3) ls (.int r :: rest))) : W p l e R s m #[Value.ref b] below meth c H locs cells slots Q (F0 m pc ls st0) := by
  have C0 := C
  obtain ⟨hx, hb, -, hml, hown, hts, -, -, -, hK, hZ, hN, -, -⟩ := C0
  obtain ⟨⟨k1, k2, k3⟩, k4, k5⟩ := hk
  have hrun := va_runV (meth := meth) (cells := cells) (slots := slots) (Ts := gx_T) (As := As) (rest := rest) (g := F0 m pc ls st0) (locs := locs) (e := e) (below := below) (R := R) ⟨hx, hb, hml, hown, hts⟩ hY ⟨callB_of k hts (gx_GI k1) rfl hr.1.1 hr.1.2 (hts _ k2) (hts _ hl) k3 hr.2, hts _ k4, hts _ k5⟩ ⟨gx_U_blind, by rw [hy]; exact va_recv (q := (RX8, TX8, 17)) hK hW.2.1 (ci := 8) rfl (q0 := 0) (by rw [gx_ws_get (by decide), cM_8 (by decide +kernel)]), fun U hU hv => ⟨rfl, lx_UM C hW hU hv⟩⟩ rfl hn hls hst (lv_room hsum) hdg ⟨by simpa using hf.1, by simpa using hf.2⟩
  refine va_calli hrun hW.2.2 (fun q _ h => Nat.le_trans (Nat.le_add_right _ 282) h.1) (fun q h => Nat.le_trans (Nat.le_add_right _ 282) h.1) fun r u tt H1 locs1 ht hvm hp hB hz hk1 hS => ?_
  refine kk r u H1 locs1 hp ⟨va_P.kept hW.1 fun k q hq => ?_, by rw [← ht]; exact hB.1, hS⟩
  have hlt := (hW.1 k q hq).lt
  obtain ⟨h1, rfl⟩ := gx_ws_of hq
  refine hk1 _ hlt fun h2 => ?_
  have h3 : s.heap.size + 282 ≤ s.heap.size + k := h2.1
  omega
theorem lx_more {k : Nat} (hL : L ≤ 2560) (hk : 5 * k ≤ L) (h : ¬ (nI L - 5 < nI (5 * k))) : 5 * k + 5 ≤ L := by
  have e1 : (nI L - nI 5).toInt = (L : Int) - (5 : Nat) := pk_sub_toInt (by omega) (by omega)
  have e2 : (nI (5 * k)).toInt = ((5 * k : Nat) : Int) := nI_toInt (by omega)
  have h2 : ¬ ((nI L - nI 5).toInt < (nI (5 * k)).toInt) := fun q => h (Int32.lt_iff_toInt_lt.mpr q)
  rw [e1, e2] at h2
  omega
theorem lx_idx {k j : Nat} (hL : L ≤ 2560) (hk : 5 * k + 5 ≤ L) (hj : j < 5) {x : Int32} (hx : x = nI j) : vp_in (nI (5 * k) + x) L := by
  rw [hx, nI_add]
  exact vp_in_nI (by omega) (by omega)
end LX
set_option maxHeartbeats 8000000 in
set_option maxRecDepth 100000 in
theorem lx_loop {Inv : gx_M → gx_MM → Prop} (hstep : lx_step Inv) {D : va_G} {cs : lx_CS} {t : Nat × Nat} {p : Program} {l : Launch} {e : Env} {s : State} {m : MethodId} {below : List Frame} {meth : Method} {c : Code} {b L : Nat} {xs : Nat → Int32} (hL : L ≤ 2560) (C : lx_C D cs t p s m meth c b L xs) :
    ∀ (n k : Nat), 5 * k ≤ L → L + 1 ≤ 5 * k + n → ∀ (I : gx_M) (J : gx_MM) (H : Heap) (locs : List Loc) (ls : Array Slot), Inv I J → lx_W D cs t s I J H locs → lv_has ls 4 [(0, .ref b), (1, .ref (gx_ad (lx_X D cs t s.heap.size) 0)), (2, .ref (gx_ad (lx_M D cs t s.heap.size) 0)), (3, .int (nI (5 * k)))] →
      W p l e room_1 s m #[Value.ref b] below meth c H locs 289 4673 (lw_Z below #[Value.ref b] s) (F0 m 18 ls []) := by
  have C0 := C
  obtain ⟨hx, hb, hr, hml, hown, hts, hX, hbl, hlocks, hK, hZ, hN, -, -⟩ := C0
  have hbA : ¬ (fun q : Nat => s.heap.size ≤ q) b := Nat.not_le.mpr hbl
  obtain ⟨hs0, hs1, hs2, hs3, hs4, hs5, hs6, hs7, hs8, hs9, hs10, hs11, hs12, hs13, hs14, hs15, hs16, hs17, hs18, hs19, hs20, hs21, hs22, hs23⟩ := hstep
  intro n
  induction n with
  | zero => intro k h1 h2; exact absurd h2 (by omega)
  | succ n ih =>
    intro k hk hn I J H locs ls hI hW hl
    refine lv_iload_n hx hb dL_law_18 rfl (lv_at hl 3 rfl) ?_
    refine lv_aload_n hx hb dL_law_19 rfl (lv_at hl 0 rfl) ?_
    refine va_slen hx hb hX hbl hbA hW.2.2 dL_law_20 ?_
    refine lv_iconst (v := 5) hx hb dL_law_21 (by decide) ?_
    refine lv_isub hx hb dL_law_22 ?_
    refine lv_icmp_gt (tgt := 882) hx hb dL_law_23 (by decide) (fun hc => ?_) (fun hc => ?_)
    · refine lv_iconst (v := 1) hx hb dL_law_882 (by decide) ?_
      refine va_forget (fun q hq => hW.2.2.2.2 q hq) ?_
      refine W.widen (k := 600000) (n := 7302250) (Nat.le_of_ble_eq_true rfl) (Nat.le_of_ble_eq_true rfl) ?_
      exact lw_ret hx hb hr hlocks dL_law_883
    · have hm := lx_more hL hk hc
      have hgo : ∀ (I : gx_M) (J : gx_MM) (H : Heap) (locs : List Loc), Inv I J → lx_W D cs t s I J H locs → W p l e room_1 s m #[Value.ref b] below meth c H locs 289 4673 (lw_Z below #[Value.ref b] s) (F0 m 876 ls []) := by
        intro I J H locs hI hW
        refine lv_iinc (v := nI (5 * (k + 1))) (lv' := [(3, .int (nI (5 * (k + 1)))), (0, .ref b), (1, .ref (gx_ad (lx_X D cs t s.heap.size) 0)), (2, .ref (gx_ad (lx_M D cs t s.heap.size) 0))]) hx hb dL_law_876 hl (k := 3) rfl (by rw [show Int32.ofInt 5 = nI 5 from rfl, nI_add]; congr 1) (by decide) rfl (fun ls hl => ?_)
        refine lv_goto (tgt := 18) hx hb dL_law_879 (by decide) ?_
        exact ih (k + 1) (by omega) (by omega) I J H locs ls hI hW (lv_sub hl [1, 2, 3, 0] rfl)
      refine lv_aload_n hx hb dL_law_26 rfl (lv_at hl 0 rfl) ?_
      refine lv_iload_n hx hb dL_law_27 rfl (lv_at hl 3 rfl) ?_
      refine va_sld hx hb hX hbl hbA hW.2.2 (vp_in_nI (by omega) (by omega)) dL_law_28 ?_
      refine lv_bipush (v := 31) hx hb dL_law_29 (by decide) ?_
      refine lv_iand hx hb dL_law_31 ?_
      refine lv_topi (fun z ez => ?_)
      by_cases hs : z = (0 : Int32)
      · by_cases hz : xs (nI (5 * k) + (2 : Int32)).toNatClampNeg = 0
        · refine lv_tableIn (tgt := 144) hx hb dL_law_32 (by rw [hs]; decide) (by rw [hs]; decide) (by rw [hs]; rfl) (by decide) ?_
          refine lv_aload_n hx hb dL_law_144 rfl (lv_at hl 1 rfl) ?_
          refine lv_aload_n hx hb dL_law_145 rfl (lv_at hl 0 rfl) ?_
          refine lv_iload_n hx hb dL_law_146 rfl (lv_at hl 3 rfl) ?_
          refine lv_iconst (v := (1 : Int32)) hx hb dL_law_147 (by decide) ?_
          refine lv_iadd hx hb dL_law_148 ?_
          refine va_sld hx hb hX hbl hbA hW.2.2 (lx_idx (j := 1) hL hm (by decide) rfl) dL_law_149 ?_
          refine lv_aload_n hx hb dL_law_150 rfl (lv_at hl 0 rfl) ?_
          refine lv_iload_n hx hb dL_law_151 rfl (lv_at hl 3 rfl) ?_
          refine lv_iconst (v := (2 : Int32)) hx hb dL_law_152 (by decide) ?_
          refine lv_iadd hx hb dL_law_153 ?_
          refine va_sld hx hb hX hbl hbA hW.2.2 (lx_idx (j := 2) hL hm (by decide) rfl) dL_law_154 ?_
          refine lv_if_eq (tgt := 162) hx hb dL_law_155 (by decide) (fun _ => ?_) (fun hc => absurd hz hc)
          refine lv_iconst (v := (0 : Int32)) hx hb dL_law_162 (by decide) ?_
          refine lv_aload_n hx hb dL_law_163 rfl (lv_at hl 0 rfl) ?_
          refine lv_iload_n hx hb dL_law_164 rfl (lv_at hl 3 rfl) ?_
          refine lv_iconst (v := (3 : Int32)) hx hb dL_law_165 (by decide) ?_
          refine lv_iadd hx hb dL_law_166 ?_
          refine va_sld hx hb hX hbl hbA hW.2.2 (lx_idx (j := 3) hL hm (by decide) rfl) dL_law_167 ?_
          refine lv_aload_n hx hb dL_law_168 rfl (lv_at hl 0 rfl) ?_
          refine lv_iload_n hx hb dL_law_169 rfl (lv_at hl 3 rfl) ?_
          refine lv_iconst (v := (4 : Int32)) hx hb dL_law_170 (by decide) ?_
          refine lv_iadd hx hb dL_law_171 ?_
          refine va_sld hx hb hX hbl hbA hW.2.2 (lx_idx (j := 4) hL hm (by decide) rfl) dL_law_172 ?_
          refine lx_callX (As := [.int (xs (nI (5 * k) + (1 : Int32)).toNatClampNeg), .int ((0 : Int32)), .int (xs (nI (5 * k) + (3 : Int32)).toNatClampNeg), .int (xs (nI (5 * k) + (4 : Int32)).toNatClampNeg)]) (rest := []) C hW rfl (c_X7_addRosette l (lx_X D cs t s.heap.size) 0 (by decide +kernel) (xs (nI (5 * k) + (1 : Int32)).toNatClampNeg) ((0 : Int32)) (xs (nI (5 * k) + (3 : Int32)).toNatClampNeg) (xs (nI (5 * k) + (4 : Int32)).toNatClampNeg) I _ (hs0 I J (xs (nI (5 * k) + (1 : Int32)).toNatClampNeg) ((0 : Int32)) (xs (nI (5 * k) + (3 : Int32)).toNatClampNeg) (xs (nI (5 * k) + (4 : Int32)).toNatClampNeg) hI (Or.inl rfl))) k_X7_addRosette gw_368 rfl hl.1 rfl (Nat.le_of_ble_eq_true rfl) ⟨⟨rfl, rfl⟩, Nat.le_of_ble_eq_true rfl, Nat.le_of_ble_eq_true rfl⟩ ⟨Nat.le_of_ble_eq_true rfl, Nat.le_of_ble_eq_true rfl⟩ dL_law_173 (fun r I1 H1 locs1 hq hW => ?_)
          refine lv_aload_n hx hb dL_law_176 rfl (lv_at hl 2 rfl) ?_
          refine lv_aload_n hx hb dL_law_177 rfl (lv_at hl 0 rfl) ?_
          refine lv_iload_n hx hb dL_law_178 rfl (lv_at hl 3 rfl) ?_
          refine lv_iconst (v := (1 : Int32)) hx hb dL_law_179 (by decide) ?_
          refine lv_iadd hx hb dL_law_180 ?_
          refine va_sld hx hb hX hbl hbA hW.2.2 (lx_idx (j := 1) hL hm (by decide) rfl) dL_law_181 ?_
          refine lv_aload_n hx hb dL_law_182 rfl (lv_at hl 0 rfl) ?_
          refine lv_iload_n hx hb dL_law_183 rfl (lv_at hl 3 rfl) ?_
          refine lv_iconst (v := (2 : Int32)) hx hb dL_law_184 (by decide) ?_
          refine lv_iadd hx hb dL_law_185 ?_
          refine va_sld hx hb hX hbl hbA hW.2.2 (lx_idx (j := 2) hL hm (by decide) rfl) dL_law_186 ?_
          refine lv_if_eq (tgt := 194) hx hb dL_law_187 (by decide) (fun _ => ?_) (fun hc => absurd hz hc)
          refine lv_iconst (v := (0 : Int32)) hx hb dL_law_194 (by decide) ?_
          refine lv_aload_n hx hb dL_law_195 rfl (lv_at hl 0 rfl) ?_
          refine lv_iload_n hx hb dL_law_196 rfl (lv_at hl 3 rfl) ?_
          refine lv_iconst (v := (3 : Int32)) hx hb dL_law_197 (by decide) ?_
          refine lv_iadd hx hb dL_law_198 ?_
          refine va_sld hx hb hX hbl hbA hW.2.2 (lx_idx (j := 3) hL hm (by decide) rfl) dL_law_199 ?_
          refine lv_aload_n hx hb dL_law_200 rfl (lv_at hl 0 rfl) ?_
          refine lv_iload_n hx hb dL_law_201 rfl (lv_at hl 3 rfl) ?_
          refine lv_iconst (v := (4 : Int32)) hx hb dL_law_202 (by decide) ?_
          refine lv_iadd hx hb dL_law_203 ?_
          refine va_sld hx hb hX hbl hbA hW.2.2 (lx_idx (j := 4) hL hm (by decide) rfl) dL_law_204 ?_
          refine lx_callM (As := [.int (xs (nI (5 * k) + (1 : Int32)).toNatClampNeg), .int ((0 : Int32)), .int (xs (nI (5 * k) + (3 : Int32)).toNatClampNeg), .int (xs (nI (5 * k) + (4 : Int32)).toNatClampNeg)]) (rest := [.int r]) C hW rfl (c_X8_addRosette l (lx_M D cs t s.heap.size) 0 (by decide +kernel) (xs (nI (5 * k) + (1 : Int32)).toNatClampNeg) ((0 : Int32)) (xs (nI (5 * k) + (3 : Int32)).toNatClampNeg) (xs (nI (5 * k) + (4 : Int32)).toNatClampNeg) J _ hq) k_X8_addRosette gw_772 rfl hl.1 rfl (Nat.le_of_ble_eq_true rfl) ⟨⟨rfl, rfl⟩, Nat.le_of_ble_eq_true rfl, Nat.le_of_ble_eq_true rfl⟩ ⟨Nat.le_of_ble_eq_true rfl, Nat.le_of_ble_eq_true rfl⟩ dL_law_205 (fun r2 J1 H1 locs1 hq hW => ?_)
          refine lv_icmp_eq (tgt := 876) hx hb dL_law_208 (by decide) (fun _ => ?_) (fun hc => absurd hq.1 hc)
          exact hgo I1 J1 _ _ hq.2 hW
        · refine lv_tableIn (tgt := 144) hx hb dL_law_32 (by rw [hs]; decide) (by rw [hs]; decide) (by rw [hs]; rfl) (by decide) ?_
          refine lv_aload_n hx hb dL_law_144 rfl (lv_at hl 1 rfl) ?_
          refine lv_aload_n hx hb dL_law_145 rfl (lv_at hl 0 rfl) ?_
          refine lv_iload_n hx hb dL_law_146 rfl (lv_at hl 3 rfl) ?_
          refine lv_iconst (v := (1 : Int32)) hx hb dL_law_147 (by decide) ?_
          refine lv_iadd hx hb dL_law_148 ?_
          refine va_sld hx hb hX hbl hbA hW.2.2 (lx_idx (j := 1) hL hm (by decide) rfl) dL_law_149 ?_
          refine lv_aload_n hx hb dL_law_150 rfl (lv_at hl 0 rfl) ?_
          refine lv_iload_n hx hb dL_law_151 rfl (lv_at hl 3 rfl) ?_
          refine lv_iconst (v := (2 : Int32)) hx hb dL_law_152 (by decide) ?_
          refine lv_iadd hx hb dL_law_153 ?_
          refine va_sld hx hb hX hbl hbA hW.2.2 (lx_idx (j := 2) hL hm (by decide) rfl) dL_law_154 ?_
          refine lv_if_eq (tgt := 162) hx hb dL_law_155 (by decide) (fun hc => absurd hc hz) (fun _ => ?_)
          refine lv_iconst (v := (1 : Int32)) hx hb dL_law_158 (by decide) ?_
          refine lv_goto (tgt := 163) hx hb dL_law_159 (by decide) ?_
          refine lv_aload_n hx hb dL_law_163 rfl (lv_at hl 0 rfl) ?_
          refine lv_iload_n hx hb dL_law_164 rfl (lv_at hl 3 rfl) ?_
          refine lv_iconst (v := (3 : Int32)) hx hb dL_law_165 (by decide) ?_
          refine lv_iadd hx hb dL_law_166 ?_
          refine va_sld hx hb hX hbl hbA hW.2.2 (lx_idx (j := 3) hL hm (by decide) rfl) dL_law_167 ?_
          refine lv_aload_n hx hb dL_law_168 rfl (lv_at hl 0 rfl) ?_
          refine lv_iload_n hx hb dL_law_169 rfl (lv_at hl 3 rfl) ?_
          refine lv_iconst (v := (4 : Int32)) hx hb dL_law_170 (by decide) ?_
          refine lv_iadd hx hb dL_law_171 ?_
          refine va_sld hx hb hX hbl hbA hW.2.2 (lx_idx (j := 4) hL hm (by decide) rfl) dL_law_172 ?_
          refine lx_callX (As := [.int (xs (nI (5 * k) + (1 : Int32)).toNatClampNeg), .int ((1 : Int32)), .int (xs (nI (5 * k) + (3 : Int32)).toNatClampNeg), .int (xs (nI (5 * k) + (4 : Int32)).toNatClampNeg)]) (rest := []) C hW rfl (c_X7_addRosette l (lx_X D cs t s.heap.size) 0 (by decide +kernel) (xs (nI (5 * k) + (1 : Int32)).toNatClampNeg) ((1 : Int32)) (xs (nI (5 * k) + (3 : Int32)).toNatClampNeg) (xs (nI (5 * k) + (4 : Int32)).toNatClampNeg) I _ (hs0 I J (xs (nI (5 * k) + (1 : Int32)).toNatClampNeg) ((1 : Int32)) (xs (nI (5 * k) + (3 : Int32)).toNatClampNeg) (xs (nI (5 * k) + (4 : Int32)).toNatClampNeg) hI (Or.inr rfl))) k_X7_addRosette gw_368 rfl hl.1 rfl (Nat.le_of_ble_eq_true rfl) ⟨⟨rfl, rfl⟩, Nat.le_of_ble_eq_true rfl, Nat.le_of_ble_eq_true rfl⟩ ⟨Nat.le_of_ble_eq_true rfl, Nat.le_of_ble_eq_true rfl⟩ dL_law_173 (fun r I1 H1 locs1 hq hW => ?_)
          refine lv_aload_n hx hb dL_law_176 rfl (lv_at hl 2 rfl) ?_
          refine lv_aload_n hx hb dL_law_177 rfl (lv_at hl 0 rfl) ?_
          refine lv_iload_n hx hb dL_law_178 rfl (lv_at hl 3 rfl) ?_
          refine lv_iconst (v := (1 : Int32)) hx hb dL_law_179 (by decide) ?_
          refine lv_iadd hx hb dL_law_180 ?_
          refine va_sld hx hb hX hbl hbA hW.2.2 (lx_idx (j := 1) hL hm (by decide) rfl) dL_law_181 ?_
          refine lv_aload_n hx hb dL_law_182 rfl (lv_at hl 0 rfl) ?_
          refine lv_iload_n hx hb dL_law_183 rfl (lv_at hl 3 rfl) ?_
          refine lv_iconst (v := (2 : Int32)) hx hb dL_law_184 (by decide) ?_
          refine lv_iadd hx hb dL_law_185 ?_
          refine va_sld hx hb hX hbl hbA hW.2.2 (lx_idx (j := 2) hL hm (by decide) rfl) dL_law_186 ?_
          refine lv_if_eq (tgt := 194) hx hb dL_law_187 (by decide) (fun hc => absurd hc hz) (fun _ => ?_)
          refine lv_iconst (v := (1 : Int32)) hx hb dL_law_190 (by decide) ?_
          refine lv_goto (tgt := 195) hx hb dL_law_191 (by decide) ?_
          refine lv_aload_n hx hb dL_law_195 rfl (lv_at hl 0 rfl) ?_
          refine lv_iload_n hx hb dL_law_196 rfl (lv_at hl 3 rfl) ?_
          refine lv_iconst (v := (3 : Int32)) hx hb dL_law_197 (by decide) ?_
          refine lv_iadd hx hb dL_law_198 ?_
          refine va_sld hx hb hX hbl hbA hW.2.2 (lx_idx (j := 3) hL hm (by decide) rfl) dL_law_199 ?_
          refine lv_aload_n hx hb dL_law_200 rfl (lv_at hl 0 rfl) ?_
          refine lv_iload_n hx hb dL_law_201 rfl (lv_at hl 3 rfl) ?_
          refine lv_iconst (v := (4 : Int32)) hx hb dL_law_202 (by decide) ?_
          refine lv_iadd hx hb dL_law_203 ?_
          refine va_sld hx hb hX hbl hbA hW.2.2 (lx_idx (j := 4) hL hm (by decide) rfl) dL_law_204 ?_
          refine lx_callM (As := [.int (xs (nI (5 * k) + (1 : Int32)).toNatClampNeg), .int ((1 : Int32)), .int (xs (nI (5 * k) + (3 : Int32)).toNatClampNeg), .int (xs (nI (5 * k) + (4 : Int32)).toNatClampNeg)]) (rest := [.int r]) C hW rfl (c_X8_addRosette l (lx_M D cs t s.heap.size) 0 (by decide +kernel) (xs (nI (5 * k) + (1 : Int32)).toNatClampNeg) ((1 : Int32)) (xs (nI (5 * k) + (3 : Int32)).toNatClampNeg) (xs (nI (5 * k) + (4 : Int32)).toNatClampNeg) J _ hq) k_X8_addRosette gw_772 rfl hl.1 rfl (Nat.le_of_ble_eq_true rfl) ⟨⟨rfl, rfl⟩, Nat.le_of_ble_eq_true rfl, Nat.le_of_ble_eq_true rfl⟩ ⟨Nat.le_of_ble_eq_true rfl, Nat.le_of_ble_eq_true rfl⟩ dL_law_205 (fun r2 J1 H1 locs1 hq hW => ?_)
          refine lv_icmp_eq (tgt := 876) hx hb dL_law_208 (by decide) (fun _ => ?_) (fun hc => absurd hq.1 hc)
          exact hgo I1 J1 _ _ hq.2 hW
      have q0 := lv_neT (a := 0) hs (by decide)
      clear hs
      by_cases hs : z = (1 : Int32)
      · refine lv_tableIn (tgt := 213) hx hb dL_law_32 (by rw [hs]; decide) (by rw [hs]; decide) (by rw [hs]; rfl) (by decide) ?_
        refine lv_aload_n hx hb dL_law_213 rfl (lv_at hl 1 rfl) ?_
        refine lv_aload_n hx hb dL_law_214 rfl (lv_at hl 0 rfl) ?_
        refine lv_iload_n hx hb dL_law_215 rfl (lv_at hl 3 rfl) ?_
        refine lv_iconst (v := (1 : Int32)) hx hb dL_law_216 (by decide) ?_
        refine lv_iadd hx hb dL_law_217 ?_
        refine va_sld hx hb hX hbl hbA hW.2.2 (lx_idx (j := 1) hL hm (by decide) rfl) dL_law_218 ?_
        refine lv_aload_n hx hb dL_law_219 rfl (lv_at hl 0 rfl) ?_
        refine lv_iload_n hx hb dL_law_220 rfl (lv_at hl 3 rfl) ?_
        refine lv_iconst (v := (2 : Int32)) hx hb dL_law_221 (by decide) ?_
        refine lv_iadd hx hb dL_law_222 ?_
        refine va_sld hx hb hX hbl hbA hW.2.2 (lx_idx (j := 2) hL hm (by decide) rfl) dL_law_223 ?_
        refine lv_aload_n hx hb dL_law_224 rfl (lv_at hl 0 rfl) ?_
        refine lv_iload_n hx hb dL_law_225 rfl (lv_at hl 3 rfl) ?_
        refine lv_iconst (v := (3 : Int32)) hx hb dL_law_226 (by decide) ?_
        refine lv_iadd hx hb dL_law_227 ?_
        refine va_sld hx hb hX hbl hbA hW.2.2 (lx_idx (j := 3) hL hm (by decide) rfl) dL_law_228 ?_
        refine lv_aload_n hx hb dL_law_229 rfl (lv_at hl 0 rfl) ?_
        refine lv_iload_n hx hb dL_law_230 rfl (lv_at hl 3 rfl) ?_
        refine lv_iconst (v := (4 : Int32)) hx hb dL_law_231 (by decide) ?_
        refine lv_iadd hx hb dL_law_232 ?_
        refine va_sld hx hb hX hbl hbA hW.2.2 (lx_idx (j := 4) hL hm (by decide) rfl) dL_law_233 ?_
        refine lx_callX (As := [.int (xs (nI (5 * k) + (1 : Int32)).toNatClampNeg), .int (xs (nI (5 * k) + (2 : Int32)).toNatClampNeg), .int (xs (nI (5 * k) + (3 : Int32)).toNatClampNeg), .int (xs (nI (5 * k) + (4 : Int32)).toNatClampNeg)]) (rest := []) C hW rfl (c_X7_setStrain l (lx_X D cs t s.heap.size) 0 (by decide +kernel) (xs (nI (5 * k) + (1 : Int32)).toNatClampNeg) (xs (nI (5 * k) + (2 : Int32)).toNatClampNeg) (xs (nI (5 * k) + (3 : Int32)).toNatClampNeg) (xs (nI (5 * k) + (4 : Int32)).toNatClampNeg) I _ (hs1 I J (xs (nI (5 * k) + (1 : Int32)).toNatClampNeg) (xs (nI (5 * k) + (2 : Int32)).toNatClampNeg) (xs (nI (5 * k) + (3 : Int32)).toNatClampNeg) (xs (nI (5 * k) + (4 : Int32)).toNatClampNeg) hI)) k_X7_setStrain gw_420 rfl hl.1 rfl (Nat.le_of_ble_eq_true rfl) ⟨⟨rfl, rfl⟩, Nat.le_of_ble_eq_true rfl, Nat.le_of_ble_eq_true rfl⟩ ⟨Nat.le_of_ble_eq_true rfl, Nat.le_of_ble_eq_true rfl⟩ dL_law_234 (fun r I1 H1 locs1 hq hW => ?_)
        refine lv_aload_n hx hb dL_law_237 rfl (lv_at hl 2 rfl) ?_
        refine lv_aload_n hx hb dL_law_238 rfl (lv_at hl 0 rfl) ?_
        refine lv_iload_n hx hb dL_law_239 rfl (lv_at hl 3 rfl) ?_
        refine lv_iconst (v := (1 : Int32)) hx hb dL_law_240 (by decide) ?_
        refine lv_iadd hx hb dL_law_241 ?_
        refine va_sld hx hb hX hbl hbA hW.2.2 (lx_idx (j := 1) hL hm (by decide) rfl) dL_law_242 ?_
        refine lv_aload_n hx hb dL_law_243 rfl (lv_at hl 0 rfl) ?_
        refine lv_iload_n hx hb dL_law_244 rfl (lv_at hl 3 rfl) ?_
        refine lv_iconst (v := (2 : Int32)) hx hb dL_law_245 (by decide) ?_
        refine lv_iadd hx hb dL_law_246 ?_
        refine va_sld hx hb hX hbl hbA hW.2.2 (lx_idx (j := 2) hL hm (by decide) rfl) dL_law_247 ?_
        refine lv_aload_n hx hb dL_law_248 rfl (lv_at hl 0 rfl) ?_
        refine lv_iload_n hx hb dL_law_249 rfl (lv_at hl 3 rfl) ?_
        refine lv_iconst (v := (3 : Int32)) hx hb dL_law_250 (by decide) ?_
        refine lv_iadd hx hb dL_law_251 ?_
        refine va_sld hx hb hX hbl hbA hW.2.2 (lx_idx (j := 3) hL hm (by decide) rfl) dL_law_252 ?_
        refine lv_aload_n hx hb dL_law_253 rfl (lv_at hl 0 rfl) ?_
        refine lv_iload_n hx hb dL_law_254 rfl (lv_at hl 3 rfl) ?_
        refine lv_iconst (v := (4 : Int32)) hx hb dL_law_255 (by decide) ?_
        refine lv_iadd hx hb dL_law_256 ?_
        refine va_sld hx hb hX hbl hbA hW.2.2 (lx_idx (j := 4) hL hm (by decide) rfl) dL_law_257 ?_
        refine lx_callM (As := [.int (xs (nI (5 * k) + (1 : Int32)).toNatClampNeg), .int (xs (nI (5 * k) + (2 : Int32)).toNatClampNeg), .int (xs (nI (5 * k) + (3 : Int32)).toNatClampNeg), .int (xs (nI (5 * k) + (4 : Int32)).toNatClampNeg)]) (rest := [.int r]) C hW rfl (c_X8_setStrain l (lx_M D cs t s.heap.size) 0 (by decide +kernel) (xs (nI (5 * k) + (1 : Int32)).toNatClampNeg) (xs (nI (5 * k) + (2 : Int32)).toNatClampNeg) (xs (nI (5 * k) + (3 : Int32)).toNatClampNeg) (xs (nI (5 * k) + (4 : Int32)).toNatClampNeg) J _ hq) k_X8_setStrain gw_806 rfl hl.1 rfl (Nat.le_of_ble_eq_true rfl) ⟨⟨rfl, rfl⟩, Nat.le_of_ble_eq_true rfl, Nat.le_of_ble_eq_true rfl⟩ ⟨Nat.le_of_ble_eq_true rfl, Nat.le_of_ble_eq_true rfl⟩ dL_law_258 (fun r2 J1 H1 locs1 hq hW => ?_)
        refine lv_icmp_eq (tgt := 876) hx hb dL_law_261 (by decide) (fun _ => ?_) (fun hc => absurd hq.1 hc)
        exact hgo I1 J1 _ _ hq.2 hW
      have q1 := lv_neT (a := 1) hs (by decide)
      clear hs
      by_cases hs : z = (2 : Int32)
      · refine lv_tableIn (tgt := 266) hx hb dL_law_32 (by rw [hs]; decide) (by rw [hs]; decide) (by rw [hs]; rfl) (by decide) ?_
        refine lv_aload_n hx hb dL_law_266 rfl (lv_at hl 1 rfl) ?_
        refine lv_aload_n hx hb dL_law_267 rfl (lv_at hl 0 rfl) ?_
        refine lv_iload_n hx hb dL_law_268 rfl (lv_at hl 3 rfl) ?_
        refine lv_iconst (v := (1 : Int32)) hx hb dL_law_269 (by decide) ?_
        refine lv_iadd hx hb dL_law_270 ?_
        refine va_sld hx hb hX hbl hbA hW.2.2 (lx_idx (j := 1) hL hm (by decide) rfl) dL_law_271 ?_
        refine lv_aload_n hx hb dL_law_272 rfl (lv_at hl 0 rfl) ?_
        refine lv_iload_n hx hb dL_law_273 rfl (lv_at hl 3 rfl) ?_
        refine lv_iconst (v := (2 : Int32)) hx hb dL_law_274 (by decide) ?_
        refine lv_iadd hx hb dL_law_275 ?_
        refine va_sld hx hb hX hbl hbA hW.2.2 (lx_idx (j := 2) hL hm (by decide) rfl) dL_law_276 ?_
        refine lx_callX (As := [.int (xs (nI (5 * k) + (1 : Int32)).toNatClampNeg), .int (xs (nI (5 * k) + (2 : Int32)).toNatClampNeg)]) (rest := []) C hW rfl (c_X7_setLeads l (lx_X D cs t s.heap.size) 0 (by decide +kernel) (xs (nI (5 * k) + (1 : Int32)).toNatClampNeg) (xs (nI (5 * k) + (2 : Int32)).toNatClampNeg) I _ (hs2 I J (xs (nI (5 * k) + (1 : Int32)).toNatClampNeg) (xs (nI (5 * k) + (2 : Int32)).toNatClampNeg) hI)) k_X7_setLeads gw_495 rfl hl.1 rfl (Nat.le_of_ble_eq_true rfl) ⟨⟨rfl, rfl⟩, Nat.le_of_ble_eq_true rfl, Nat.le_of_ble_eq_true rfl⟩ ⟨Nat.le_of_ble_eq_true rfl, Nat.le_of_ble_eq_true rfl⟩ dL_law_277 (fun r I1 H1 locs1 hq hW => ?_)
        refine lv_aload_n hx hb dL_law_280 rfl (lv_at hl 2 rfl) ?_
        refine lv_aload_n hx hb dL_law_281 rfl (lv_at hl 0 rfl) ?_
        refine lv_iload_n hx hb dL_law_282 rfl (lv_at hl 3 rfl) ?_
        refine lv_iconst (v := (1 : Int32)) hx hb dL_law_283 (by decide) ?_
        refine lv_iadd hx hb dL_law_284 ?_
        refine va_sld hx hb hX hbl hbA hW.2.2 (lx_idx (j := 1) hL hm (by decide) rfl) dL_law_285 ?_
        refine lv_aload_n hx hb dL_law_286 rfl (lv_at hl 0 rfl) ?_
        refine lv_iload_n hx hb dL_law_287 rfl (lv_at hl 3 rfl) ?_
        refine lv_iconst (v := (2 : Int32)) hx hb dL_law_288 (by decide) ?_
        refine lv_iadd hx hb dL_law_289 ?_
        refine va_sld hx hb hX hbl hbA hW.2.2 (lx_idx (j := 2) hL hm (by decide) rfl) dL_law_290 ?_
        refine lx_callM (As := [.int (xs (nI (5 * k) + (1 : Int32)).toNatClampNeg), .int (xs (nI (5 * k) + (2 : Int32)).toNatClampNeg)]) (rest := [.int r]) C hW rfl (c_X8_setLeads l (lx_M D cs t s.heap.size) 0 (by decide +kernel) (xs (nI (5 * k) + (1 : Int32)).toNatClampNeg) (xs (nI (5 * k) + (2 : Int32)).toNatClampNeg) J _ hq) k_X8_setLeads gw_845 rfl hl.1 rfl (Nat.le_of_ble_eq_true rfl) ⟨⟨rfl, rfl⟩, Nat.le_of_ble_eq_true rfl, Nat.le_of_ble_eq_true rfl⟩ ⟨Nat.le_of_ble_eq_true rfl, Nat.le_of_ble_eq_true rfl⟩ dL_law_291 (fun r2 J1 H1 locs1 hq hW => ?_)
        refine lv_icmp_eq (tgt := 876) hx hb dL_law_294 (by decide) (fun _ => ?_) (fun hc => absurd hq.1 hc)
        exact hgo I1 J1 _ _ hq.2 hW
      have q2 := lv_neT (a := 2) hs (by decide)
      clear hs
      by_cases hs : z = (3 : Int32)
      · refine lv_tableIn (tgt := 299) hx hb dL_law_32 (by rw [hs]; decide) (by rw [hs]; decide) (by rw [hs]; rfl) (by decide) ?_
        refine lv_aload_n hx hb dL_law_299 rfl (lv_at hl 1 rfl) ?_
        refine lv_aload_n hx hb dL_law_300 rfl (lv_at hl 0 rfl) ?_
        refine lv_iload_n hx hb dL_law_301 rfl (lv_at hl 3 rfl) ?_
        refine lv_iconst (v := (1 : Int32)) hx hb dL_law_302 (by decide) ?_
        refine lv_iadd hx hb dL_law_303 ?_
        refine va_sld hx hb hX hbl hbA hW.2.2 (lx_idx (j := 1) hL hm (by decide) rfl) dL_law_304 ?_
        refine lv_aload_n hx hb dL_law_305 rfl (lv_at hl 0 rfl) ?_
        refine lv_iload_n hx hb dL_law_306 rfl (lv_at hl 3 rfl) ?_
        refine lv_iconst (v := (2 : Int32)) hx hb dL_law_307 (by decide) ?_
        refine lv_iadd hx hb dL_law_308 ?_
        refine va_sld hx hb hX hbl hbA hW.2.2 (lx_idx (j := 2) hL hm (by decide) rfl) dL_law_309 ?_
        refine lv_aload_n hx hb dL_law_310 rfl (lv_at hl 0 rfl) ?_
        refine lv_iload_n hx hb dL_law_311 rfl (lv_at hl 3 rfl) ?_
        refine lv_iconst (v := (3 : Int32)) hx hb dL_law_312 (by decide) ?_
        refine lv_iadd hx hb dL_law_313 ?_
        refine va_sld hx hb hX hbl hbA hW.2.2 (lx_idx (j := 3) hL hm (by decide) rfl) dL_law_314 ?_
        refine lx_callX (As := [.int (xs (nI (5 * k) + (1 : Int32)).toNatClampNeg), .int (xs (nI (5 * k) + (2 : Int32)).toNatClampNeg), .int (xs (nI (5 * k) + (3 : Int32)).toNatClampNeg)]) (rest := []) C hW rfl (c_X7_setOffset l (lx_X D cs t s.heap.size) 0 (by decide +kernel) (xs (nI (5 * k) + (1 : Int32)).toNatClampNeg) (xs (nI (5 * k) + (2 : Int32)).toNatClampNeg) (xs (nI (5 * k) + (3 : Int32)).toNatClampNeg) I _ (hs3 I J (xs (nI (5 * k) + (1 : Int32)).toNatClampNeg) (xs (nI (5 * k) + (2 : Int32)).toNatClampNeg) (xs (nI (5 * k) + (3 : Int32)).toNatClampNeg) hI)) k_X7_setOffset gw_499 rfl hl.1 rfl (Nat.le_of_ble_eq_true rfl) ⟨⟨rfl, rfl⟩, Nat.le_of_ble_eq_true rfl, Nat.le_of_ble_eq_true rfl⟩ ⟨Nat.le_of_ble_eq_true rfl, Nat.le_of_ble_eq_true rfl⟩ dL_law_315 (fun r I1 H1 locs1 hq hW => ?_)
        refine lv_aload_n hx hb dL_law_318 rfl (lv_at hl 2 rfl) ?_
        refine lv_aload_n hx hb dL_law_319 rfl (lv_at hl 0 rfl) ?_
        refine lv_iload_n hx hb dL_law_320 rfl (lv_at hl 3 rfl) ?_
        refine lv_iconst (v := (1 : Int32)) hx hb dL_law_321 (by decide) ?_
        refine lv_iadd hx hb dL_law_322 ?_
        refine va_sld hx hb hX hbl hbA hW.2.2 (lx_idx (j := 1) hL hm (by decide) rfl) dL_law_323 ?_
        refine lv_aload_n hx hb dL_law_324 rfl (lv_at hl 0 rfl) ?_
        refine lv_iload_n hx hb dL_law_325 rfl (lv_at hl 3 rfl) ?_
        refine lv_iconst (v := (2 : Int32)) hx hb dL_law_326 (by decide) ?_
        refine lv_iadd hx hb dL_law_327 ?_
        refine va_sld hx hb hX hbl hbA hW.2.2 (lx_idx (j := 2) hL hm (by decide) rfl) dL_law_328 ?_
        refine lv_aload_n hx hb dL_law_329 rfl (lv_at hl 0 rfl) ?_
        refine lv_iload_n hx hb dL_law_330 rfl (lv_at hl 3 rfl) ?_
        refine lv_iconst (v := (3 : Int32)) hx hb dL_law_331 (by decide) ?_
        refine lv_iadd hx hb dL_law_332 ?_
        refine va_sld hx hb hX hbl hbA hW.2.2 (lx_idx (j := 3) hL hm (by decide) rfl) dL_law_333 ?_
        refine lx_callM (As := [.int (xs (nI (5 * k) + (1 : Int32)).toNatClampNeg), .int (xs (nI (5 * k) + (2 : Int32)).toNatClampNeg), .int (xs (nI (5 * k) + (3 : Int32)).toNatClampNeg)]) (rest := [.int r]) C hW rfl (c_X8_setOffset l (lx_M D cs t s.heap.size) 0 (by decide +kernel) (xs (nI (5 * k) + (1 : Int32)).toNatClampNeg) (xs (nI (5 * k) + (2 : Int32)).toNatClampNeg) (xs (nI (5 * k) + (3 : Int32)).toNatClampNeg) J _ hq) k_X8_setOffset gw_849 rfl hl.1 rfl (Nat.le_of_ble_eq_true rfl) ⟨⟨rfl, rfl⟩, Nat.le_of_ble_eq_true rfl, Nat.le_of_ble_eq_true rfl⟩ ⟨Nat.le_of_ble_eq_true rfl, Nat.le_of_ble_eq_true rfl⟩ dL_law_334 (fun r2 J1 H1 locs1 hq hW => ?_)
        refine lv_icmp_eq (tgt := 876) hx hb dL_law_337 (by decide) (fun _ => ?_) (fun hc => absurd hq.1 hc)
        exact hgo I1 J1 _ _ hq.2 hW
      have q3 := lv_neT (a := 3) hs (by decide)
      clear hs
      by_cases hs : z = (4 : Int32)
      · by_cases hz : xs (nI (5 * k) + (2 : Int32)).toNatClampNeg = 0
        · refine lv_tableIn (tgt := 342) hx hb dL_law_32 (by rw [hs]; decide) (by rw [hs]; decide) (by rw [hs]; rfl) (by decide) ?_
          refine lv_aload_n hx hb dL_law_342 rfl (lv_at hl 1 rfl) ?_
          refine lv_aload_n hx hb dL_law_343 rfl (lv_at hl 0 rfl) ?_
          refine lv_iload_n hx hb dL_law_344 rfl (lv_at hl 3 rfl) ?_
          refine lv_iconst (v := (1 : Int32)) hx hb dL_law_345 (by decide) ?_
          refine lv_iadd hx hb dL_law_346 ?_
          refine va_sld hx hb hX hbl hbA hW.2.2 (lx_idx (j := 1) hL hm (by decide) rfl) dL_law_347 ?_
          refine lv_aload_n hx hb dL_law_348 rfl (lv_at hl 0 rfl) ?_
          refine lv_iload_n hx hb dL_law_349 rfl (lv_at hl 3 rfl) ?_
          refine lv_iconst (v := (2 : Int32)) hx hb dL_law_350 (by decide) ?_
          refine lv_iadd hx hb dL_law_351 ?_
          refine va_sld hx hb hX hbl hbA hW.2.2 (lx_idx (j := 2) hL hm (by decide) rfl) dL_law_352 ?_
          refine lv_if_eq (tgt := 360) hx hb dL_law_353 (by decide) (fun _ => ?_) (fun hc => absurd hz hc)
          refine lv_iconst (v := (0 : Int32)) hx hb dL_law_360 (by decide) ?_
          refine lx_callX (As := [.int (xs (nI (5 * k) + (1 : Int32)).toNatClampNeg), .int ((0 : Int32))]) (rest := []) C hW rfl (c_X7_setShunt l (lx_X D cs t s.heap.size) 0 (by decide +kernel) (xs (nI (5 * k) + (1 : Int32)).toNatClampNeg) ((0 : Int32)) I _ (hs4 I J (xs (nI (5 * k) + (1 : Int32)).toNatClampNeg) ((0 : Int32)) hI (Or.inl rfl))) k_X7_setShunt gw_503 rfl hl.1 rfl (Nat.le_of_ble_eq_true rfl) ⟨⟨rfl, rfl⟩, Nat.le_of_ble_eq_true rfl, Nat.le_of_ble_eq_true rfl⟩ ⟨Nat.le_of_ble_eq_true rfl, Nat.le_of_ble_eq_true rfl⟩ dL_law_361 (fun r I1 H1 locs1 hq hW => ?_)
          refine lv_aload_n hx hb dL_law_364 rfl (lv_at hl 2 rfl) ?_
          refine lv_aload_n hx hb dL_law_365 rfl (lv_at hl 0 rfl) ?_
          refine lv_iload_n hx hb dL_law_366 rfl (lv_at hl 3 rfl) ?_
          refine lv_iconst (v := (1 : Int32)) hx hb dL_law_367 (by decide) ?_
          refine lv_iadd hx hb dL_law_368 ?_
          refine va_sld hx hb hX hbl hbA hW.2.2 (lx_idx (j := 1) hL hm (by decide) rfl) dL_law_369 ?_
          refine lv_aload_n hx hb dL_law_370 rfl (lv_at hl 0 rfl) ?_
          refine lv_iload_n hx hb dL_law_371 rfl (lv_at hl 3 rfl) ?_
          refine lv_iconst (v := (2 : Int32)) hx hb dL_law_372 (by decide) ?_
          refine lv_iadd hx hb dL_law_373 ?_
          refine va_sld hx hb hX hbl hbA hW.2.2 (lx_idx (j := 2) hL hm (by decide) rfl) dL_law_374 ?_
          refine lv_if_eq (tgt := 382) hx hb dL_law_375 (by decide) (fun _ => ?_) (fun hc => absurd hz hc)
          refine lv_iconst (v := (0 : Int32)) hx hb dL_law_382 (by decide) ?_
          refine lx_callM (As := [.int (xs (nI (5 * k) + (1 : Int32)).toNatClampNeg), .int ((0 : Int32))]) (rest := [.int r]) C hW rfl (c_X8_setShunt l (lx_M D cs t s.heap.size) 0 (by decide +kernel) (xs (nI (5 * k) + (1 : Int32)).toNatClampNeg) ((0 : Int32)) J _ hq) k_X8_setShunt gw_853 rfl hl.1 rfl (Nat.le_of_ble_eq_true rfl) ⟨⟨rfl, rfl⟩, Nat.le_of_ble_eq_true rfl, Nat.le_of_ble_eq_true rfl⟩ ⟨Nat.le_of_ble_eq_true rfl, Nat.le_of_ble_eq_true rfl⟩ dL_law_383 (fun r2 J1 H1 locs1 hq hW => ?_)
          refine lv_icmp_eq (tgt := 876) hx hb dL_law_386 (by decide) (fun _ => ?_) (fun hc => absurd hq.1 hc)
          exact hgo I1 J1 _ _ hq.2 hW
        · refine lv_tableIn (tgt := 342) hx hb dL_law_32 (by rw [hs]; decide) (by rw [hs]; decide) (by rw [hs]; rfl) (by decide) ?_
          refine lv_aload_n hx hb dL_law_342 rfl (lv_at hl 1 rfl) ?_
          refine lv_aload_n hx hb dL_law_343 rfl (lv_at hl 0 rfl) ?_
          refine lv_iload_n hx hb dL_law_344 rfl (lv_at hl 3 rfl) ?_
          refine lv_iconst (v := (1 : Int32)) hx hb dL_law_345 (by decide) ?_
          refine lv_iadd hx hb dL_law_346 ?_
          refine va_sld hx hb hX hbl hbA hW.2.2 (lx_idx (j := 1) hL hm (by decide) rfl) dL_law_347 ?_
          refine lv_aload_n hx hb dL_law_348 rfl (lv_at hl 0 rfl) ?_
          refine lv_iload_n hx hb dL_law_349 rfl (lv_at hl 3 rfl) ?_
          refine lv_iconst (v := (2 : Int32)) hx hb dL_law_350 (by decide) ?_
          refine lv_iadd hx hb dL_law_351 ?_
          refine va_sld hx hb hX hbl hbA hW.2.2 (lx_idx (j := 2) hL hm (by decide) rfl) dL_law_352 ?_
          refine lv_if_eq (tgt := 360) hx hb dL_law_353 (by decide) (fun hc => absurd hc hz) (fun _ => ?_)
          refine lv_iconst (v := (1 : Int32)) hx hb dL_law_356 (by decide) ?_
          refine lv_goto (tgt := 361) hx hb dL_law_357 (by decide) ?_
          refine lx_callX (As := [.int (xs (nI (5 * k) + (1 : Int32)).toNatClampNeg), .int ((1 : Int32))]) (rest := []) C hW rfl (c_X7_setShunt l (lx_X D cs t s.heap.size) 0 (by decide +kernel) (xs (nI (5 * k) + (1 : Int32)).toNatClampNeg) ((1 : Int32)) I _ (hs4 I J (xs (nI (5 * k) + (1 : Int32)).toNatClampNeg) ((1 : Int32)) hI (Or.inr rfl))) k_X7_setShunt gw_503 rfl hl.1 rfl (Nat.le_of_ble_eq_true rfl) ⟨⟨rfl, rfl⟩, Nat.le_of_ble_eq_true rfl, Nat.le_of_ble_eq_true rfl⟩ ⟨Nat.le_of_ble_eq_true rfl, Nat.le_of_ble_eq_true rfl⟩ dL_law_361 (fun r I1 H1 locs1 hq hW => ?_)
          refine lv_aload_n hx hb dL_law_364 rfl (lv_at hl 2 rfl) ?_
          refine lv_aload_n hx hb dL_law_365 rfl (lv_at hl 0 rfl) ?_
          refine lv_iload_n hx hb dL_law_366 rfl (lv_at hl 3 rfl) ?_
          refine lv_iconst (v := (1 : Int32)) hx hb dL_law_367 (by decide) ?_
          refine lv_iadd hx hb dL_law_368 ?_
          refine va_sld hx hb hX hbl hbA hW.2.2 (lx_idx (j := 1) hL hm (by decide) rfl) dL_law_369 ?_
          refine lv_aload_n hx hb dL_law_370 rfl (lv_at hl 0 rfl) ?_
          refine lv_iload_n hx hb dL_law_371 rfl (lv_at hl 3 rfl) ?_
          refine lv_iconst (v := (2 : Int32)) hx hb dL_law_372 (by decide) ?_
          refine lv_iadd hx hb dL_law_373 ?_
          refine va_sld hx hb hX hbl hbA hW.2.2 (lx_idx (j := 2) hL hm (by decide) rfl) dL_law_374 ?_
          refine lv_if_eq (tgt := 382) hx hb dL_law_375 (by decide) (fun hc => absurd hc hz) (fun _ => ?_)
          refine lv_iconst (v := (1 : Int32)) hx hb dL_law_378 (by decide) ?_
          refine lv_goto (tgt := 383) hx hb dL_law_379 (by decide) ?_
          refine lx_callM (As := [.int (xs (nI (5 * k) + (1 : Int32)).toNatClampNeg), .int ((1 : Int32))]) (rest := [.int r]) C hW rfl (c_X8_setShunt l (lx_M D cs t s.heap.size) 0 (by decide +kernel) (xs (nI (5 * k) + (1 : Int32)).toNatClampNeg) ((1 : Int32)) J _ hq) k_X8_setShunt gw_853 rfl hl.1 rfl (Nat.le_of_ble_eq_true rfl) ⟨⟨rfl, rfl⟩, Nat.le_of_ble_eq_true rfl, Nat.le_of_ble_eq_true rfl⟩ ⟨Nat.le_of_ble_eq_true rfl, Nat.le_of_ble_eq_true rfl⟩ dL_law_383 (fun r2 J1 H1 locs1 hq hW => ?_)
          refine lv_icmp_eq (tgt := 876) hx hb dL_law_386 (by decide) (fun _ => ?_) (fun hc => absurd hq.1 hc)
          exact hgo I1 J1 _ _ hq.2 hW
      have q4 := lv_neT (a := 4) hs (by decide)
      clear hs
      by_cases hs : z = (5 : Int32)
      · refine lv_tableIn (tgt := 391) hx hb dL_law_32 (by rw [hs]; decide) (by rw [hs]; decide) (by rw [hs]; rfl) (by decide) ?_
        refine lv_aload_n hx hb dL_law_391 rfl (lv_at hl 1 rfl) ?_
        refine lv_aload_n hx hb dL_law_392 rfl (lv_at hl 0 rfl) ?_
        refine lv_iload_n hx hb dL_law_393 rfl (lv_at hl 3 rfl) ?_
        refine lv_iconst (v := (1 : Int32)) hx hb dL_law_394 (by decide) ?_
        refine lv_iadd hx hb dL_law_395 ?_
        refine va_sld hx hb hX hbl hbA hW.2.2 (lx_idx (j := 1) hL hm (by decide) rfl) dL_law_396 ?_
        refine lx_callX (As := [.int (xs (nI (5 * k) + (1 : Int32)).toNatClampNeg)]) (rest := []) C hW rfl (c_X7_setSize l (lx_X D cs t s.heap.size) 0 (by decide +kernel) (xs (nI (5 * k) + (1 : Int32)).toNatClampNeg) I _ (hs5 I J (xs (nI (5 * k) + (1 : Int32)).toNatClampNeg) hI)) k_X7_setSize gw_507 rfl hl.1 rfl (Nat.le_of_ble_eq_true rfl) ⟨⟨rfl, rfl⟩, Nat.le_of_ble_eq_true rfl, Nat.le_of_ble_eq_true rfl⟩ ⟨Nat.le_of_ble_eq_true rfl, Nat.le_of_ble_eq_true rfl⟩ dL_law_397 (fun r I1 H1 locs1 hq hW => ?_)
        refine lv_aload_n hx hb dL_law_400 rfl (lv_at hl 2 rfl) ?_
        refine lv_aload_n hx hb dL_law_401 rfl (lv_at hl 0 rfl) ?_
        refine lv_iload_n hx hb dL_law_402 rfl (lv_at hl 3 rfl) ?_
        refine lv_iconst (v := (1 : Int32)) hx hb dL_law_403 (by decide) ?_
        refine lv_iadd hx hb dL_law_404 ?_
        refine va_sld hx hb hX hbl hbA hW.2.2 (lx_idx (j := 1) hL hm (by decide) rfl) dL_law_405 ?_
        refine lx_callM (As := [.int (xs (nI (5 * k) + (1 : Int32)).toNatClampNeg)]) (rest := [.int r]) C hW rfl (c_X8_setSize l (lx_M D cs t s.heap.size) 0 (by decide +kernel) (xs (nI (5 * k) + (1 : Int32)).toNatClampNeg) J _ hq) k_X8_setSize gw_857 rfl hl.1 rfl (Nat.le_of_ble_eq_true rfl) ⟨⟨rfl, rfl⟩, Nat.le_of_ble_eq_true rfl, Nat.le_of_ble_eq_true rfl⟩ ⟨Nat.le_of_ble_eq_true rfl, Nat.le_of_ble_eq_true rfl⟩ dL_law_406 (fun r2 J1 H1 locs1 hq hW => ?_)
        refine lv_icmp_eq (tgt := 876) hx hb dL_law_409 (by decide) (fun _ => ?_) (fun hc => absurd hq.1 hc)
        exact hgo I1 J1 _ _ hq.2 hW
      have q5 := lv_neT (a := 5) hs (by decide)
      clear hs
      by_cases hs : z = (6 : Int32)
      · refine lv_tableIn (tgt := 414) hx hb dL_law_32 (by rw [hs]; decide) (by rw [hs]; decide) (by rw [hs]; rfl) (by decide) ?_
        refine lv_aload_n hx hb dL_law_414 rfl (lv_at hl 1 rfl) ?_
        refine lv_aload_n hx hb dL_law_415 rfl (lv_at hl 0 rfl) ?_
        refine lv_iload_n hx hb dL_law_416 rfl (lv_at hl 3 rfl) ?_
        refine lv_iconst (v := (1 : Int32)) hx hb dL_law_417 (by decide) ?_
        refine lv_iadd hx hb dL_law_418 ?_
        refine va_sld hx hb hX hbl hbA hW.2.2 (lx_idx (j := 1) hL hm (by decide) rfl) dL_law_419 ?_
        refine lv_aload_n hx hb dL_law_420 rfl (lv_at hl 0 rfl) ?_
        refine lv_iload_n hx hb dL_law_421 rfl (lv_at hl 3 rfl) ?_
        refine lv_iconst (v := (2 : Int32)) hx hb dL_law_422 (by decide) ?_
        refine lv_iadd hx hb dL_law_423 ?_
        refine va_sld hx hb hX hbl hbA hW.2.2 (lx_idx (j := 2) hL hm (by decide) rfl) dL_law_424 ?_
        refine lv_aload_n hx hb dL_law_425 rfl (lv_at hl 0 rfl) ?_
        refine lv_iload_n hx hb dL_law_426 rfl (lv_at hl 3 rfl) ?_
        refine lv_iconst (v := (3 : Int32)) hx hb dL_law_427 (by decide) ?_
        refine lv_iadd hx hb dL_law_428 ?_
        refine va_sld hx hb hX hbl hbA hW.2.2 (lx_idx (j := 3) hL hm (by decide) rfl) dL_law_429 ?_
        refine lx_callX (As := [.int (xs (nI (5 * k) + (1 : Int32)).toNatClampNeg), .int (xs (nI (5 * k) + (2 : Int32)).toNatClampNeg), .int (xs (nI (5 * k) + (3 : Int32)).toNatClampNeg)]) (rest := []) C hW rfl (c_X7_request l (lx_X D cs t s.heap.size) 0 (by decide +kernel) (xs (nI (5 * k) + (1 : Int32)).toNatClampNeg) (xs (nI (5 * k) + (2 : Int32)).toNatClampNeg) (xs (nI (5 * k) + (3 : Int32)).toNatClampNeg) I _ (hs6 I J (xs (nI (5 * k) + (1 : Int32)).toNatClampNeg) (xs (nI (5 * k) + (2 : Int32)).toNatClampNeg) (xs (nI (5 * k) + (3 : Int32)).toNatClampNeg) hI)) k_X7_request gw_511 rfl hl.1 rfl (Nat.le_of_ble_eq_true rfl) ⟨⟨rfl, rfl⟩, Nat.le_of_ble_eq_true rfl, Nat.le_of_ble_eq_true rfl⟩ ⟨Nat.le_of_ble_eq_true rfl, Nat.le_of_ble_eq_true rfl⟩ dL_law_430 (fun r I1 H1 locs1 hq hW => ?_)
        refine lv_aload_n hx hb dL_law_433 rfl (lv_at hl 2 rfl) ?_
        refine lv_aload_n hx hb dL_law_434 rfl (lv_at hl 0 rfl) ?_
        refine lv_iload_n hx hb dL_law_435 rfl (lv_at hl 3 rfl) ?_
        refine lv_iconst (v := (1 : Int32)) hx hb dL_law_436 (by decide) ?_
        refine lv_iadd hx hb dL_law_437 ?_
        refine va_sld hx hb hX hbl hbA hW.2.2 (lx_idx (j := 1) hL hm (by decide) rfl) dL_law_438 ?_
        refine lv_aload_n hx hb dL_law_439 rfl (lv_at hl 0 rfl) ?_
        refine lv_iload_n hx hb dL_law_440 rfl (lv_at hl 3 rfl) ?_
        refine lv_iconst (v := (2 : Int32)) hx hb dL_law_441 (by decide) ?_
        refine lv_iadd hx hb dL_law_442 ?_
        refine va_sld hx hb hX hbl hbA hW.2.2 (lx_idx (j := 2) hL hm (by decide) rfl) dL_law_443 ?_
        refine lv_aload_n hx hb dL_law_444 rfl (lv_at hl 0 rfl) ?_
        refine lv_iload_n hx hb dL_law_445 rfl (lv_at hl 3 rfl) ?_
        refine lv_iconst (v := (3 : Int32)) hx hb dL_law_446 (by decide) ?_
        refine lv_iadd hx hb dL_law_447 ?_
        refine va_sld hx hb hX hbl hbA hW.2.2 (lx_idx (j := 3) hL hm (by decide) rfl) dL_law_448 ?_
        refine lx_callM (As := [.int (xs (nI (5 * k) + (1 : Int32)).toNatClampNeg), .int (xs (nI (5 * k) + (2 : Int32)).toNatClampNeg), .int (xs (nI (5 * k) + (3 : Int32)).toNatClampNeg)]) (rest := [.int r]) C hW rfl (c_X8_request l (lx_M D cs t s.heap.size) 0 (by decide +kernel) (xs (nI (5 * k) + (1 : Int32)).toNatClampNeg) (xs (nI (5 * k) + (2 : Int32)).toNatClampNeg) (xs (nI (5 * k) + (3 : Int32)).toNatClampNeg) J _ hq) k_X8_request gw_861 rfl hl.1 rfl (Nat.le_of_ble_eq_true rfl) ⟨⟨rfl, rfl⟩, Nat.le_of_ble_eq_true rfl, Nat.le_of_ble_eq_true rfl⟩ ⟨Nat.le_of_ble_eq_true rfl, Nat.le_of_ble_eq_true rfl⟩ dL_law_449 (fun r2 J1 H1 locs1 hq hW => ?_)
        refine lv_icmp_eq (tgt := 876) hx hb dL_law_452 (by decide) (fun _ => ?_) (fun hc => absurd hq.1 hc)
        exact hgo I1 J1 _ _ hq.2 hW
      have q6 := lv_neT (a := 6) hs (by decide)
      clear hs
      by_cases hs : z = (7 : Int32)
      · refine lv_tableIn (tgt := 457) hx hb dL_law_32 (by rw [hs]; decide) (by rw [hs]; decide) (by rw [hs]; rfl) (by decide) ?_
        refine lv_aload_n hx hb dL_law_457 rfl (lv_at hl 1 rfl) ?_
        refine lv_aload_n hx hb dL_law_458 rfl (lv_at hl 0 rfl) ?_
        refine lv_iload_n hx hb dL_law_459 rfl (lv_at hl 3 rfl) ?_
        refine lv_iconst (v := (1 : Int32)) hx hb dL_law_460 (by decide) ?_
        refine lv_iadd hx hb dL_law_461 ?_
        refine va_sld hx hb hX hbl hbA hW.2.2 (lx_idx (j := 1) hL hm (by decide) rfl) dL_law_462 ?_
        refine lx_callX (As := [.int (xs (nI (5 * k) + (1 : Int32)).toNatClampNeg)]) (rest := []) C hW rfl (c_X7_cancel l (lx_X D cs t s.heap.size) 0 (by decide +kernel) (xs (nI (5 * k) + (1 : Int32)).toNatClampNeg) I _ (hs7 I J (xs (nI (5 * k) + (1 : Int32)).toNatClampNeg) hI)) k_X7_cancel gw_523 rfl hl.1 rfl (Nat.le_of_ble_eq_true rfl) ⟨⟨rfl, rfl⟩, Nat.le_of_ble_eq_true rfl, Nat.le_of_ble_eq_true rfl⟩ ⟨Nat.le_of_ble_eq_true rfl, Nat.le_of_ble_eq_true rfl⟩ dL_law_463 (fun r I1 H1 locs1 hq hW => ?_)
        refine lv_aload_n hx hb dL_law_466 rfl (lv_at hl 2 rfl) ?_
        refine lv_aload_n hx hb dL_law_467 rfl (lv_at hl 0 rfl) ?_
        refine lv_iload_n hx hb dL_law_468 rfl (lv_at hl 3 rfl) ?_
        refine lv_iconst (v := (1 : Int32)) hx hb dL_law_469 (by decide) ?_
        refine lv_iadd hx hb dL_law_470 ?_
        refine va_sld hx hb hX hbl hbA hW.2.2 (lx_idx (j := 1) hL hm (by decide) rfl) dL_law_471 ?_
        refine lx_callM (As := [.int (xs (nI (5 * k) + (1 : Int32)).toNatClampNeg)]) (rest := [.int r]) C hW rfl (c_X8_cancel l (lx_M D cs t s.heap.size) 0 (by decide +kernel) (xs (nI (5 * k) + (1 : Int32)).toNatClampNeg) J _ hq) k_X8_cancel gw_869 rfl hl.1 rfl (Nat.le_of_ble_eq_true rfl) ⟨⟨rfl, rfl⟩, Nat.le_of_ble_eq_true rfl, Nat.le_of_ble_eq_true rfl⟩ ⟨Nat.le_of_ble_eq_true rfl, Nat.le_of_ble_eq_true rfl⟩ dL_law_472 (fun r2 J1 H1 locs1 hq hW => ?_)
        refine lv_icmp_eq (tgt := 876) hx hb dL_law_475 (by decide) (fun _ => ?_) (fun hc => absurd hq.1 hc)
        exact hgo I1 J1 _ _ hq.2 hW
      have q7 := lv_neT (a := 7) hs (by decide)
      clear hs
      by_cases hs : z = (8 : Int32)
      · refine lv_tableIn (tgt := 480) hx hb dL_law_32 (by rw [hs]; decide) (by rw [hs]; decide) (by rw [hs]; rfl) (by decide) ?_
        refine lv_aload_n hx hb dL_law_480 rfl (lv_at hl 1 rfl) ?_
        refine lx_callX (As := []) (rest := []) C hW rfl (c_X7_next l (lx_X D cs t s.heap.size) 0 (by decide +kernel) I _ (hs8 I J hI)) k_X7_next gw_545 rfl hl.1 rfl (Nat.le_of_ble_eq_true rfl) ⟨⟨rfl, rfl⟩, Nat.le_of_ble_eq_true rfl, Nat.le_of_ble_eq_true rfl⟩ ⟨Nat.le_of_ble_eq_true rfl, Nat.le_of_ble_eq_true rfl⟩ dL_law_481 (fun r I1 H1 locs1 hq hW => ?_)
        refine lv_aload_n hx hb dL_law_484 rfl (lv_at hl 2 rfl) ?_
        refine lx_callM (As := []) (rest := [.int r]) C hW rfl (c_X8_next l (lx_M D cs t s.heap.size) 0 (by decide +kernel) J _ hq) k_X8_next gw_885 rfl hl.1 rfl (Nat.le_of_ble_eq_true rfl) ⟨⟨rfl, rfl⟩, Nat.le_of_ble_eq_true rfl, Nat.le_of_ble_eq_true rfl⟩ ⟨Nat.le_of_ble_eq_true rfl, Nat.le_of_ble_eq_true rfl⟩ dL_law_485 (fun r2 J1 H1 locs1 hq hW => ?_)
        refine lv_icmp_eq (tgt := 876) hx hb dL_law_488 (by decide) (fun _ => ?_) (fun hc => absurd hq.1 hc)
        exact hgo I1 J1 _ _ hq.2 hW
      have q8 := lv_neT (a := 8) hs (by decide)
      clear hs
      by_cases hs : z = (9 : Int32)
      · refine lv_tableIn (tgt := 493) hx hb dL_law_32 (by rw [hs]; decide) (by rw [hs]; decide) (by rw [hs]; rfl) (by decide) ?_
        refine lv_aload_n hx hb dL_law_493 rfl (lv_at hl 1 rfl) ?_
        refine lx_callX (As := []) (rest := []) C hW rfl (c_X7_workOff l (lx_X D cs t s.heap.size) 0 (by decide +kernel) I _ (hs9 I J hI)) k_X7_workOff gw_611 rfl hl.1 rfl (Nat.le_of_ble_eq_true rfl) ⟨⟨rfl, rfl⟩, Nat.le_of_ble_eq_true rfl, Nat.le_of_ble_eq_true rfl⟩ ⟨Nat.le_of_ble_eq_true rfl, Nat.le_of_ble_eq_true rfl⟩ dL_law_494 (fun r I1 H1 locs1 hq hW => ?_)
        refine lv_aload_n hx hb dL_law_497 rfl (lv_at hl 2 rfl) ?_
        refine lx_callM (As := []) (rest := [.int r]) C hW rfl (c_X8_workOff l (lx_M D cs t s.heap.size) 0 (by decide +kernel) J _ hq) k_X8_workOff gw_967 rfl hl.1 rfl (Nat.le_of_ble_eq_true rfl) ⟨⟨rfl, rfl⟩, Nat.le_of_ble_eq_true rfl, Nat.le_of_ble_eq_true rfl⟩ ⟨Nat.le_of_ble_eq_true rfl, Nat.le_of_ble_eq_true rfl⟩ dL_law_498 (fun r2 J1 H1 locs1 hq hW => ?_)
        refine lv_icmp_eq (tgt := 876) hx hb dL_law_501 (by decide) (fun _ => ?_) (fun hc => absurd hq.1 hc)
        exact hgo I1 J1 _ _ hq.2 hW
      have q9 := lv_neT (a := 9) hs (by decide)
      clear hs
      by_cases hs : z = (10 : Int32)
      · refine lv_tableIn (tgt := 506) hx hb dL_law_32 (by rw [hs]; decide) (by rw [hs]; decide) (by rw [hs]; rfl) (by decide) ?_
        refine lv_aload_n hx hb dL_law_506 rfl (lv_at hl 1 rfl) ?_
        refine lv_aload_n hx hb dL_law_507 rfl (lv_at hl 0 rfl) ?_
        refine lv_iload_n hx hb dL_law_508 rfl (lv_at hl 3 rfl) ?_
        refine lv_iconst (v := (1 : Int32)) hx hb dL_law_509 (by decide) ?_
        refine lv_iadd hx hb dL_law_510 ?_
        refine va_sld hx hb hX hbl hbA hW.2.2 (lx_idx (j := 1) hL hm (by decide) rfl) dL_law_511 ?_
        refine lv_i2c hx hb dL_law_512 rfl ?_
        refine lx_callX (As := [.int ((Int32.toUInt32 (xs (nI (5 * k) + (1 : Int32)).toNatClampNeg) % 65536).toInt32)]) (rest := []) C hW rfl (c_X7_type l (lx_X D cs t s.heap.size) 0 (by decide +kernel) ((Int32.toUInt32 (xs (nI (5 * k) + (1 : Int32)).toNatClampNeg) % 65536).toInt32) I _ (hs10 I J ((Int32.toUInt32 (xs (nI (5 * k) + (1 : Int32)).toNatClampNeg) % 65536).toInt32) hI ⟨_, rfl⟩)) k_X7_type gw_615 rfl hl.1 rfl (Nat.le_of_ble_eq_true rfl) ⟨⟨rfl, rfl⟩, Nat.le_of_ble_eq_true rfl, Nat.le_of_ble_eq_true rfl⟩ ⟨Nat.le_of_ble_eq_true rfl, Nat.le_of_ble_eq_true rfl⟩ dL_law_513 (fun r I1 H1 locs1 hq hW => ?_)
        refine lv_aload_n hx hb dL_law_516 rfl (lv_at hl 2 rfl) ?_
        refine lv_aload_n hx hb dL_law_517 rfl (lv_at hl 0 rfl) ?_
        refine lv_iload_n hx hb dL_law_518 rfl (lv_at hl 3 rfl) ?_
        refine lv_iconst (v := (1 : Int32)) hx hb dL_law_519 (by decide) ?_
        refine lv_iadd hx hb dL_law_520 ?_
        refine va_sld hx hb hX hbl hbA hW.2.2 (lx_idx (j := 1) hL hm (by decide) rfl) dL_law_521 ?_
        refine lv_i2c hx hb dL_law_522 rfl ?_
        refine lx_callM (As := [.int ((Int32.toUInt32 (xs (nI (5 * k) + (1 : Int32)).toNatClampNeg) % 65536).toInt32)]) (rest := [.int r]) C hW rfl (c_X8_type l (lx_M D cs t s.heap.size) 0 (by decide +kernel) ((Int32.toUInt32 (xs (nI (5 * k) + (1 : Int32)).toNatClampNeg) % 65536).toInt32) J _ hq) k_X8_type gw_971 rfl hl.1 rfl (Nat.le_of_ble_eq_true rfl) ⟨⟨rfl, rfl⟩, Nat.le_of_ble_eq_true rfl, Nat.le_of_ble_eq_true rfl⟩ ⟨Nat.le_of_ble_eq_true rfl, Nat.le_of_ble_eq_true rfl⟩ dL_law_523 (fun r2 J1 H1 locs1 hq hW => ?_)
        refine lv_icmp_eq (tgt := 876) hx hb dL_law_526 (by decide) (fun _ => ?_) (fun hc => absurd hq.1 hc)
        exact hgo I1 J1 _ _ hq.2 hW
      have q10 := lv_neT (a := 10) hs (by decide)
      clear hs
      by_cases hs : z = (11 : Int32)
      · refine lv_tableIn (tgt := 531) hx hb dL_law_32 (by rw [hs]; decide) (by rw [hs]; decide) (by rw [hs]; rfl) (by decide) ?_
        refine lv_aload_n hx hb dL_law_531 rfl (lv_at hl 1 rfl) ?_
        refine lx_callX (As := []) (rest := []) C hW rfl (c_X7_clearText l (lx_X D cs t s.heap.size) 0 (by decide +kernel) I _ (hs11 I J hI)) k_X7_clearText gw_623 rfl hl.1 rfl (Nat.le_of_ble_eq_true rfl) ⟨⟨rfl, rfl⟩, Nat.le_of_ble_eq_true rfl, Nat.le_of_ble_eq_true rfl⟩ ⟨Nat.le_of_ble_eq_true rfl, Nat.le_of_ble_eq_true rfl⟩ dL_law_532 (fun r I1 H1 locs1 hq hW => ?_)
        refine lv_aload_n hx hb dL_law_535 rfl (lv_at hl 2 rfl) ?_
        refine lx_callM (As := []) (rest := [.int r]) C hW rfl (c_X8_clearText l (lx_M D cs t s.heap.size) 0 (by decide +kernel) J _ hq) k_X8_clearText gw_975 rfl hl.1 rfl (Nat.le_of_ble_eq_true rfl) ⟨⟨rfl, rfl⟩, Nat.le_of_ble_eq_true rfl, Nat.le_of_ble_eq_true rfl⟩ ⟨Nat.le_of_ble_eq_true rfl, Nat.le_of_ble_eq_true rfl⟩ dL_law_536 (fun r2 J1 H1 locs1 hq hW => ?_)
        refine lv_icmp_eq (tgt := 876) hx hb dL_law_539 (by decide) (fun _ => ?_) (fun hc => absurd hq.1 hc)
        exact hgo I1 J1 _ _ hq.2 hW
      have q11 := lv_neT (a := 11) hs (by decide)
      clear hs
      by_cases hs : z = (12 : Int32)
      · refine lv_tableIn (tgt := 544) hx hb dL_law_32 (by rw [hs]; decide) (by rw [hs]; decide) (by rw [hs]; rfl) (by decide) ?_
        refine lv_aload_n hx hb dL_law_544 rfl (lv_at hl 1 rfl) ?_
        refine lx_callX (As := []) (rest := []) C hW rfl (c_X7_readJobs l (lx_X D cs t s.heap.size) 0 (by decide +kernel) I _ (hs12 I J hI)) k_X7_readJobs gw_627 rfl hl.1 rfl (Nat.le_of_ble_eq_true rfl) ⟨⟨rfl, rfl⟩, Nat.le_of_ble_eq_true rfl, Nat.le_of_ble_eq_true rfl⟩ ⟨Nat.le_of_ble_eq_true rfl, Nat.le_of_ble_eq_true rfl⟩ dL_law_545 (fun r I1 H1 locs1 hq hW => ?_)
        refine lv_aload_n hx hb dL_law_548 rfl (lv_at hl 2 rfl) ?_
        refine lx_callM (As := []) (rest := [.int r]) C hW rfl (c_X8_readJobs l (lx_M D cs t s.heap.size) 0 (by decide +kernel) J _ hq) k_X8_readJobs gw_979 rfl hl.1 rfl (Nat.le_of_ble_eq_true rfl) ⟨⟨rfl, rfl⟩, Nat.le_of_ble_eq_true rfl, Nat.le_of_ble_eq_true rfl⟩ ⟨Nat.le_of_ble_eq_true rfl, Nat.le_of_ble_eq_true rfl⟩ dL_law_549 (fun r2 J1 H1 locs1 hq hW => ?_)
        refine lv_icmp_eq (tgt := 876) hx hb dL_law_552 (by decide) (fun _ => ?_) (fun hc => absurd hq.1 hc)
        exact hgo I1 J1 _ _ hq.2 hW
      have q12 := lv_neT (a := 12) hs (by decide)
      clear hs
      by_cases hs : z = (13 : Int32)
      · refine lv_tableIn (tgt := 557) hx hb dL_law_32 (by rw [hs]; decide) (by rw [hs]; decide) (by rw [hs]; rfl) (by decide) ?_
        refine lv_aload_n hx hb dL_law_557 rfl (lv_at hl 1 rfl) ?_
        refine lx_callX (As := []) (rest := []) C hW rfl (c_X7_undo l (lx_X D cs t s.heap.size) 0 (by decide +kernel) I _ (hs13 I J hI)) k_X7_undo gw_661 rfl hl.1 rfl (Nat.le_of_ble_eq_true rfl) ⟨⟨rfl, rfl⟩, Nat.le_of_ble_eq_true rfl, Nat.le_of_ble_eq_true rfl⟩ ⟨Nat.le_of_ble_eq_true rfl, Nat.le_of_ble_eq_true rfl⟩ dL_law_558 (fun r I1 H1 locs1 hq hW => ?_)
        refine lv_aload_n hx hb dL_law_561 rfl (lv_at hl 2 rfl) ?_
        refine lx_callM (As := []) (rest := [.int r]) C hW rfl (c_X8_undo l (lx_M D cs t s.heap.size) 0 (by decide +kernel) J _ hq) k_X8_undo gw_995 rfl hl.1 rfl (Nat.le_of_ble_eq_true rfl) ⟨⟨rfl, rfl⟩, Nat.le_of_ble_eq_true rfl, Nat.le_of_ble_eq_true rfl⟩ ⟨Nat.le_of_ble_eq_true rfl, Nat.le_of_ble_eq_true rfl⟩ dL_law_562 (fun r2 J1 H1 locs1 hq hW => ?_)
        refine lv_icmp_eq (tgt := 876) hx hb dL_law_565 (by decide) (fun _ => ?_) (fun hc => absurd hq.1 hc)
        exact hgo I1 J1 _ _ hq.2 hW
      have q13 := lv_neT (a := 13) hs (by decide)
      clear hs
      by_cases hs : z = (14 : Int32)
      · refine lv_tableIn (tgt := 570) hx hb dL_law_32 (by rw [hs]; decide) (by rw [hs]; decide) (by rw [hs]; rfl) (by decide) ?_
        refine lv_aload_n hx hb dL_law_570 rfl (lv_at hl 1 rfl) ?_
        refine lx_callX (As := []) (rest := []) C hW rfl (c_X7_keep l (lx_X D cs t s.heap.size) 0 (by decide +kernel) I _ (hs14 I J hI)) k_X7_keep gw_670 rfl hl.1 rfl (Nat.le_of_ble_eq_true rfl) ⟨⟨rfl, rfl⟩, Nat.le_of_ble_eq_true rfl, Nat.le_of_ble_eq_true rfl⟩ ⟨Nat.le_of_ble_eq_true rfl, Nat.le_of_ble_eq_true rfl⟩ dL_law_571 (fun r I1 H1 locs1 hq hW => ?_)
        refine lv_aload_n hx hb dL_law_574 rfl (lv_at hl 2 rfl) ?_
        refine lx_callM (As := []) (rest := [.int r]) C hW rfl (c_X8_keep l (lx_M D cs t s.heap.size) 0 (by decide +kernel) J _ hq) k_X8_keep gw_999 rfl hl.1 rfl (Nat.le_of_ble_eq_true rfl) ⟨⟨rfl, rfl⟩, Nat.le_of_ble_eq_true rfl, Nat.le_of_ble_eq_true rfl⟩ ⟨Nat.le_of_ble_eq_true rfl, Nat.le_of_ble_eq_true rfl⟩ dL_law_575 (fun r2 J1 H1 locs1 hq hW => ?_)
        refine lv_icmp_eq (tgt := 876) hx hb dL_law_578 (by decide) (fun _ => ?_) (fun hc => absurd hq.1 hc)
        exact hgo I1 J1 _ _ hq.2 hW
      have q14 := lv_neT (a := 14) hs (by decide)
      clear hs
      by_cases hs : z = (15 : Int32)
      · refine lv_tableIn (tgt := 583) hx hb dL_law_32 (by rw [hs]; decide) (by rw [hs]; decide) (by rw [hs]; rfl) (by decide) ?_
        refine lv_aload_n hx hb dL_law_583 rfl (lv_at hl 1 rfl) ?_
        refine lx_callX (As := []) (rest := []) C hW rfl (c_X7_restore l (lx_X D cs t s.heap.size) 0 (by decide +kernel) I _ (hs15 I J hI)) k_X7_restore gw_674 rfl hl.1 rfl (Nat.le_of_ble_eq_true rfl) ⟨⟨rfl, rfl⟩, Nat.le_of_ble_eq_true rfl, Nat.le_of_ble_eq_true rfl⟩ ⟨Nat.le_of_ble_eq_true rfl, Nat.le_of_ble_eq_true rfl⟩ dL_law_584 (fun r I1 H1 locs1 hq hW => ?_)
        refine lv_aload_n hx hb dL_law_587 rfl (lv_at hl 2 rfl) ?_
        refine lx_callM (As := []) (rest := [.int r]) C hW rfl (c_X8_restore l (lx_M D cs t s.heap.size) 0 (by decide +kernel) J _ hq) k_X8_restore gw_1003 rfl hl.1 rfl (Nat.le_of_ble_eq_true rfl) ⟨⟨rfl, rfl⟩, Nat.le_of_ble_eq_true rfl, Nat.le_of_ble_eq_true rfl⟩ ⟨Nat.le_of_ble_eq_true rfl, Nat.le_of_ble_eq_true rfl⟩ dL_law_588 (fun r2 J1 H1 locs1 hq hW => ?_)
        refine lv_icmp_eq (tgt := 876) hx hb dL_law_591 (by decide) (fun _ => ?_) (fun hc => absurd hq.1 hc)
        exact hgo I1 J1 _ _ hq.2 hW
      have q15 := lv_neT (a := 15) hs (by decide)
      clear hs
      by_cases hs : z = (16 : Int32)
      · refine lv_tableIn (tgt := 596) hx hb dL_law_32 (by rw [hs]; decide) (by rw [hs]; decide) (by rw [hs]; rfl) (by decide) ?_
        refine lv_aload_n hx hb dL_law_596 rfl (lv_at hl 1 rfl) ?_
        refine lv_aload_n hx hb dL_law_597 rfl (lv_at hl 0 rfl) ?_
        refine lv_iload_n hx hb dL_law_598 rfl (lv_at hl 3 rfl) ?_
        refine lv_iconst (v := (1 : Int32)) hx hb dL_law_599 (by decide) ?_
        refine lv_iadd hx hb dL_law_600 ?_
        refine va_sld hx hb hX hbl hbA hW.2.2 (lx_idx (j := 1) hL hm (by decide) rfl) dL_law_601 ?_
        refine lv_aload_n hx hb dL_law_602 rfl (lv_at hl 0 rfl) ?_
        refine lv_iload_n hx hb dL_law_603 rfl (lv_at hl 3 rfl) ?_
        refine lv_iconst (v := (2 : Int32)) hx hb dL_law_604 (by decide) ?_
        refine lv_iadd hx hb dL_law_605 ?_
        refine va_sld hx hb hX hbl hbA hW.2.2 (lx_idx (j := 2) hL hm (by decide) rfl) dL_law_606 ?_
        refine lx_callX (As := [.int (xs (nI (5 * k) + (1 : Int32)).toNatClampNeg), .int (xs (nI (5 * k) + (2 : Int32)).toNatClampNeg)]) (rest := []) C hW rfl (c_X7_rosette l (lx_X D cs t s.heap.size) 0 (by decide +kernel) (xs (nI (5 * k) + (1 : Int32)).toNatClampNeg) (xs (nI (5 * k) + (2 : Int32)).toNatClampNeg) I _ (hs16 I J (xs (nI (5 * k) + (1 : Int32)).toNatClampNeg) (xs (nI (5 * k) + (2 : Int32)).toNatClampNeg) hI)) k_X7_rosette gw_678 rfl hl.1 rfl (Nat.le_of_ble_eq_true rfl) ⟨⟨rfl, rfl⟩, Nat.le_of_ble_eq_true rfl, Nat.le_of_ble_eq_true rfl⟩ ⟨Nat.le_of_ble_eq_true rfl, Nat.le_of_ble_eq_true rfl⟩ dL_law_607 (fun r I1 H1 locs1 hq hW => ?_)
        refine lv_aload_n hx hb dL_law_610 rfl (lv_at hl 2 rfl) ?_
        refine lv_aload_n hx hb dL_law_611 rfl (lv_at hl 0 rfl) ?_
        refine lv_iload_n hx hb dL_law_612 rfl (lv_at hl 3 rfl) ?_
        refine lv_iconst (v := (1 : Int32)) hx hb dL_law_613 (by decide) ?_
        refine lv_iadd hx hb dL_law_614 ?_
        refine va_sld hx hb hX hbl hbA hW.2.2 (lx_idx (j := 1) hL hm (by decide) rfl) dL_law_615 ?_
        refine lv_aload_n hx hb dL_law_616 rfl (lv_at hl 0 rfl) ?_
        refine lv_iload_n hx hb dL_law_617 rfl (lv_at hl 3 rfl) ?_
        refine lv_iconst (v := (2 : Int32)) hx hb dL_law_618 (by decide) ?_
        refine lv_iadd hx hb dL_law_619 ?_
        refine va_sld hx hb hX hbl hbA hW.2.2 (lx_idx (j := 2) hL hm (by decide) rfl) dL_law_620 ?_
        refine lx_callM (As := [.int (xs (nI (5 * k) + (1 : Int32)).toNatClampNeg), .int (xs (nI (5 * k) + (2 : Int32)).toNatClampNeg)]) (rest := [.int r]) C hW rfl (c_X8_rosette l (lx_M D cs t s.heap.size) 0 (by decide +kernel) (xs (nI (5 * k) + (1 : Int32)).toNatClampNeg) (xs (nI (5 * k) + (2 : Int32)).toNatClampNeg) J _ hq) k_X8_rosette gw_1007 rfl hl.1 rfl (Nat.le_of_ble_eq_true rfl) ⟨⟨rfl, rfl⟩, Nat.le_of_ble_eq_true rfl, Nat.le_of_ble_eq_true rfl⟩ ⟨Nat.le_of_ble_eq_true rfl, Nat.le_of_ble_eq_true rfl⟩ dL_law_621 (fun r2 J1 H1 locs1 hq hW => ?_)
        refine lv_icmp_eq (tgt := 876) hx hb dL_law_624 (by decide) (fun _ => ?_) (fun hc => absurd hq.1 hc)
        exact hgo I1 J1 _ _ hq.2 hW
      have q16 := lv_neT (a := 16) hs (by decide)
      clear hs
      by_cases hs : z = (17 : Int32)
      · refine lv_tableIn (tgt := 629) hx hb dL_law_32 (by rw [hs]; decide) (by rw [hs]; decide) (by rw [hs]; rfl) (by decide) ?_
        refine lv_aload_n hx hb dL_law_629 rfl (lv_at hl 1 rfl) ?_
        refine lv_aload_n hx hb dL_law_630 rfl (lv_at hl 0 rfl) ?_
        refine lv_iload_n hx hb dL_law_631 rfl (lv_at hl 3 rfl) ?_
        refine lv_iconst (v := (1 : Int32)) hx hb dL_law_632 (by decide) ?_
        refine lv_iadd hx hb dL_law_633 ?_
        refine va_sld hx hb hX hbl hbA hW.2.2 (lx_idx (j := 1) hL hm (by decide) rfl) dL_law_634 ?_
        refine lv_aload_n hx hb dL_law_635 rfl (lv_at hl 0 rfl) ?_
        refine lv_iload_n hx hb dL_law_636 rfl (lv_at hl 3 rfl) ?_
        refine lv_iconst (v := (2 : Int32)) hx hb dL_law_637 (by decide) ?_
        refine lv_iadd hx hb dL_law_638 ?_
        refine va_sld hx hb hX hbl hbA hW.2.2 (lx_idx (j := 2) hL hm (by decide) rfl) dL_law_639 ?_
        refine lv_aload_n hx hb dL_law_640 rfl (lv_at hl 0 rfl) ?_
        refine lv_iload_n hx hb dL_law_641 rfl (lv_at hl 3 rfl) ?_
        refine lv_iconst (v := (3 : Int32)) hx hb dL_law_642 (by decide) ?_
        refine lv_iadd hx hb dL_law_643 ?_
        refine va_sld hx hb hX hbl hbA hW.2.2 (lx_idx (j := 3) hL hm (by decide) rfl) dL_law_644 ?_
        refine lx_callX (As := [.int (xs (nI (5 * k) + (1 : Int32)).toNatClampNeg), .int (xs (nI (5 * k) + (2 : Int32)).toNatClampNeg), .int (xs (nI (5 * k) + (3 : Int32)).toNatClampNeg)]) (rest := []) C hW rfl (c_X7_gauge l (lx_X D cs t s.heap.size) 0 (by decide +kernel) (xs (nI (5 * k) + (1 : Int32)).toNatClampNeg) (xs (nI (5 * k) + (2 : Int32)).toNatClampNeg) (xs (nI (5 * k) + (3 : Int32)).toNatClampNeg) I _ (hs17 I J (xs (nI (5 * k) + (1 : Int32)).toNatClampNeg) (xs (nI (5 * k) + (2 : Int32)).toNatClampNeg) (xs (nI (5 * k) + (3 : Int32)).toNatClampNeg) hI)) k_X7_gauge gw_682 rfl hl.1 rfl (Nat.le_of_ble_eq_true rfl) ⟨⟨rfl, rfl⟩, Nat.le_of_ble_eq_true rfl, Nat.le_of_ble_eq_true rfl⟩ ⟨Nat.le_of_ble_eq_true rfl, Nat.le_of_ble_eq_true rfl⟩ dL_law_645 (fun r I1 H1 locs1 hq hW => ?_)
        refine lv_aload_n hx hb dL_law_648 rfl (lv_at hl 2 rfl) ?_
        refine lv_aload_n hx hb dL_law_649 rfl (lv_at hl 0 rfl) ?_
        refine lv_iload_n hx hb dL_law_650 rfl (lv_at hl 3 rfl) ?_
        refine lv_iconst (v := (1 : Int32)) hx hb dL_law_651 (by decide) ?_
        refine lv_iadd hx hb dL_law_652 ?_
        refine va_sld hx hb hX hbl hbA hW.2.2 (lx_idx (j := 1) hL hm (by decide) rfl) dL_law_653 ?_
        refine lv_aload_n hx hb dL_law_654 rfl (lv_at hl 0 rfl) ?_
        refine lv_iload_n hx hb dL_law_655 rfl (lv_at hl 3 rfl) ?_
        refine lv_iconst (v := (2 : Int32)) hx hb dL_law_656 (by decide) ?_
        refine lv_iadd hx hb dL_law_657 ?_
        refine va_sld hx hb hX hbl hbA hW.2.2 (lx_idx (j := 2) hL hm (by decide) rfl) dL_law_658 ?_
        refine lv_aload_n hx hb dL_law_659 rfl (lv_at hl 0 rfl) ?_
        refine lv_iload_n hx hb dL_law_660 rfl (lv_at hl 3 rfl) ?_
        refine lv_iconst (v := (3 : Int32)) hx hb dL_law_661 (by decide) ?_
        refine lv_iadd hx hb dL_law_662 ?_
        refine va_sld hx hb hX hbl hbA hW.2.2 (lx_idx (j := 3) hL hm (by decide) rfl) dL_law_663 ?_
        refine lx_callM (As := [.int (xs (nI (5 * k) + (1 : Int32)).toNatClampNeg), .int (xs (nI (5 * k) + (2 : Int32)).toNatClampNeg), .int (xs (nI (5 * k) + (3 : Int32)).toNatClampNeg)]) (rest := [.int r]) C hW rfl (c_X8_gauge l (lx_M D cs t s.heap.size) 0 (by decide +kernel) (xs (nI (5 * k) + (1 : Int32)).toNatClampNeg) (xs (nI (5 * k) + (2 : Int32)).toNatClampNeg) (xs (nI (5 * k) + (3 : Int32)).toNatClampNeg) J _ hq) k_X8_gauge gw_1011 rfl hl.1 rfl (Nat.le_of_ble_eq_true rfl) ⟨⟨rfl, rfl⟩, Nat.le_of_ble_eq_true rfl, Nat.le_of_ble_eq_true rfl⟩ ⟨Nat.le_of_ble_eq_true rfl, Nat.le_of_ble_eq_true rfl⟩ dL_law_664 (fun r2 J1 H1 locs1 hq hW => ?_)
        refine lv_icmp_eq (tgt := 876) hx hb dL_law_667 (by decide) (fun _ => ?_) (fun hc => absurd hq.1 hc)
        exact hgo I1 J1 _ _ hq.2 hW
      have q17 := lv_neT (a := 17) hs (by decide)
      clear hs
      by_cases hs : z = (18 : Int32)
      · refine lv_tableIn (tgt := 672) hx hb dL_law_32 (by rw [hs]; decide) (by rw [hs]; decide) (by rw [hs]; rfl) (by decide) ?_
        refine lv_aload_n hx hb dL_law_672 rfl (lv_at hl 1 rfl) ?_
        refine lv_aload_n hx hb dL_law_673 rfl (lv_at hl 0 rfl) ?_
        refine lv_iload_n hx hb dL_law_674 rfl (lv_at hl 3 rfl) ?_
        refine lv_iconst (v := (1 : Int32)) hx hb dL_law_675 (by decide) ?_
        refine lv_iadd hx hb dL_law_676 ?_
        refine va_sld hx hb hX hbl hbA hW.2.2 (lx_idx (j := 1) hL hm (by decide) rfl) dL_law_677 ?_
        refine lv_aload_n hx hb dL_law_678 rfl (lv_at hl 0 rfl) ?_
        refine lv_iload_n hx hb dL_law_679 rfl (lv_at hl 3 rfl) ?_
        refine lv_iconst (v := (2 : Int32)) hx hb dL_law_680 (by decide) ?_
        refine lv_iadd hx hb dL_law_681 ?_
        refine va_sld hx hb hX hbl hbA hW.2.2 (lx_idx (j := 2) hL hm (by decide) rfl) dL_law_682 ?_
        refine lx_callX (As := [.int (xs (nI (5 * k) + (1 : Int32)).toNatClampNeg), .int (xs (nI (5 * k) + (2 : Int32)).toNatClampNeg)]) (rest := []) C hW rfl (c_X7_principal l (lx_X D cs t s.heap.size) 0 (by decide +kernel) (xs (nI (5 * k) + (1 : Int32)).toNatClampNeg) (xs (nI (5 * k) + (2 : Int32)).toNatClampNeg) I _ (hs18 I J (xs (nI (5 * k) + (1 : Int32)).toNatClampNeg) (xs (nI (5 * k) + (2 : Int32)).toNatClampNeg) hI)) k_X7_principal gw_686 rfl hl.1 rfl (Nat.le_of_ble_eq_true rfl) ⟨⟨rfl, rfl⟩, Nat.le_of_ble_eq_true rfl, Nat.le_of_ble_eq_true rfl⟩ ⟨Nat.le_of_ble_eq_true rfl, Nat.le_of_ble_eq_true rfl⟩ dL_law_683 (fun r I1 H1 locs1 hq hW => ?_)
        refine lv_aload_n hx hb dL_law_686 rfl (lv_at hl 2 rfl) ?_
        refine lv_aload_n hx hb dL_law_687 rfl (lv_at hl 0 rfl) ?_
        refine lv_iload_n hx hb dL_law_688 rfl (lv_at hl 3 rfl) ?_
        refine lv_iconst (v := (1 : Int32)) hx hb dL_law_689 (by decide) ?_
        refine lv_iadd hx hb dL_law_690 ?_
        refine va_sld hx hb hX hbl hbA hW.2.2 (lx_idx (j := 1) hL hm (by decide) rfl) dL_law_691 ?_
        refine lv_aload_n hx hb dL_law_692 rfl (lv_at hl 0 rfl) ?_
        refine lv_iload_n hx hb dL_law_693 rfl (lv_at hl 3 rfl) ?_
        refine lv_iconst (v := (2 : Int32)) hx hb dL_law_694 (by decide) ?_
        refine lv_iadd hx hb dL_law_695 ?_
        refine va_sld hx hb hX hbl hbA hW.2.2 (lx_idx (j := 2) hL hm (by decide) rfl) dL_law_696 ?_
        refine lx_callM (As := [.int (xs (nI (5 * k) + (1 : Int32)).toNatClampNeg), .int (xs (nI (5 * k) + (2 : Int32)).toNatClampNeg)]) (rest := [.int r]) C hW rfl (c_X8_principal l (lx_M D cs t s.heap.size) 0 (by decide +kernel) (xs (nI (5 * k) + (1 : Int32)).toNatClampNeg) (xs (nI (5 * k) + (2 : Int32)).toNatClampNeg) J _ hq) k_X8_principal gw_1015 rfl hl.1 rfl (Nat.le_of_ble_eq_true rfl) ⟨⟨rfl, rfl⟩, Nat.le_of_ble_eq_true rfl, Nat.le_of_ble_eq_true rfl⟩ ⟨Nat.le_of_ble_eq_true rfl, Nat.le_of_ble_eq_true rfl⟩ dL_law_697 (fun r2 J1 H1 locs1 hq hW => ?_)
        refine lv_icmp_eq (tgt := 876) hx hb dL_law_700 (by decide) (fun _ => ?_) (fun hc => absurd hq.1 hc)
        exact hgo I1 J1 _ _ hq.2 hW
      have q18 := lv_neT (a := 18) hs (by decide)
      clear hs
      by_cases hs : z = (19 : Int32)
      · refine lv_tableIn (tgt := 705) hx hb dL_law_32 (by rw [hs]; decide) (by rw [hs]; decide) (by rw [hs]; rfl) (by decide) ?_
        refine lv_aload_n hx hb dL_law_705 rfl (lv_at hl 1 rfl) ?_
        refine lv_aload_n hx hb dL_law_706 rfl (lv_at hl 0 rfl) ?_
        refine lv_iload_n hx hb dL_law_707 rfl (lv_at hl 3 rfl) ?_
        refine lv_iconst (v := (1 : Int32)) hx hb dL_law_708 (by decide) ?_
        refine lv_iadd hx hb dL_law_709 ?_
        refine va_sld hx hb hX hbl hbA hW.2.2 (lx_idx (j := 1) hL hm (by decide) rfl) dL_law_710 ?_
        refine lv_aload_n hx hb dL_law_711 rfl (lv_at hl 0 rfl) ?_
        refine lv_iload_n hx hb dL_law_712 rfl (lv_at hl 3 rfl) ?_
        refine lv_iconst (v := (2 : Int32)) hx hb dL_law_713 (by decide) ?_
        refine lv_iadd hx hb dL_law_714 ?_
        refine va_sld hx hb hX hbl hbA hW.2.2 (lx_idx (j := 2) hL hm (by decide) rfl) dL_law_715 ?_
        refine lx_callX (As := [.int (xs (nI (5 * k) + (1 : Int32)).toNatClampNeg), .int (xs (nI (5 * k) + (2 : Int32)).toNatClampNeg)]) (rest := []) C hW rfl (c_X7_pull l (lx_X D cs t s.heap.size) 0 (by decide +kernel) (xs (nI (5 * k) + (1 : Int32)).toNatClampNeg) (xs (nI (5 * k) + (2 : Int32)).toNatClampNeg) I _ (hs19 I J (xs (nI (5 * k) + (1 : Int32)).toNatClampNeg) (xs (nI (5 * k) + (2 : Int32)).toNatClampNeg) hI)) k_X7_pull gw_690 rfl hl.1 rfl (Nat.le_of_ble_eq_true rfl) ⟨⟨rfl, rfl⟩, Nat.le_of_ble_eq_true rfl, Nat.le_of_ble_eq_true rfl⟩ ⟨Nat.le_of_ble_eq_true rfl, Nat.le_of_ble_eq_true rfl⟩ dL_law_716 (fun r I1 H1 locs1 hq hW => ?_)
        refine lv_aload_n hx hb dL_law_719 rfl (lv_at hl 2 rfl) ?_
        refine lv_aload_n hx hb dL_law_720 rfl (lv_at hl 0 rfl) ?_
        refine lv_iload_n hx hb dL_law_721 rfl (lv_at hl 3 rfl) ?_
        refine lv_iconst (v := (1 : Int32)) hx hb dL_law_722 (by decide) ?_
        refine lv_iadd hx hb dL_law_723 ?_
        refine va_sld hx hb hX hbl hbA hW.2.2 (lx_idx (j := 1) hL hm (by decide) rfl) dL_law_724 ?_
        refine lv_aload_n hx hb dL_law_725 rfl (lv_at hl 0 rfl) ?_
        refine lv_iload_n hx hb dL_law_726 rfl (lv_at hl 3 rfl) ?_
        refine lv_iconst (v := (2 : Int32)) hx hb dL_law_727 (by decide) ?_
        refine lv_iadd hx hb dL_law_728 ?_
        refine va_sld hx hb hX hbl hbA hW.2.2 (lx_idx (j := 2) hL hm (by decide) rfl) dL_law_729 ?_
        refine lx_callM (As := [.int (xs (nI (5 * k) + (1 : Int32)).toNatClampNeg), .int (xs (nI (5 * k) + (2 : Int32)).toNatClampNeg)]) (rest := [.int r]) C hW rfl (c_X8_pull l (lx_M D cs t s.heap.size) 0 (by decide +kernel) (xs (nI (5 * k) + (1 : Int32)).toNatClampNeg) (xs (nI (5 * k) + (2 : Int32)).toNatClampNeg) J _ hq) k_X8_pull gw_1019 rfl hl.1 rfl (Nat.le_of_ble_eq_true rfl) ⟨⟨rfl, rfl⟩, Nat.le_of_ble_eq_true rfl, Nat.le_of_ble_eq_true rfl⟩ ⟨Nat.le_of_ble_eq_true rfl, Nat.le_of_ble_eq_true rfl⟩ dL_law_730 (fun r2 J1 H1 locs1 hq hW => ?_)
        refine lv_icmp_eq (tgt := 876) hx hb dL_law_733 (by decide) (fun _ => ?_) (fun hc => absurd hq.1 hc)
        exact hgo I1 J1 _ _ hq.2 hW
      have q19 := lv_neT (a := 19) hs (by decide)
      clear hs
      by_cases hs : z = (20 : Int32)
      · refine lv_tableIn (tgt := 738) hx hb dL_law_32 (by rw [hs]; decide) (by rw [hs]; decide) (by rw [hs]; rfl) (by decide) ?_
        refine lv_aload_n hx hb dL_law_738 rfl (lv_at hl 1 rfl) ?_
        refine lv_aload_n hx hb dL_law_739 rfl (lv_at hl 0 rfl) ?_
        refine lv_iload_n hx hb dL_law_740 rfl (lv_at hl 3 rfl) ?_
        refine lv_iconst (v := (1 : Int32)) hx hb dL_law_741 (by decide) ?_
        refine lv_iadd hx hb dL_law_742 ?_
        refine va_sld hx hb hX hbl hbA hW.2.2 (lx_idx (j := 1) hL hm (by decide) rfl) dL_law_743 ?_
        refine lv_aload_n hx hb dL_law_744 rfl (lv_at hl 0 rfl) ?_
        refine lv_iload_n hx hb dL_law_745 rfl (lv_at hl 3 rfl) ?_
        refine lv_iconst (v := (2 : Int32)) hx hb dL_law_746 (by decide) ?_
        refine lv_iadd hx hb dL_law_747 ?_
        refine va_sld hx hb hX hbl hbA hW.2.2 (lx_idx (j := 2) hL hm (by decide) rfl) dL_law_748 ?_
        refine lx_callX (As := [.int (xs (nI (5 * k) + (1 : Int32)).toNatClampNeg), .int (xs (nI (5 * k) + (2 : Int32)).toNatClampNeg)]) (rest := []) C hW rfl (c_X7_job l (lx_X D cs t s.heap.size) 0 (by decide +kernel) (xs (nI (5 * k) + (1 : Int32)).toNatClampNeg) (xs (nI (5 * k) + (2 : Int32)).toNatClampNeg) I _ (hs20 I J (xs (nI (5 * k) + (1 : Int32)).toNatClampNeg) (xs (nI (5 * k) + (2 : Int32)).toNatClampNeg) hI)) k_X7_job gw_696 rfl hl.1 rfl (Nat.le_of_ble_eq_true rfl) ⟨⟨rfl, rfl⟩, Nat.le_of_ble_eq_true rfl, Nat.le_of_ble_eq_true rfl⟩ ⟨Nat.le_of_ble_eq_true rfl, Nat.le_of_ble_eq_true rfl⟩ dL_law_749 (fun r I1 H1 locs1 hq hW => ?_)
        refine lv_aload_n hx hb dL_law_752 rfl (lv_at hl 2 rfl) ?_
        refine lv_aload_n hx hb dL_law_753 rfl (lv_at hl 0 rfl) ?_
        refine lv_iload_n hx hb dL_law_754 rfl (lv_at hl 3 rfl) ?_
        refine lv_iconst (v := (1 : Int32)) hx hb dL_law_755 (by decide) ?_
        refine lv_iadd hx hb dL_law_756 ?_
        refine va_sld hx hb hX hbl hbA hW.2.2 (lx_idx (j := 1) hL hm (by decide) rfl) dL_law_757 ?_
        refine lv_aload_n hx hb dL_law_758 rfl (lv_at hl 0 rfl) ?_
        refine lv_iload_n hx hb dL_law_759 rfl (lv_at hl 3 rfl) ?_
        refine lv_iconst (v := (2 : Int32)) hx hb dL_law_760 (by decide) ?_
        refine lv_iadd hx hb dL_law_761 ?_
        refine va_sld hx hb hX hbl hbA hW.2.2 (lx_idx (j := 2) hL hm (by decide) rfl) dL_law_762 ?_
        refine lx_callM (As := [.int (xs (nI (5 * k) + (1 : Int32)).toNatClampNeg), .int (xs (nI (5 * k) + (2 : Int32)).toNatClampNeg)]) (rest := [.int r]) C hW rfl (c_X8_job l (lx_M D cs t s.heap.size) 0 (by decide +kernel) (xs (nI (5 * k) + (1 : Int32)).toNatClampNeg) (xs (nI (5 * k) + (2 : Int32)).toNatClampNeg) J _ hq) k_X8_job gw_1023 rfl hl.1 rfl (Nat.le_of_ble_eq_true rfl) ⟨⟨rfl, rfl⟩, Nat.le_of_ble_eq_true rfl, Nat.le_of_ble_eq_true rfl⟩ ⟨Nat.le_of_ble_eq_true rfl, Nat.le_of_ble_eq_true rfl⟩ dL_law_763 (fun r2 J1 H1 locs1 hq hW => ?_)
        refine lv_icmp_eq (tgt := 876) hx hb dL_law_766 (by decide) (fun _ => ?_) (fun hc => absurd hq.1 hc)
        exact hgo I1 J1 _ _ hq.2 hW
      have q20 := lv_neT (a := 20) hs (by decide)
      clear hs
      by_cases hs : z = (21 : Int32)
      · refine lv_tableIn (tgt := 771) hx hb dL_law_32 (by rw [hs]; decide) (by rw [hs]; decide) (by rw [hs]; rfl) (by decide) ?_
        refine lv_aload_n hx hb dL_law_771 rfl (lv_at hl 1 rfl) ?_
        refine lv_aload_n hx hb dL_law_772 rfl (lv_at hl 0 rfl) ?_
        refine lv_iload_n hx hb dL_law_773 rfl (lv_at hl 3 rfl) ?_
        refine lv_iconst (v := (1 : Int32)) hx hb dL_law_774 (by decide) ?_
        refine lv_iadd hx hb dL_law_775 ?_
        refine va_sld hx hb hX hbl hbA hW.2.2 (lx_idx (j := 1) hL hm (by decide) rfl) dL_law_776 ?_
        refine lv_aload_n hx hb dL_law_777 rfl (lv_at hl 0 rfl) ?_
        refine lv_iload_n hx hb dL_law_778 rfl (lv_at hl 3 rfl) ?_
        refine lv_iconst (v := (2 : Int32)) hx hb dL_law_779 (by decide) ?_
        refine lv_iadd hx hb dL_law_780 ?_
        refine va_sld hx hb hX hbl hbA hW.2.2 (lx_idx (j := 2) hL hm (by decide) rfl) dL_law_781 ?_
        refine lx_callX (As := [.int (xs (nI (5 * k) + (1 : Int32)).toNatClampNeg), .int (xs (nI (5 * k) + (2 : Int32)).toNatClampNeg)]) (rest := []) C hW rfl (c_X7_record l (lx_X D cs t s.heap.size) 0 (by decide +kernel) (xs (nI (5 * k) + (1 : Int32)).toNatClampNeg) (xs (nI (5 * k) + (2 : Int32)).toNatClampNeg) I _ (hs21 I J (xs (nI (5 * k) + (1 : Int32)).toNatClampNeg) (xs (nI (5 * k) + (2 : Int32)).toNatClampNeg) hI)) k_X7_record gw_700 rfl hl.1 rfl (Nat.le_of_ble_eq_true rfl) ⟨⟨rfl, rfl⟩, Nat.le_of_ble_eq_true rfl, Nat.le_of_ble_eq_true rfl⟩ ⟨Nat.le_of_ble_eq_true rfl, Nat.le_of_ble_eq_true rfl⟩ dL_law_782 (fun r I1 H1 locs1 hq hW => ?_)
        refine lv_aload_n hx hb dL_law_785 rfl (lv_at hl 2 rfl) ?_
        refine lv_aload_n hx hb dL_law_786 rfl (lv_at hl 0 rfl) ?_
        refine lv_iload_n hx hb dL_law_787 rfl (lv_at hl 3 rfl) ?_
        refine lv_iconst (v := (1 : Int32)) hx hb dL_law_788 (by decide) ?_
        refine lv_iadd hx hb dL_law_789 ?_
        refine va_sld hx hb hX hbl hbA hW.2.2 (lx_idx (j := 1) hL hm (by decide) rfl) dL_law_790 ?_
        refine lv_aload_n hx hb dL_law_791 rfl (lv_at hl 0 rfl) ?_
        refine lv_iload_n hx hb dL_law_792 rfl (lv_at hl 3 rfl) ?_
        refine lv_iconst (v := (2 : Int32)) hx hb dL_law_793 (by decide) ?_
        refine lv_iadd hx hb dL_law_794 ?_
        refine va_sld hx hb hX hbl hbA hW.2.2 (lx_idx (j := 2) hL hm (by decide) rfl) dL_law_795 ?_
        refine lx_callM (As := [.int (xs (nI (5 * k) + (1 : Int32)).toNatClampNeg), .int (xs (nI (5 * k) + (2 : Int32)).toNatClampNeg)]) (rest := [.int r]) C hW rfl (c_X8_record l (lx_M D cs t s.heap.size) 0 (by decide +kernel) (xs (nI (5 * k) + (1 : Int32)).toNatClampNeg) (xs (nI (5 * k) + (2 : Int32)).toNatClampNeg) J _ hq) k_X8_record gw_1027 rfl hl.1 rfl (Nat.le_of_ble_eq_true rfl) ⟨⟨rfl, rfl⟩, Nat.le_of_ble_eq_true rfl, Nat.le_of_ble_eq_true rfl⟩ ⟨Nat.le_of_ble_eq_true rfl, Nat.le_of_ble_eq_true rfl⟩ dL_law_796 (fun r2 J1 H1 locs1 hq hW => ?_)
        refine lv_icmp_eq (tgt := 876) hx hb dL_law_799 (by decide) (fun _ => ?_) (fun hc => absurd hq.1 hc)
        exact hgo I1 J1 _ _ hq.2 hW
      have q21 := lv_neT (a := 21) hs (by decide)
      clear hs
      by_cases hs : z = (22 : Int32)
      · by_cases hz : xs (nI (5 * k) + (2 : Int32)).toNatClampNeg = 0
        · refine lv_tableIn (tgt := 804) hx hb dL_law_32 (by rw [hs]; decide) (by rw [hs]; decide) (by rw [hs]; rfl) (by decide) ?_
          refine lv_aload_n hx hb dL_law_804 rfl (lv_at hl 1 rfl) ?_
          refine lv_aload_n hx hb dL_law_805 rfl (lv_at hl 0 rfl) ?_
          refine lv_iload_n hx hb dL_law_806 rfl (lv_at hl 3 rfl) ?_
          refine lv_iconst (v := (1 : Int32)) hx hb dL_law_807 (by decide) ?_
          refine lv_iadd hx hb dL_law_808 ?_
          refine va_sld hx hb hX hbl hbA hW.2.2 (lx_idx (j := 1) hL hm (by decide) rfl) dL_law_809 ?_
          refine lv_aload_n hx hb dL_law_810 rfl (lv_at hl 0 rfl) ?_
          refine lv_iload_n hx hb dL_law_811 rfl (lv_at hl 3 rfl) ?_
          refine lv_iconst (v := (2 : Int32)) hx hb dL_law_812 (by decide) ?_
          refine lv_iadd hx hb dL_law_813 ?_
          refine va_sld hx hb hX hbl hbA hW.2.2 (lx_idx (j := 2) hL hm (by decide) rfl) dL_law_814 ?_
          refine lv_if_eq (tgt := 822) hx hb dL_law_815 (by decide) (fun _ => ?_) (fun hc => absurd hz hc)
          refine lv_iconst (v := (0 : Int32)) hx hb dL_law_822 (by decide) ?_
          refine lx_callX (As := [.int (xs (nI (5 * k) + (1 : Int32)).toNatClampNeg), .int ((0 : Int32))]) (rest := []) C hW rfl (c_X7_neighbour l (lx_X D cs t s.heap.size) 0 (by decide +kernel) (xs (nI (5 * k) + (1 : Int32)).toNatClampNeg) ((0 : Int32)) I _ (hs22 I J (xs (nI (5 * k) + (1 : Int32)).toNatClampNeg) ((0 : Int32)) hI (Or.inl rfl))) k_X7_neighbour gw_704 rfl hl.1 rfl (Nat.le_of_ble_eq_true rfl) ⟨⟨rfl, rfl⟩, Nat.le_of_ble_eq_true rfl, Nat.le_of_ble_eq_true rfl⟩ ⟨Nat.le_of_ble_eq_true rfl, Nat.le_of_ble_eq_true rfl⟩ dL_law_823 (fun r I1 H1 locs1 hq hW => ?_)
          refine lv_aload_n hx hb dL_law_826 rfl (lv_at hl 2 rfl) ?_
          refine lv_aload_n hx hb dL_law_827 rfl (lv_at hl 0 rfl) ?_
          refine lv_iload_n hx hb dL_law_828 rfl (lv_at hl 3 rfl) ?_
          refine lv_iconst (v := (1 : Int32)) hx hb dL_law_829 (by decide) ?_
          refine lv_iadd hx hb dL_law_830 ?_
          refine va_sld hx hb hX hbl hbA hW.2.2 (lx_idx (j := 1) hL hm (by decide) rfl) dL_law_831 ?_
          refine lv_aload_n hx hb dL_law_832 rfl (lv_at hl 0 rfl) ?_
          refine lv_iload_n hx hb dL_law_833 rfl (lv_at hl 3 rfl) ?_
          refine lv_iconst (v := (2 : Int32)) hx hb dL_law_834 (by decide) ?_
          refine lv_iadd hx hb dL_law_835 ?_
          refine va_sld hx hb hX hbl hbA hW.2.2 (lx_idx (j := 2) hL hm (by decide) rfl) dL_law_836 ?_
          refine lv_if_eq (tgt := 844) hx hb dL_law_837 (by decide) (fun _ => ?_) (fun hc => absurd hz hc)
          refine lv_iconst (v := (0 : Int32)) hx hb dL_law_844 (by decide) ?_
          refine lx_callM (As := [.int (xs (nI (5 * k) + (1 : Int32)).toNatClampNeg), .int ((0 : Int32))]) (rest := [.int r]) C hW rfl (c_X8_neighbour l (lx_M D cs t s.heap.size) 0 (by decide +kernel) (xs (nI (5 * k) + (1 : Int32)).toNatClampNeg) ((0 : Int32)) J _ hq) k_X8_neighbour gw_1031 rfl hl.1 rfl (Nat.le_of_ble_eq_true rfl) ⟨⟨rfl, rfl⟩, Nat.le_of_ble_eq_true rfl, Nat.le_of_ble_eq_true rfl⟩ ⟨Nat.le_of_ble_eq_true rfl, Nat.le_of_ble_eq_true rfl⟩ dL_law_845 (fun r2 J1 H1 locs1 hq hW => ?_)
          refine lv_icmp_eq (tgt := 876) hx hb dL_law_848 (by decide) (fun _ => ?_) (fun hc => absurd hq.1 hc)
          exact hgo I1 J1 _ _ hq.2 hW
        · refine lv_tableIn (tgt := 804) hx hb dL_law_32 (by rw [hs]; decide) (by rw [hs]; decide) (by rw [hs]; rfl) (by decide) ?_
          refine lv_aload_n hx hb dL_law_804 rfl (lv_at hl 1 rfl) ?_
          refine lv_aload_n hx hb dL_law_805 rfl (lv_at hl 0 rfl) ?_
          refine lv_iload_n hx hb dL_law_806 rfl (lv_at hl 3 rfl) ?_
          refine lv_iconst (v := (1 : Int32)) hx hb dL_law_807 (by decide) ?_
          refine lv_iadd hx hb dL_law_808 ?_
          refine va_sld hx hb hX hbl hbA hW.2.2 (lx_idx (j := 1) hL hm (by decide) rfl) dL_law_809 ?_
          refine lv_aload_n hx hb dL_law_810 rfl (lv_at hl 0 rfl) ?_
          refine lv_iload_n hx hb dL_law_811 rfl (lv_at hl 3 rfl) ?_
          refine lv_iconst (v := (2 : Int32)) hx hb dL_law_812 (by decide) ?_
          refine lv_iadd hx hb dL_law_813 ?_
          refine va_sld hx hb hX hbl hbA hW.2.2 (lx_idx (j := 2) hL hm (by decide) rfl) dL_law_814 ?_
          refine lv_if_eq (tgt := 822) hx hb dL_law_815 (by decide) (fun hc => absurd hc hz) (fun _ => ?_)
          refine lv_iconst (v := (1 : Int32)) hx hb dL_law_818 (by decide) ?_
          refine lv_goto (tgt := 823) hx hb dL_law_819 (by decide) ?_
          refine lx_callX (As := [.int (xs (nI (5 * k) + (1 : Int32)).toNatClampNeg), .int ((1 : Int32))]) (rest := []) C hW rfl (c_X7_neighbour l (lx_X D cs t s.heap.size) 0 (by decide +kernel) (xs (nI (5 * k) + (1 : Int32)).toNatClampNeg) ((1 : Int32)) I _ (hs22 I J (xs (nI (5 * k) + (1 : Int32)).toNatClampNeg) ((1 : Int32)) hI (Or.inr rfl))) k_X7_neighbour gw_704 rfl hl.1 rfl (Nat.le_of_ble_eq_true rfl) ⟨⟨rfl, rfl⟩, Nat.le_of_ble_eq_true rfl, Nat.le_of_ble_eq_true rfl⟩ ⟨Nat.le_of_ble_eq_true rfl, Nat.le_of_ble_eq_true rfl⟩ dL_law_823 (fun r I1 H1 locs1 hq hW => ?_)
          refine lv_aload_n hx hb dL_law_826 rfl (lv_at hl 2 rfl) ?_
          refine lv_aload_n hx hb dL_law_827 rfl (lv_at hl 0 rfl) ?_
          refine lv_iload_n hx hb dL_law_828 rfl (lv_at hl 3 rfl) ?_
          refine lv_iconst (v := (1 : Int32)) hx hb dL_law_829 (by decide) ?_
          refine lv_iadd hx hb dL_law_830 ?_
          refine va_sld hx hb hX hbl hbA hW.2.2 (lx_idx (j := 1) hL hm (by decide) rfl) dL_law_831 ?_
          refine lv_aload_n hx hb dL_law_832 rfl (lv_at hl 0 rfl) ?_
          refine lv_iload_n hx hb dL_law_833 rfl (lv_at hl 3 rfl) ?_
          refine lv_iconst (v := (2 : Int32)) hx hb dL_law_834 (by decide) ?_
          refine lv_iadd hx hb dL_law_835 ?_
          refine va_sld hx hb hX hbl hbA hW.2.2 (lx_idx (j := 2) hL hm (by decide) rfl) dL_law_836 ?_
          refine lv_if_eq (tgt := 844) hx hb dL_law_837 (by decide) (fun hc => absurd hc hz) (fun _ => ?_)
          refine lv_iconst (v := (1 : Int32)) hx hb dL_law_840 (by decide) ?_
          refine lv_goto (tgt := 845) hx hb dL_law_841 (by decide) ?_
          refine lx_callM (As := [.int (xs (nI (5 * k) + (1 : Int32)).toNatClampNeg), .int ((1 : Int32))]) (rest := [.int r]) C hW rfl (c_X8_neighbour l (lx_M D cs t s.heap.size) 0 (by decide +kernel) (xs (nI (5 * k) + (1 : Int32)).toNatClampNeg) ((1 : Int32)) J _ hq) k_X8_neighbour gw_1031 rfl hl.1 rfl (Nat.le_of_ble_eq_true rfl) ⟨⟨rfl, rfl⟩, Nat.le_of_ble_eq_true rfl, Nat.le_of_ble_eq_true rfl⟩ ⟨Nat.le_of_ble_eq_true rfl, Nat.le_of_ble_eq_true rfl⟩ dL_law_845 (fun r2 J1 H1 locs1 hq hW => ?_)
          refine lv_icmp_eq (tgt := 876) hx hb dL_law_848 (by decide) (fun _ => ?_) (fun hc => absurd hq.1 hc)
          exact hgo I1 J1 _ _ hq.2 hW
      have q22 := lv_neT (a := 22) hs (by decide)
      clear hs
      by_cases hs : z = (23 : Int32)
      · refine lv_tableIn (tgt := 853) hx hb dL_law_32 (by rw [hs]; decide) (by rw [hs]; decide) (by rw [hs]; rfl) (by decide) ?_
        refine lv_aload_n hx hb dL_law_853 rfl (lv_at hl 1 rfl) ?_
        refine lv_aload_n hx hb dL_law_854 rfl (lv_at hl 0 rfl) ?_
        refine lv_iload_n hx hb dL_law_855 rfl (lv_at hl 3 rfl) ?_
        refine lv_iconst (v := (1 : Int32)) hx hb dL_law_856 (by decide) ?_
        refine lv_iadd hx hb dL_law_857 ?_
        refine va_sld hx hb hX hbl hbA hW.2.2 (lx_idx (j := 1) hL hm (by decide) rfl) dL_law_858 ?_
        refine lx_callX (As := [.int (xs (nI (5 * k) + (1 : Int32)).toNatClampNeg)]) (rest := []) C hW rfl (c_X7_count l (lx_X D cs t s.heap.size) 0 (by decide +kernel) (xs (nI (5 * k) + (1 : Int32)).toNatClampNeg) I _ (hs23 I J (xs (nI (5 * k) + (1 : Int32)).toNatClampNeg) hI)) k_X7_count gw_709 rfl hl.1 rfl (Nat.le_of_ble_eq_true rfl) ⟨⟨rfl, rfl⟩, Nat.le_of_ble_eq_true rfl, Nat.le_of_ble_eq_true rfl⟩ ⟨Nat.le_of_ble_eq_true rfl, Nat.le_of_ble_eq_true rfl⟩ dL_law_859 (fun r I1 H1 locs1 hq hW => ?_)
        refine lv_aload_n hx hb dL_law_862 rfl (lv_at hl 2 rfl) ?_
        refine lv_aload_n hx hb dL_law_863 rfl (lv_at hl 0 rfl) ?_
        refine lv_iload_n hx hb dL_law_864 rfl (lv_at hl 3 rfl) ?_
        refine lv_iconst (v := (1 : Int32)) hx hb dL_law_865 (by decide) ?_
        refine lv_iadd hx hb dL_law_866 ?_
        refine va_sld hx hb hX hbl hbA hW.2.2 (lx_idx (j := 1) hL hm (by decide) rfl) dL_law_867 ?_
        refine lx_callM (As := [.int (xs (nI (5 * k) + (1 : Int32)).toNatClampNeg)]) (rest := [.int r]) C hW rfl (c_X8_count l (lx_M D cs t s.heap.size) 0 (by decide +kernel) (xs (nI (5 * k) + (1 : Int32)).toNatClampNeg) J _ hq) k_X8_count gw_1035 rfl hl.1 rfl (Nat.le_of_ble_eq_true rfl) ⟨⟨rfl, rfl⟩, Nat.le_of_ble_eq_true rfl, Nat.le_of_ble_eq_true rfl⟩ ⟨Nat.le_of_ble_eq_true rfl, Nat.le_of_ble_eq_true rfl⟩ dL_law_868 (fun r2 J1 H1 locs1 hq hW => ?_)
        refine lv_icmp_eq (tgt := 876) hx hb dL_law_871 (by decide) (fun _ => ?_) (fun hc => absurd hq.1 hc)
        exact hgo I1 J1 _ _ hq.2 hW
      have q23 := lv_neT (a := 23) hs (by decide)
      clear hs
      refine lv_tableOut (tgt := 876) hx hb dL_law_32 (by omega) (by decide) ?_
      exact hgo I J _ _ hI hW
