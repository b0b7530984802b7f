/-- what the law's own script needs -/
def lx_E (L : gx_L) (b nL : Nat) (xs : Nat → Int32) (s : State) : Prop := va_X b nL xs s s.heap ∧ b < s.heap.size ∧ ¬ gx_A L b ∧ (∀ q, gx_A L q → s.heap.size ≤ q) ∧ nL ≤ 260
theorem lx_k7 : kX 0 = 7 := by decide +kernel
theorem lx_Xblind {As : List Value} {b nL : Nat} {xs : Nat → Int32} : FrameBlind (va_Pc As (fun U => va_X b nL xs U U.heap ∧ b < U.heap.size)) := by
  intro a U g mk q
  obtain ⟨q1, q2, q3⟩ := q
  exact ⟨q1, va_X.moved (u := U) (U := U.calling g mk a) (Vm.Alike.refl U.vm) q2, q3⟩
abbrev rm_L_cell : Room := { frames := 0, cells := 0, slots := 0, locals := 0 }
set_option maxHeartbeats 4000000 in
set_option maxRecDepth 100000 in
theorem c_L_cell (l : Launch) (b nL : Nat) (xs : Nat → Int32) (hn : nL ≤ 260) (k : Int32) (hk : ¬ k < 0) : Met l yL_cell (gx_w yL_cell cL_cell 2 (some .int)) rm_L_cell (va_Pc [.ref b, .int k] (fun U => va_X b nL xs U U.heap ∧ b < U.heap.size)) (va_Qi (fun r (_ : Unit) => r = cel nL xs k) (fun _ _ => True) (fun _ => False)) 0 0 (fun _ => False) := by
  refine Met.ofW (cc := cL_cell) (maxL := 2) (ret := some .int) (by decide) rfl ?_
  intro p e s m args below meth c s₁ B hml hv
  obtain ⟨rfl, hX, hbl⟩ := hv
  have hts := atoms_spec (ws := gx_w yL_cell cL_cell 2 (some .int)) B.pre
  have hown : s.vm.findClass yL_cell.cls = some m.cls := findClass_of_methodNamed B.named
  have hl := lv_entry ([.ref b, .int k]) (n := 2) (Nat.le_of_ble_eq_true rfl)
  rw [lg_entry_eq]
  generalize (lg_sl ([.ref b, .int k]) ++ List.replicate (2 - (lg_sl ([.ref b, .int k])).length) Slot.unset).toArray = ls at hl ⊢
  have hl : lv_has ls 2 [(0, .ref b), (1, .int k)] := hl
  have hx := B.exec
  have hb := B.bytes
  have hS : va_S (fun _ => False) s.heap s.heap [] := va_S.rf
  have hbA : ¬ (fun _ : Nat => False) b := fun h => h
  have he : ∀ r : Int32, r = cel nL xs k → W p l e rm_L_cell s m ([.ref b, .int k] : List Value).toArray below meth c s.heap [] 0 0 (MQ below (va_Qi (fun r (_ : Unit) => r = cel nL xs k) (fun _ _ => True) (fun _ => False)) ([.ref b, .int k] : List Value).toArray s 0 0 (fun _ => False)) (F0 m 20 ls [.int r]) := by
    intro r er
    exact W.iret hx hb B.returns (fun t ht hW => ⟨⟨r, (), rfl, er, trivial⟩, hS.F ht⟩) hS.2.2 dL_cell_20 B.notSynchronized
  refine lv_iload_n hx hb dL_cell_0 rfl (lv_at hl 1 rfl) ?_
  refine lv_aload_n hx hb dL_cell_1 rfl (lv_at hl 0 rfl) ?_
  refine va_slen hx hb hX hbl hbA hS dL_cell_2 ?_
  refine lv_icmp_ge (tgt := 12) hx hb dL_cell_3 (by decide) (fun hc => ?_) (fun hc => ?_)
  · have hc : nI nL ≤ k := hc
    refine lv_ldc (v := 2360009) hx hb hown (hts _ (List.mem_cons_of_mem _ gw_608)) dL_cell_12 ?_
    refine lv_iload_n hx hb dL_cell_14 rfl (lv_at hl 1 rfl) ?_
    refine lv_imul hx hb dL_cell_15 ?_
    refine lv_sipush (v := 1097) hx hb dL_cell_16 (by decide) ?_
    refine lv_iadd hx hb dL_cell_19 ?_
    exact he _ (by unfold cel; rw [if_neg (Int32.not_lt.mpr hc)])
  · have hc : ¬ nI nL ≤ k := hc
    have hlt : k < nI nL := Int32.not_le.mp hc
    have hin : vp_in k nL := by
      obtain ⟨j, hj, e⟩ := nI_of hk
      rw [e] at hlt ⊢
      exact vp_in_nI ((nI_ltI hj (by omega)).mp hlt) (by omega)
    refine lv_aload_n hx hb dL_cell_6 rfl (lv_at hl 0 rfl) ?_
    refine lv_iload_n hx hb dL_cell_7 rfl (lv_at hl 1 rfl) ?_
    refine va_sld hx hb hX hbl hbA hS hin dL_cell_8 ?_
    refine lv_goto (tgt := 20) hx hb dL_cell_9 (by decide) ?_
    exact he _ (by unfold cel; rw [if_pos hlt])
theorem lx_cell {p : Program} {l : Launch} {e : Env} {R : Room} {s : State} {m : MethodId} {below : List Frame} {meth : Method} {c : Code} {H : Heap} {locs : List Loc} {cells slots : Nat} {Q : State → Prop} {L : gx_L} {b nL : Nat} {xs : Nat → Int32} {cell : Nat → va_E} {pc : Nat} {ls : Array Slot} {rest st0 : List Value} {k : Int32} {index : Nat}
    (C : gx_C L 282 p s m #[Value.ref b] meth c RL code 15 ret) (E : lx_E L b nL xs s) (hM : gx_S L 282 cell s.heap H locs) (hk : ¬ k < 0) (hl : Cond.methodLink RL index yL_cell ∈ gx_T) (hls : ls.size = 15) (hst : st0 = .int k :: .ref b :: rest) (hsum : (rest.map fun v => v.category).sum ≤ 8) (hr : 1 ≤ R.frames ∧ 21 ≤ R.locals) (hf : cells ≤ R.cells ∧ slots ≤ R.slots) (hdg : decode code pc = .ok (.invokestatic index, 3))
    (kk : ∀ (r : Int32) (H : Heap) (locs : List Loc), r = cel nL xs k → gx_S L 282 cell s.heap H locs → W p l e R s m #[Value.ref b] below meth c H locs cells slots Q (F0 m (pc + 3) ls (.int r :: rest))) : W p l e R s m #[Value.ref b] below meth c H locs cells slots Q (F0 m pc ls st0) := by
  obtain ⟨hx, hb, -, -, hml, hown, hts, hK, -, hok, hN⟩ := C
  obtain ⟨hX, hbl, hbA, hA, hn⟩ := E
  have hrun := va_runS (meth := meth) (cells := cells) (slots := slots) (Ts := gx_T) (As := [.ref b, .int k]) (rest := rest) (g := F0 m pc ls st0) (locs := locs) (e := e) (below := below) (R := R) (H := H) ⟨hx, hb, hml, hown, hts⟩ (c_L_cell l b nL xs hn k hk) ⟨callB_of 2 hts (gx_GI gw_607) rfl rfl rfl (hts _ gw_21) (hts _ hl) ⟨by decide, by decide, by decide +kernel⟩ hr, hts _ gw_606⟩ ⟨lx_Xblind, fun U hU hW => ⟨rfl, va_X.moved hW.alike (by rw [hU]; exact va_X.kept hX (hM.2.2.1 b hbl hbA)), by rw [hU]; exact Nat.lt_of_lt_of_le hbl hM.2.1⟩⟩ rfl rfl hls hst (lv_room hsum) hdg ⟨by simpa using hf.1, by simpa using hf.2⟩
  refine va_calli hrun hM.2 (fun q _ h => h.elim) (fun q h => h.elim) fun r u tt H1 locs1 ht hvm hp hB hz hk1 hS => ?_
  refine kk r H1 locs1 hp ⟨va_P.kept hM.1 fun k q hq => hk1 _ (hM.1 k q hq).lt fun h => h, hS⟩
theorem lx_end {p : Program} {l : Launch} {e : Env} {s : State} {m : MethodId} {below : List Frame} {meth : Method} {c : Code} {H : Heap} {locs : List Loc} {L : gx_L} {b nL : Nat} {xs : Nat → Int32} {cell : Nat → va_E} {pc : Nat} {ls : Array Slot} (C : gx_C L 282 p s m #[Value.ref b] meth c RL code 15 ret) (E : lx_E L b nL xs s) (hM : gx_S L 282 cell s.heap H locs) (hdg : decode code pc = .ok (.ireturn, 1)) : W p l e room_1 s m #[Value.ref b] below meth c H locs 282 2444 (lw_Z below #[Value.ref b] s) (F0 m pc ls [.int 1]) := by
  obtain ⟨hx, hb, hr, hlocks, -, -, -, -, -, -, -⟩ := C
  refine va_forget (fun q hq => E.2.2.2.1 _ (hM.2.2.2 q hq)) ?_
  refine W.widen (k := 600000) (n := 7302250) (Nat.le_of_ble_eq_true rfl) (Nat.le_of_ble_eq_true rfl) ?_
  exact lw_ret hx hb hr hlocks hdg
section
variable {p : Program} {l : Launch} {e : Env} {s : State} {m : MethodId} {args : Array Value} {below : List Frame} {meth : Method} {c : Code} {L : gx_L} {b nL : Nat} {xs : Nat → Int32}
set_option maxHeartbeats 4000000 in
set_option maxRecDepth 100000 in
theorem tj_L_law_488 (C : gx_C L 282 p s m #[Value.ref b] meth c RL code 15 ret) (E : lx_E L b nL xs s) {K82 : Nat → Int32 → Int32 → gx_M → Prop} (hK82 : ∀ (v1 : Nat) (v2 : Int32) (v3 : Int32) (hv1 : kX v1 = 7) (I : gx_M) (H : Heap) (locs : List Loc) (ls : Array Slot), gx_S L 282 (cellX L I) s.heap H locs → lv_has ls 15 [(0, .ref b), (1, .ref (gx_ad L v1)), (2, .int v2), (3, .int v3)] → K82 v1 v2 v3 I → W p l e room_1 s m #[Value.ref b] below meth c H locs 282 2444 (lw_Z below #[Value.ref b] s) (F0 m 82 ls [])) : ∀ (v1 : Nat) (v2 : Int32) (v3 : Int32) (v4 : Int32) (v12 : Int32) (hv1 : kX v1 = 7) (I : gx_M) (H : Heap) (locs : List Loc) (ls : Array Slot), gx_S L 282 (cellX L I) s.heap H locs → lv_has ls 15 [(0, .ref b), (1, .ref (gx_ad L v1)), (2, .int v2), (3, .int v3), (4, .int v4), (12, .int v12)] → wj_L_law_488 (cel nL xs) K82 v1 v2 v3 v4 v12 I → W p l e room_1 s m #[Value.ref b] below meth c H locs 282 2444 (lw_Z below #[Value.ref b] s) (F0 m 488 ls []) := by
  have hx := C.1
  have hb := C.2.1
  intro v1 v2 v3 v4 v12 hv1 I H locs ls hM hl h
  unfold wj_L_law_488 at h
  refine lv_iload hx hb dL_law_488 (lv_at hl 5 rfl) ?_
  refine lv_if_eq (tgt := 511) hx hb dL_law_490 (by decide) (fun hc => ?_) (fun hc => ?_)
  · replace h := h.1 hc
    refine lv_iconst (v := (0 : Int32)) hx hb dL_law_511 (by decide) ?_
    exact False.elim h
  · replace h := h.2 hc
    refine lv_aload_n hx hb dL_law_493 rfl (lv_at hl 1 rfl) ?_
    refine lv_iload_n hx hb dL_law_494 rfl (lv_at hl 2 rfl) ?_
    refine lv_iload hx hb dL_law_495 (lv_at hl 4 rfl) ?_
    refine lv_iconst (v := (3 : Int32)) hx hb dL_law_497 (by decide) ?_
    refine lv_ishr hx hb dL_law_498 ?_
    refine lv_sipush (v := (1001 : Int32)) hx hb dL_law_499 (by decide) ?_
    refine gq_backi C hM (gq_runS (As := [.int (v4 >>> ((3 : Int32) &&& 31)), .int (1001 : Int32)]) (rest := [.int v2, .ref (gx_ad L v1)]) C hM (c_L_low l L (v4 >>> ((3 : Int32) &&& 31)) (1001 : Int32) I _ h) k_L_low gw_609 rfl hl.1 rfl (Nat.le_of_ble_eq_true rfl) ⟨⟨rfl, rfl⟩, Nat.le_of_ble_eq_true rfl, Nat.le_of_ble_eq_true rfl⟩ ⟨Nat.le_of_ble_eq_true rfl, Nat.le_of_ble_eq_true rfl⟩ dL_law_502) (fun r1 I1 H locs h hM => ?_)
    refine gq_backi C hM (gq_runS (As := [.ref (gx_ad L v1), .int v2, .int r1]) (rest := []) C hM (c_L_sound l L v1 hv1 v2 r1 I1 _ h) k_L_sound gw_635 rfl hl.1 rfl (Nat.le_of_ble_eq_true rfl) ⟨⟨rfl, rfl⟩, Nat.le_of_ble_eq_true rfl, Nat.le_of_ble_eq_true rfl⟩ ⟨Nat.le_of_ble_eq_true rfl, Nat.le_of_ble_eq_true rfl⟩ dL_law_505) (fun r2 I2 H locs h hM => ?_)
    obtain ⟨hz1, h⟩ := h
    refine lv_if_ne (tgt := 513) hx hb dL_law_508 (by decide) (fun hc => ?_) (fun hc => ?_)
    · replace h := h.2 hc
      obtain ⟨x1, ex1⟩ : ∃ z : Int32, z = v3 + (1 : Int32) := ⟨_, rfl⟩
      replace h := h x1 ex1
      refine lv_iinc (v := x1) (lv' := [(3, .int x1), (0, .ref b), (1, .ref (gx_ad L v1)), (2, .int v2), (4, .int v4), (12, .int v12)]) hx hb dL_law_513 hl (k := 3) rfl (by rw [ex1]; rfl) (by decide) rfl (fun ls hl => ?_)
      refine lv_goto (tgt := 82) hx hb dL_law_516 (by decide) ?_
      exact hK82 v1 v2 x1 (hv1) I2 _ _ _ hM (lv_sub hl [1, 2, 3, 0] rfl) h
    · replace h := h.1 hc
      refine lv_iconst (v := (0 : Int32)) hx hb dL_law_511 (by decide) ?_
      exact False.elim h
set_option maxHeartbeats 4000000 in
set_option maxRecDepth 100000 in
theorem tj_L_law_483 (C : gx_C L 282 p s m #[Value.ref b] meth c RL code 15 ret) (E : lx_E L b nL xs s) {K82 : Nat → Int32 → Int32 → gx_M → Prop} (hK82 : ∀ (v1 : Nat) (v2 : Int32) (v3 : Int32) (hv1 : kX v1 = 7) (I : gx_M) (H : Heap) (locs : List Loc) (ls : Array Slot), gx_S L 282 (cellX L I) s.heap H locs → lv_has ls 15 [(0, .ref b), (1, .ref (gx_ad L v1)), (2, .int v2), (3, .int v3)] → K82 v1 v2 v3 I → W p l e room_1 s m #[Value.ref b] below meth c H locs 282 2444 (lw_Z below #[Value.ref b] s) (F0 m 82 ls [])) : ∀ (v1 : Nat) (v3 : Int32) (v4 : Int32) (v9 : Int32) (u0 : Int32) (hv1 : kX v1 = 7) (I : gx_M) (H : Heap) (locs : List Loc) (ls : Array Slot), gx_S L 282 (cellX L I) s.heap H locs → lv_has ls 15 [(0, .ref b), (1, .ref (gx_ad L v1)), (3, .int v3), (4, .int v4), (9, .int v9)] → wj_L_law_483 (cel nL xs) K82 v1 v3 v4 v9 u0 I → W p l e room_1 s m #[Value.ref b] below meth c H locs 282 2444 (lw_Z below #[Value.ref b] s) (F0 m 483 ls [.int u0]) := by
  have hx := C.1
  have hb := C.2.1
  intro v1 v3 v4 v9 u0 hv1 I H locs ls hM hl h
  unfold wj_L_law_483 at h
  refine lv_istore (lv' := [(12, .int u0), (0, .ref b), (1, .ref (gx_ad L v1)), (3, .int v3), (4, .int v4), (9, .int v9)]) hx hb dL_law_483 hl (by decide) rfl (fun ls hl => ?_)
  refine lv_iload hx hb dL_law_485 (lv_at hl 5 rfl) ?_
  refine lv_istore_n (lv' := [(2, .int v9), (12, .int u0), (0, .ref b), (1, .ref (gx_ad L v1)), (3, .int v3), (4, .int v4), (9, .int v9)]) hx hb dL_law_487 rfl hl (by decide) rfl (fun ls hl => ?_)
  exact tj_L_law_488 C E hK82 v1 v9 v3 v4 u0 (hv1) I _ _ _ hM (lv_sub hl [2, 3, 0, 4, 5, 1] rfl) h
set_option maxHeartbeats 4000000 in
set_option maxRecDepth 100000 in
theorem tj_L_law_482 (C : gx_C L 282 p s m #[Value.ref b] meth c RL code 15 ret) (E : lx_E L b nL xs s) {K82 : Nat → Int32 → Int32 → gx_M → Prop} (hK82 : ∀ (v1 : Nat) (v2 : Int32) (v3 : Int32) (hv1 : kX v1 = 7) (I : gx_M) (H : Heap) (locs : List Loc) (ls : Array Slot), gx_S L 282 (cellX L I) s.heap H locs → lv_has ls 15 [(0, .ref b), (1, .ref (gx_ad L v1)), (2, .int v2), (3, .int v3)] → K82 v1 v2 v3 I → W p l e room_1 s m #[Value.ref b] below meth c H locs 282 2444 (lw_Z below #[Value.ref b] s) (F0 m 82 ls [])) : ∀ (v1 : Nat) (v3 : Int32) (v4 : Int32) (v9 : Int32) (hv1 : kX v1 = 7) (I : gx_M) (H : Heap) (locs : List Loc) (ls : Array Slot), gx_S L 282 (cellX L I) s.heap H locs → lv_has ls 15 [(0, .ref b), (1, .ref (gx_ad L v1)), (3, .int v3), (4, .int v4), (9, .int v9)] → wj_L_law_482 (cel nL xs) K82 v1 v3 v4 v9 I → W p l e room_1 s m #[Value.ref b] below meth c H locs 282 2444 (lw_Z below #[Value.ref b] s) (F0 m 482 ls []) := by
  have hx := C.1
  have hb := C.2.1
  intro v1 v3 v4 v9 hv1 I H locs ls hM hl h
  unfold wj_L_law_482 at h
  refine lv_iconst (v := (0 : Int32)) hx hb dL_law_482 (by decide) ?_
  exact tj_L_law_483 C E hK82 v1 v3 v4 v9 (0 : Int32) (hv1) I _ _ _ hM (lv_sub hl [0, 1, 2, 3, 4] rfl) h
set_option maxHeartbeats 4000000 in
set_option maxRecDepth 100000 in
theorem tj_L_law_465 (C : gx_C L 282 p s m #[Value.ref b] meth c RL code 15 ret) (E : lx_E L b nL xs s) {K82 : Nat → Int32 → Int32 → gx_M → Prop} (hK82 : ∀ (v1 : Nat) (v2 : Int32) (v3 : Int32) (hv1 : kX v1 = 7) (I : gx_M) (H : Heap) (locs : List Loc) (ls : Array Slot), gx_S L 282 (cellX L I) s.heap H locs → lv_has ls 15 [(0, .ref b), (1, .ref (gx_ad L v1)), (2, .int v2), (3, .int v3)] → K82 v1 v2 v3 I → W p l e room_1 s m #[Value.ref b] below meth c H locs 282 2444 (lw_Z below #[Value.ref b] s) (F0 m 82 ls [])) : ∀ (v1 : Nat) (v3 : Int32) (v4 : Int32) (v9 : Int32) (v10 : Int64) (u0 : Int32) (u1 : Int32) (hv1 : kX v1 = 7) (I : gx_M) (H : Heap) (locs : List Loc) (ls : Array Slot), gx_S L 282 (cellX L I) s.heap H locs → lv_has ls 15 [(0, .ref b), (1, .ref (gx_ad L v1)), (3, .int v3), (4, .int v4), (9, .int v9), (10, .long v10)] → wj_L_law_465 (cel nL xs) K82 v1 v3 v4 v9 v10 u0 u1 I → W p l e room_1 s m #[Value.ref b] below meth c H locs 282 2444 (lw_Z below #[Value.ref b] s) (F0 m 465 ls [.int u0, .int u1]) := by
  have hx := C.1
  have hb := C.2.1
  intro v1 v3 v4 v9 v10 u0 u1 hv1 I H locs ls hM hl h
  unfold wj_L_law_465 at h
  refine lv_icmp_ne (tgt := 482) hx hb dL_law_465 (by decide) (fun hc => ?_) (fun hc => ?_)
  · replace h := h.2 hc
    exact tj_L_law_482 C E hK82 v1 v3 v4 v9 (hv1) I _ _ _ hM (lv_sub hl [0, 1, 2, 3, 4] rfl) h
  · replace h := h.1 hc
    refine lv_aload_n hx hb dL_law_468 rfl (lv_at hl 1 rfl) ?_
    refine gq_backl C hM (gq_runS (As := [.ref (gx_ad L v1)]) (rest := []) C hM (c_L_digest l L v1 hv1 I _ h) k_L_digest gw_613 rfl hl.1 rfl (Nat.le_of_ble_eq_true rfl) ⟨⟨rfl, rfl⟩, Nat.le_of_ble_eq_true rfl, Nat.le_of_ble_eq_true rfl⟩ ⟨Nat.le_of_ble_eq_true rfl, Nat.le_of_ble_eq_true rfl⟩ dL_law_469) (fun r1 I1 H locs h hM => ?_)
    refine lv_lload hx hb dL_law_472 (lv_at hl 5 rfl) ?_
    refine W.lcmp hx hb dL_law_474 ?_
    refine lv_if_ne (tgt := 482) hx hb dL_law_475 (by decide) (fun hc => ?_) (fun hc => ?_)
    · replace h := h.2 hc
      exact tj_L_law_482 C E hK82 v1 v3 v4 v9 (hv1) I1 _ _ _ hM (lv_sub hl [0, 1, 2, 3, 4] rfl) h
    · replace h := h.1 hc
      refine lv_iconst (v := (1 : Int32)) hx hb dL_law_478 (by decide) ?_
      refine lv_goto (tgt := 483) hx hb dL_law_479 (by decide) ?_
      exact tj_L_law_483 C E hK82 v1 v3 v4 v9 (1 : Int32) (hv1) I1 _ _ _ hM (lv_sub hl [0, 1, 2, 3, 4] rfl) h
set_option maxHeartbeats 4000000 in
set_option maxRecDepth 100000 in
theorem tj_L_law_449 (C : gx_C L 282 p s m #[Value.ref b] meth c RL code 15 ret) (E : lx_E L b nL xs s) {K82 : Nat → Int32 → Int32 → gx_M → Prop} (hK82 : ∀ (v1 : Nat) (v2 : Int32) (v3 : Int32) (hv1 : kX v1 = 7) (I : gx_M) (H : Heap) (locs : List Loc) (ls : Array Slot), gx_S L 282 (cellX L I) s.heap H locs → lv_has ls 15 [(0, .ref b), (1, .ref (gx_ad L v1)), (2, .int v2), (3, .int v3)] → K82 v1 v2 v3 I → W p l e room_1 s m #[Value.ref b] below meth c H locs 282 2444 (lw_Z below #[Value.ref b] s) (F0 m 82 ls [])) : ∀ (v1 : Nat) (v3 : Int32) (v4 : Int32) (v8 : Int32) (v9 : Int32) (v10 : Int64) (hv1 : kX v1 = 7) (I : gx_M) (H : Heap) (locs : List Loc) (ls : Array Slot), gx_S L 282 (cellX L I) s.heap H locs → lv_has ls 15 [(0, .ref b), (1, .ref (gx_ad L v1)), (3, .int v3), (4, .int v4), (8, .int v8), (9, .int v9), (10, .long v10)] → wj_L_law_449 (cel nL xs) K82 v1 v3 v4 v8 v9 v10 I → W p l e room_1 s m #[Value.ref b] below meth c H locs 282 2444 (lw_Z below #[Value.ref b] s) (F0 m 449 ls []) := by
  have hx := C.1
  have hb := C.2.1
  intro v1 v3 v4 v8 v9 v10 hv1 I H locs ls hM hl h
  unfold wj_L_law_449 at h
  refine lv_aload_n hx hb dL_law_449 rfl (lv_at hl 1 rfl) ?_
  refine gq_backi C hM (gq_runV (As := []) (rest := []) C hM (kX_lt hv1 (by decide)) (cX_7 hv1) rfl (c_X7_undo l L v1 hv1 I _ h) k_X7_undo gw_575 rfl hl.1 rfl (Nat.le_of_ble_eq_true rfl) ⟨⟨rfl, rfl⟩, Nat.le_of_ble_eq_true rfl, Nat.le_of_ble_eq_true rfl⟩ ⟨Nat.le_of_ble_eq_true rfl, Nat.le_of_ble_eq_true rfl⟩ dL_law_450) (fun r1 I1 H locs h hM => ?_)
  refine lv_iload hx hb dL_law_453 (lv_at hl 4 rfl) ?_
  refine lv_iconst (v := (5 : Int32)) hx hb dL_law_455 (by decide) ?_
  refine lv_icmp_ne (tgt := 463) hx hb dL_law_456 (by decide) (fun hc => ?_) (fun hc => ?_)
  · replace h := h.2 hc
    refine lv_iload hx hb dL_law_463 (lv_at hl 4 rfl) ?_
    exact tj_L_law_465 C E hK82 v1 v3 v4 v9 v10 v8 r1 (hv1) I1 _ _ _ hM (lv_sub hl [0, 1, 2, 3, 5, 6] rfl) h
  · replace h := h.1 hc
    refine lv_iconst (v := (4 : Int32)) hx hb dL_law_459 (by decide) ?_
    refine lv_goto (tgt := 465) hx hb dL_law_460 (by decide) ?_
    exact tj_L_law_465 C E hK82 v1 v3 v4 v9 v10 (4 : Int32) r1 (hv1) I1 _ _ _ hM (lv_sub hl [0, 1, 2, 3, 5, 6] rfl) h
set_option maxHeartbeats 4000000 in
set_option maxRecDepth 100000 in
theorem tj_L_law_408 (C : gx_C L 282 p s m #[Value.ref b] meth c RL code 15 ret) (E : lx_E L b nL xs s) {K82 : Nat → Int32 → Int32 → gx_M → Prop} (hK82 : ∀ (v1 : Nat) (v2 : Int32) (v3 : Int32) (hv1 : kX v1 = 7) (I : gx_M) (H : Heap) (locs : List Loc) (ls : Array Slot), gx_S L 282 (cellX L I) s.heap H locs → lv_has ls 15 [(0, .ref b), (1, .ref (gx_ad L v1)), (2, .int v2), (3, .int v3)] → K82 v1 v2 v3 I → W p l e room_1 s m #[Value.ref b] below meth c H locs 282 2444 (lw_Z below #[Value.ref b] s) (F0 m 82 ls [])) : ∀ (v1 : Nat) (v2 : Int32) (v3 : Int32) (v4 : Int32) (v5 : Int32) (v8 : Int32) (v9 : Int32) (v10 : Int64) (v12 : Int32) (hv1 : kX v1 = 7) (I : gx_M) (H : Heap) (locs : List Loc) (ls : Array Slot), gx_S L 282 (cellX L I) s.heap H locs → lv_has ls 15 [(0, .ref b), (1, .ref (gx_ad L v1)), (2, .int v2), (3, .int v3), (4, .int v4), (5, .int v5), (8, .int v8), (9, .int v9), (10, .long v10), (12, .int v12)] → wj_L_law_408 (cel nL xs) K82 v1 v2 v3 v4 v5 v8 v9 v10 v12 I → W p l e room_1 s m #[Value.ref b] below meth c H locs 282 2444 (lw_Z below #[Value.ref b] s) (F0 m 408 ls []) := by
  have hx := C.1
  have hb := C.2.1
  intro v1 v2 v3 v4 v5 v8 v9 v10 v12 hv1 I H locs ls hM hl h
  unfold wj_L_law_408 at h
  refine lv_iload hx hb dL_law_408 (lv_at hl 9 rfl) ?_
  refine lv_if_eq (tgt := 488) hx hb dL_law_410 (by decide) (fun hc => ?_) (fun hc => ?_)
  · replace h := h.1 hc
    exact tj_L_law_488 C E hK82 v1 v2 v3 v4 v12 (hv1) I _ _ _ hM (lv_sub hl [0, 1, 2, 3, 4, 9] rfl) h
  · replace h := h.2 hc
    refine lv_iload hx hb dL_law_413 (lv_at hl 5 rfl) ?_
    refine lv_sipush (v := (1536 : Int32)) hx hb dL_law_415 (by decide) ?_
    refine lv_iand hx hb dL_law_418 ?_
    refine lv_if_ne (tgt := 488) hx hb dL_law_419 (by decide) (fun hc => ?_) (fun hc => ?_)
    · replace h := h.2 hc
      exact tj_L_law_488 C E hK82 v1 v2 v3 v4 v12 (hv1) I _ _ _ hM (lv_sub hl [0, 1, 2, 3, 4, 9] rfl) h
    · replace h := h.1 hc
      refine lv_aload_n hx hb dL_law_422 rfl (lv_at hl 1 rfl) ?_
      refine lv_bipush (v := (10 : Int32)) hx hb dL_law_423 (by decide) ?_
      refine gq_backi C hM (gq_runV (As := [.int (10 : Int32)]) (rest := []) C hM (kX_lt hv1 (by decide)) (cX_7 hv1) rfl (c_X7_count l L v1 hv1 (10 : Int32) I _ h) k_X7_count gw_601 rfl hl.1 rfl (Nat.le_of_ble_eq_true rfl) ⟨⟨rfl, rfl⟩, Nat.le_of_ble_eq_true rfl, Nat.le_of_ble_eq_true rfl⟩ ⟨Nat.le_of_ble_eq_true rfl, Nat.le_of_ble_eq_true rfl⟩ dL_law_425) (fun r1 I1 H locs h hM => ?_)
      refine lv_iload hx hb dL_law_428 (lv_at hl 6 rfl) ?_
      refine lv_icmp_ne (tgt := 449) hx hb dL_law_430 (by decide) (fun hc => ?_) (fun hc => ?_)
      · replace h := h.2 hc
        exact tj_L_law_449 C E hK82 v1 v3 v4 v8 v9 v10 (hv1) I1 _ _ _ hM (lv_sub hl [0, 1, 3, 4, 6, 7, 8] rfl) h
      · replace h := h.1 hc
        refine lv_iload hx hb dL_law_433 (lv_at hl 6 rfl) ?_
        refine lv_iconst (v := (5 : Int32)) hx hb dL_law_435 (by decide) ?_
        refine lv_icmp_ne (tgt := 488) hx hb dL_law_436 (by decide) (fun hc => ?_) (fun hc => ?_)
        · replace h := h.2 hc
          exact tj_L_law_488 C E hK82 v1 v2 v3 v4 v12 (hv1) I1 _ _ _ hM (lv_sub hl [0, 1, 2, 3, 4, 9] rfl) h
        · replace h := h.1 hc
          refine lv_aload_n hx hb dL_law_439 rfl (lv_at hl 1 rfl) ?_
          refine gq_backl C hM (gq_runS (As := [.ref (gx_ad L v1)]) (rest := []) C hM (c_L_digest l L v1 hv1 I1 _ h) k_L_digest gw_613 rfl hl.1 rfl (Nat.le_of_ble_eq_true rfl) ⟨⟨rfl, rfl⟩, Nat.le_of_ble_eq_true rfl, Nat.le_of_ble_eq_true rfl⟩ ⟨Nat.le_of_ble_eq_true rfl, Nat.le_of_ble_eq_true rfl⟩ dL_law_440) (fun r2 I2 H locs h hM => ?_)
          refine lv_lload hx hb dL_law_443 (lv_at hl 8 rfl) ?_
          refine W.lcmp hx hb dL_law_445 ?_
          refine lv_if_eq (tgt := 488) hx hb dL_law_446 (by decide) (fun hc => ?_) (fun hc => ?_)
          · replace h := h.1 hc
            exact tj_L_law_488 C E hK82 v1 v2 v3 v4 v12 (hv1) I2 _ _ _ hM (lv_sub hl [0, 1, 2, 3, 4, 9] rfl) h
          · replace h := h.2 hc
            exact tj_L_law_449 C E hK82 v1 v3 v4 v8 v9 v10 (hv1) I2 _ _ _ hM (lv_sub hl [0, 1, 3, 4, 6, 7, 8] rfl) h
set_option maxHeartbeats 4000000 in
set_option maxRecDepth 100000 in
theorem tj_L_law_280 (C : gx_C L 282 p s m #[Value.ref b] meth c RL code 15 ret) (E : lx_E L b nL xs s) {K82 : Nat → Int32 → Int32 → gx_M → Prop} (hK82 : ∀ (v1 : Nat) (v2 : Int32) (v3 : Int32) (hv1 : kX v1 = 7) (I : gx_M) (H : Heap) (locs : List Loc) (ls : Array Slot), gx_S L 282 (cellX L I) s.heap H locs → lv_has ls 15 [(0, .ref b), (1, .ref (gx_ad L v1)), (2, .int v2), (3, .int v3)] → K82 v1 v2 v3 I → W p l e room_1 s m #[Value.ref b] below meth c H locs 282 2444 (lw_Z below #[Value.ref b] s) (F0 m 82 ls [])) : ∀ (v1 : Nat) (v2 : Int32) (v3 : Int32) (v4 : Int32) (v5 : Int32) (v8 : Int32) (v9 : Int32) (v10 : Int64) (u0 : Int32) (hv1 : kX v1 = 7) (I : gx_M) (H : Heap) (locs : List Loc) (ls : Array Slot), gx_S L 282 (cellX L I) s.heap H locs → lv_has ls 15 [(0, .ref b), (1, .ref (gx_ad L v1)), (2, .int v2), (3, .int v3), (4, .int v4), (5, .int v5), (8, .int v8), (9, .int v9), (10, .long v10)] → wj_L_law_280 (cel nL xs) K82 v1 v2 v3 v4 v5 v8 v9 v10 u0 I → W p l e room_1 s m #[Value.ref b] below meth c H locs 282 2444 (lw_Z below #[Value.ref b] s) (F0 m 280 ls [.int u0]) := by
  have hx := C.1
  have hb := C.2.1
  intro v1 v2 v3 v4 v5 v8 v9 v10 u0 hv1 I H locs ls hM hl h
  unfold wj_L_law_280 at h
  refine lv_istore (lv' := [(12, .int u0), (0, .ref b), (1, .ref (gx_ad L v1)), (2, .int v2), (3, .int v3), (4, .int v4), (5, .int v5), (8, .int v8), (9, .int v9), (10, .long v10)]) hx hb dL_law_280 hl (by decide) rfl (fun ls hl => ?_)
  refine lv_goto (tgt := 408) hx hb dL_law_282 (by decide) ?_
  exact tj_L_law_408 C E hK82 v1 v2 v3 v4 v5 v8 v9 v10 u0 (hv1) I _ _ _ hM (lv_sub hl [1, 2, 3, 4, 5, 6, 7, 8, 9, 0] rfl) h
set_option maxHeartbeats 4000000 in
set_option maxRecDepth 100000 in
theorem tj_L_law_250 (C : gx_C L 282 p s m #[Value.ref b] meth c RL code 15 ret) (E : lx_E L b nL xs s) {K82 : Nat → Int32 → Int32 → gx_M → Prop} (hK82 : ∀ (v1 : Nat) (v2 : Int32) (v3 : Int32) (hv1 : kX v1 = 7) (I : gx_M) (H : Heap) (locs : List Loc) (ls : Array Slot), gx_S L 282 (cellX L I) s.heap H locs → lv_has ls 15 [(0, .ref b), (1, .ref (gx_ad L v1)), (2, .int v2), (3, .int v3)] → K82 v1 v2 v3 I → W p l e room_1 s m #[Value.ref b] below meth c H locs 282 2444 (lw_Z below #[Value.ref b] s) (F0 m 82 ls [])) : ∀ (v1 : Nat) (v2 : Int32) (v3 : Int32) (v4 : Int32) (v5 : Int32) (v8 : Int32) (v9 : Int32) (v10 : Int64) (hv1 : kX v1 = 7) (I : gx_M) (H : Heap) (locs : List Loc) (ls : Array Slot), gx_S L 282 (cellX L I) s.heap H locs → lv_has ls 15 [(0, .ref b), (1, .ref (gx_ad L v1)), (2, .int v2), (3, .int v3), (4, .int v4), (5, .int v5), (8, .int v8), (9, .int v9), (10, .long v10)] → wj_L_law_250 (cel nL xs) K82 v1 v2 v3 v4 v5 v8 v9 v10 I → W p l e room_1 s m #[Value.ref b] below meth c H locs 282 2444 (lw_Z below #[Value.ref b] s) (F0 m 250 ls []) := by
  have hx := C.1
  have hb := C.2.1
  intro v1 v2 v3 v4 v5 v8 v9 v10 hv1 I H locs ls hM hl h
  unfold wj_L_law_250 at h
  refine lv_iconst (v := (0 : Int32)) hx hb dL_law_250 (by decide) ?_
  refine lv_goto (tgt := 280) hx hb dL_law_251 (by decide) ?_
  exact tj_L_law_280 C E hK82 v1 v2 v3 v4 v5 v8 v9 v10 (0 : Int32) (hv1) I _ _ _ hM (lv_sub hl [0, 1, 2, 3, 4, 5, 6, 7, 8] rfl) h
set_option maxHeartbeats 4000000 in
set_option maxRecDepth 100000 in
theorem tj_L_law_238 (C : gx_C L 282 p s m #[Value.ref b] meth c RL code 15 ret) (E : lx_E L b nL xs s) {K82 : Nat → Int32 → Int32 → gx_M → Prop} (hK82 : ∀ (v1 : Nat) (v2 : Int32) (v3 : Int32) (hv1 : kX v1 = 7) (I : gx_M) (H : Heap) (locs : List Loc) (ls : Array Slot), gx_S L 282 (cellX L I) s.heap H locs → lv_has ls 15 [(0, .ref b), (1, .ref (gx_ad L v1)), (2, .int v2), (3, .int v3)] → K82 v1 v2 v3 I → W p l e room_1 s m #[Value.ref b] below meth c H locs 282 2444 (lw_Z below #[Value.ref b] s) (F0 m 82 ls [])) : ∀ (v1 : Nat) (v2 : Int32) (v3 : Int32) (v4 : Int32) (v5 : Int32) (v7 : Int32) (v8 : Int32) (v9 : Int32) (v10 : Int64) (u0 : Int32) (u1 : Int32) (hv1 : kX v1 = 7) (I : gx_M) (H : Heap) (locs : List Loc) (ls : Array Slot), gx_S L 282 (cellX L I) s.heap H locs → lv_has ls 15 [(0, .ref b), (1, .ref (gx_ad L v1)), (2, .int v2), (3, .int v3), (4, .int v4), (5, .int v5), (7, .int v7), (8, .int v8), (9, .int v9), (10, .long v10)] → wj_L_law_238 (cel nL xs) K82 v1 v2 v3 v4 v5 v7 v8 v9 v10 u0 u1 I → W p l e room_1 s m #[Value.ref b] below meth c H locs 282 2444 (lw_Z below #[Value.ref b] s) (F0 m 238 ls [.int u0, .int u1]) := by
  have hx := C.1
  have hb := C.2.1
  intro v1 v2 v3 v4 v5 v7 v8 v9 v10 u0 u1 hv1 I H locs ls hM hl h
  unfold wj_L_law_238 at h
  refine lv_icmp_ne (tgt := 250) hx hb dL_law_238 (by decide) (fun hc => ?_) (fun hc => ?_)
  · replace h := h.2 hc
    exact tj_L_law_250 C E hK82 v1 v2 v3 v4 v5 v8 v9 v10 (hv1) I _ _ _ hM (lv_sub hl [0, 1, 2, 3, 4, 5, 7, 8, 9] rfl) h
  · replace h := h.1 hc
    refine lv_iload hx hb dL_law_241 (lv_at hl 6 rfl) ?_
    refine lv_if_le (tgt := 250) hx hb dL_law_243 (by decide) (fun hc => ?_) (fun hc => ?_)
    · replace h := h.1 hc
      exact tj_L_law_250 C E hK82 v1 v2 v3 v4 v5 v8 v9 v10 (hv1) I _ _ _ hM (lv_sub hl [0, 1, 2, 3, 4, 5, 7, 8, 9] rfl) h
    · replace h := h.2 hc
      refine lv_iconst (v := (1 : Int32)) hx hb dL_law_246 (by decide) ?_
      refine lv_goto (tgt := 280) hx hb dL_law_247 (by decide) ?_
      exact tj_L_law_280 C E hK82 v1 v2 v3 v4 v5 v8 v9 v10 (1 : Int32) (hv1) I _ _ _ hM (lv_sub hl [0, 1, 2, 3, 4, 5, 7, 8, 9] rfl) h
set_option maxHeartbeats 4000000 in
set_option maxRecDepth 100000 in
theorem tj_L_law_279 (C : gx_C L 282 p s m #[Value.ref b] meth c RL code 15 ret) (E : lx_E L b nL xs s) {K82 : Nat → Int32 → Int32 → gx_M → Prop} (hK82 : ∀ (v1 : Nat) (v2 : Int32) (v3 : Int32) (hv1 : kX v1 = 7) (I : gx_M) (H : Heap) (locs : List Loc) (ls : Array Slot), gx_S L 282 (cellX L I) s.heap H locs → lv_has ls 15 [(0, .ref b), (1, .ref (gx_ad L v1)), (2, .int v2), (3, .int v3)] → K82 v1 v2 v3 I → W p l e room_1 s m #[Value.ref b] below meth c H locs 282 2444 (lw_Z below #[Value.ref b] s) (F0 m 82 ls [])) : ∀ (v1 : Nat) (v2 : Int32) (v3 : Int32) (v4 : Int32) (v5 : Int32) (v8 : Int32) (v9 : Int32) (v10 : Int64) (hv1 : kX v1 = 7) (I : gx_M) (H : Heap) (locs : List Loc) (ls : Array Slot), gx_S L 282 (cellX L I) s.heap H locs → lv_has ls 15 [(0, .ref b), (1, .ref (gx_ad L v1)), (2, .int v2), (3, .int v3), (4, .int v4), (5, .int v5), (8, .int v8), (9, .int v9), (10, .long v10)] → wj_L_law_279 (cel nL xs) K82 v1 v2 v3 v4 v5 v8 v9 v10 I → W p l e room_1 s m #[Value.ref b] below meth c H locs 282 2444 (lw_Z below #[Value.ref b] s) (F0 m 279 ls []) := by
  have hx := C.1
  have hb := C.2.1
  intro v1 v2 v3 v4 v5 v8 v9 v10 hv1 I H locs ls hM hl h
  unfold wj_L_law_279 at h
  refine lv_iconst (v := (0 : Int32)) hx hb dL_law_279 (by decide) ?_
  exact tj_L_law_280 C E hK82 v1 v2 v3 v4 v5 v8 v9 v10 (0 : Int32) (hv1) I _ _ _ hM (lv_sub hl [0, 1, 2, 3, 4, 5, 6, 7, 8] rfl) h
set_option maxHeartbeats 4000000 in
set_option maxRecDepth 100000 in
theorem tj_L_law_194 (C : gx_C L 282 p s m #[Value.ref b] meth c RL code 15 ret) (E : lx_E L b nL xs s) {K82 : Nat → Int32 → Int32 → gx_M → Prop} (hK82 : ∀ (v1 : Nat) (v2 : Int32) (v3 : Int32) (hv1 : kX v1 = 7) (I : gx_M) (H : Heap) (locs : List Loc) (ls : Array Slot), gx_S L 282 (cellX L I) s.heap H locs → lv_has ls 15 [(0, .ref b), (1, .ref (gx_ad L v1)), (2, .int v2), (3, .int v3)] → K82 v1 v2 v3 I → W p l e room_1 s m #[Value.ref b] below meth c H locs 282 2444 (lw_Z below #[Value.ref b] s) (F0 m 82 ls [])) : ∀ (v1 : Nat) (v2 : Int32) (v3 : Int32) (v4 : Int32) (v5 : Int32) (v7 : Int32) (v8 : Int32) (v9 : Int32) (v10 : Int64) (u0 : Int32) (u1 : Int32) (u2 : Int32) (u3 : Nat) (hv1 : kX v1 = 7) (hu3 : kX u3 = 7) (I : gx_M) (H : Heap) (locs : List Loc) (ls : Array Slot), gx_S L 282 (cellX L I) s.heap H locs → lv_has ls 15 [(0, .ref b), (1, .ref (gx_ad L v1)), (2, .int v2), (3, .int v3), (4, .int v4), (5, .int v5), (7, .int v7), (8, .int v8), (9, .int v9), (10, .long v10)] → wj_L_law_194 (cel nL xs) K82 v1 v2 v3 v4 v5 v7 v8 v9 v10 u0 u1 u2 u3 I → W p l e room_1 s m #[Value.ref b] below meth c H locs 282 2444 (lw_Z below #[Value.ref b] s) (F0 m 194 ls [.int u0, .int u1, .int u2, .ref (gx_ad L u3)]) := by
  have hx := C.1
  have hb := C.2.1
  intro v1 v2 v3 v4 v5 v7 v8 v9 v10 u0 u1 u2 u3 hv1 hu3 I H locs ls hM hl h
  unfold wj_L_law_194 at h
  refine lv_sipush (v := (180 : Int32)) hx hb dL_law_194 (by decide) ?_
  refine lv_iload hx hb dL_law_197 (lv_at hl 5 rfl) ?_
  refine lv_iconst (v := (5 : Int32)) hx hb dL_law_199 (by decide) ?_
  refine lv_ishr hx hb dL_law_200 ?_
  refine lv_bipush (v := (61 : Int32)) hx hb dL_law_201 (by decide) ?_
  refine gq_backi C hM (gq_runS (As := [.int (v5 >>> ((5 : Int32) &&& 31)), .int (61 : Int32)]) (rest := [.int (180 : Int32), .int u0, .int u1, .int u2, .ref (gx_ad L u3)]) C hM (c_L_low l L (v5 >>> ((5 : Int32) &&& 31)) (61 : Int32) I _ h) k_L_low gw_609 rfl hl.1 rfl (Nat.le_of_ble_eq_true rfl) ⟨⟨rfl, rfl⟩, Nat.le_of_ble_eq_true rfl, Nat.le_of_ble_eq_true rfl⟩ ⟨Nat.le_of_ble_eq_true rfl, Nat.le_of_ble_eq_true rfl⟩ dL_law_203) (fun r1 I1 H locs h hM => ?_)
  refine lv_iadd hx hb dL_law_206 ?_
  refine gq_backi C hM (gq_runV (As := [.int u2, .int u1, .int u0, .int ((180 : Int32) + r1)]) (rest := []) C hM (kX_lt hu3 (by decide)) (cX_7 hu3) rfl (c_X7_addRosette l L u3 hu3 u2 u1 u0 ((180 : Int32) + r1) I1 _ h) k_X7_addRosette gw_331 rfl hl.1 rfl (Nat.le_of_ble_eq_true rfl) ⟨⟨rfl, rfl⟩, Nat.le_of_ble_eq_true rfl, Nat.le_of_ble_eq_true rfl⟩ ⟨Nat.le_of_ble_eq_true rfl, Nat.le_of_ble_eq_true rfl⟩ dL_law_207) (fun r2 I2 H locs h hM => ?_)
  refine lv_istore (lv' := [(13, .int r2), (0, .ref b), (1, .ref (gx_ad L v1)), (2, .int v2), (3, .int v3), (4, .int v4), (5, .int v5), (7, .int v7), (8, .int v8), (9, .int v9), (10, .long v10)]) hx hb dL_law_210 hl (by decide) rfl (fun ls hl => ?_)
  refine lv_iload hx hb dL_law_212 (lv_at hl 0 rfl) ?_
  refine gq_ldc (v := (-1000003 : Int32)) C gw_712 dL_law_214 ?_
  refine lv_icmp_ne (tgt := 254) hx hb dL_law_216 (by decide) (fun hc => ?_) (fun hc => ?_)
  · replace h := h.2 hc
    refine lv_iload hx hb dL_law_254 (lv_at hl 0 rfl) ?_
    refine lv_iload hx hb dL_law_256 (lv_at hl 7 rfl) ?_
    refine lv_icmp_ne (tgt := 279) hx hb dL_law_258 (by decide) (fun hc => ?_) (fun hc => ?_)
    · replace h := h.2 hc
      exact tj_L_law_279 C E hK82 v1 v2 v3 v4 v5 v8 v9 v10 (hv1) I2 _ _ _ hM (lv_sub hl [1, 2, 3, 4, 5, 6, 8, 9, 10] rfl) h
    · replace h := h.1 hc
      refine lv_aload_n hx hb dL_law_261 rfl (lv_at hl 2 rfl) ?_
      refine lv_iload hx hb dL_law_262 (lv_at hl 7 rfl) ?_
      refine lv_iconst (v := (0 : Int32)) hx hb dL_law_264 (by decide) ?_
      refine lv_iconst (v := (5 : Int32)) hx hb dL_law_265 (by decide) ?_
      refine gq_backi C hM (gq_runV (As := [.int v7, .int (0 : Int32), .int (5 : Int32)]) (rest := []) C hM (kX_lt hv1 (by decide)) (cX_7 hv1) rfl (c_X7_gauge l L v1 hv1 v7 (0 : Int32) (5 : Int32) I2 _ h) k_X7_gauge gw_592 rfl hl.1 rfl (Nat.le_of_ble_eq_true rfl) ⟨⟨rfl, rfl⟩, Nat.le_of_ble_eq_true rfl, Nat.le_of_ble_eq_true rfl⟩ ⟨Nat.le_of_ble_eq_true rfl, Nat.le_of_ble_eq_true rfl⟩ dL_law_266) (fun r3 I3 H locs h hM => ?_)
      refine lv_sipush (v := (1000 : Int32)) hx hb dL_law_269 (by decide) ?_
      refine lv_icmp_ne (tgt := 279) hx hb dL_law_272 (by decide) (fun hc => ?_) (fun hc => ?_)
      · replace h := h.2 hc
        exact tj_L_law_279 C E hK82 v1 v2 v3 v4 v5 v8 v9 v10 (hv1) I3 _ _ _ hM (lv_sub hl [1, 2, 3, 4, 5, 6, 8, 9, 10] rfl) h
      · replace h := h.1 hc
        refine lv_iconst (v := (1 : Int32)) hx hb dL_law_275 (by decide) ?_
        refine lv_goto (tgt := 280) hx hb dL_law_276 (by decide) ?_
        exact tj_L_law_280 C E hK82 v1 v2 v3 v4 v5 v8 v9 v10 (1 : Int32) (hv1) I3 _ _ _ hM (lv_sub hl [1, 2, 3, 4, 5, 6, 8, 9, 10] rfl) h
  · replace h := h.1 hc
    refine lv_aload_n hx hb dL_law_219 rfl (lv_at hl 2 rfl) ?_
    refine lv_bipush (v := (9 : Int32)) hx hb dL_law_220 (by decide) ?_
    refine gq_backi C hM (gq_runV (As := [.int (9 : Int32)]) (rest := []) C hM (kX_lt hv1 (by decide)) (cX_7 hv1) rfl (c_X7_count l L v1 hv1 (9 : Int32) I2 _ h) k_X7_count gw_601 rfl hl.1 rfl (Nat.le_of_ble_eq_true rfl) ⟨⟨rfl, rfl⟩, Nat.le_of_ble_eq_true rfl, Nat.le_of_ble_eq_true rfl⟩ ⟨Nat.le_of_ble_eq_true rfl, Nat.le_of_ble_eq_true rfl⟩ dL_law_222) (fun r4 I4 H locs h hM => ?_)
    refine lv_iload hx hb dL_law_225 (lv_at hl 7 rfl) ?_
    refine lv_bipush (v := (8 : Int32)) hx hb dL_law_227 (by decide) ?_
    refine lv_icmp_ne (tgt := 236) hx hb dL_law_229 (by decide) (fun hc => ?_) (fun hc => ?_)
    · replace h := h.2 hc
      refine lv_bipush (v := (6 : Int32)) hx hb dL_law_236 (by decide) ?_
      exact tj_L_law_238 C E hK82 v1 v2 v3 v4 v5 v7 v8 v9 v10 (6 : Int32) r4 (hv1) I4 _ _ _ hM (lv_sub hl [1, 2, 3, 4, 5, 6, 7, 8, 9, 10] rfl) h
    · replace h := h.1 hc
      refine lv_iconst (v := (1 : Int32)) hx hb dL_law_232 (by decide) ?_
      refine lv_goto (tgt := 238) hx hb dL_law_233 (by decide) ?_
      exact tj_L_law_238 C E hK82 v1 v2 v3 v4 v5 v7 v8 v9 v10 (1 : Int32) r4 (hv1) I4 _ _ _ hM (lv_sub hl [1, 2, 3, 4, 5, 6, 7, 8, 9, 10] rfl) h
set_option maxHeartbeats 4000000 in
set_option maxRecDepth 100000 in
theorem tj_L_law_179 (C : gx_C L 282 p s m #[Value.ref b] meth c RL code 15 ret) (E : lx_E L b nL xs s) {K82 : Nat → Int32 → Int32 → gx_M → Prop} (hK82 : ∀ (v1 : Nat) (v2 : Int32) (v3 : Int32) (hv1 : kX v1 = 7) (I : gx_M) (H : Heap) (locs : List Loc) (ls : Array Slot), gx_S L 282 (cellX L I) s.heap H locs → lv_has ls 15 [(0, .ref b), (1, .ref (gx_ad L v1)), (2, .int v2), (3, .int v3)] → K82 v1 v2 v3 I → W p l e room_1 s m #[Value.ref b] below meth c H locs 282 2444 (lw_Z below #[Value.ref b] s) (F0 m 82 ls [])) : ∀ (v1 : Nat) (v2 : Int32) (v3 : Int32) (v4 : Int32) (v5 : Int32) (v7 : Int32) (v8 : Int32) (v9 : Int32) (v10 : Int64) (u0 : Int32) (u1 : Int32) (u2 : Nat) (hv1 : kX v1 = 7) (hu2 : kX u2 = 7) (I : gx_M) (H : Heap) (locs : List Loc) (ls : Array Slot), gx_S L 282 (cellX L I) s.heap H locs → lv_has ls 15 [(0, .ref b), (1, .ref (gx_ad L v1)), (2, .int v2), (3, .int v3), (4, .int v4), (5, .int v5), (7, .int v7), (8, .int v8), (9, .int v9), (10, .long v10)] → wj_L_law_179 (cel nL xs) K82 v1 v2 v3 v4 v5 v7 v8 v9 v10 u0 u1 u2 I → W p l e room_1 s m #[Value.ref b] below meth c H locs 282 2444 (lw_Z below #[Value.ref b] s) (F0 m 179 ls [.int u0, .int u1, .ref (gx_ad L u2)]) := by
  have hx := C.1
  have hb := C.2.1
  intro v1 v2 v3 v4 v5 v7 v8 v9 v10 u0 u1 u2 hv1 hu2 I H locs ls hM hl h
  unfold wj_L_law_179 at h
  refine lv_iload hx hb dL_law_179 (lv_at hl 4 rfl) ?_
  refine lv_iconst (v := (2 : Int32)) hx hb dL_law_181 (by decide) ?_
  refine lv_iand hx hb dL_law_182 ?_
  refine lv_if_ne (tgt := 191) hx hb dL_law_183 (by decide) (fun hc => ?_) (fun hc => ?_)
  · replace h := h.2 hc
    refine lv_sipush (v := (350 : Int32)) hx hb dL_law_191 (by decide) ?_
    exact tj_L_law_194 C E hK82 v1 v2 v3 v4 v5 v7 v8 v9 v10 (350 : Int32) u0 u1 u2 (hv1) (hu2) I _ _ _ hM (lv_sub hl [0, 1, 2, 3, 4, 5, 6, 7, 8, 9] rfl) h
  · replace h := h.1 hc
    refine lv_bipush (v := (120 : Int32)) hx hb dL_law_186 (by decide) ?_
    refine lv_goto (tgt := 194) hx hb dL_law_188 (by decide) ?_
    exact tj_L_law_194 C E hK82 v1 v2 v3 v4 v5 v7 v8 v9 v10 (120 : Int32) u0 u1 u2 (hv1) (hu2) I _ _ _ hM (lv_sub hl [0, 1, 2, 3, 4, 5, 6, 7, 8, 9] rfl) h
set_option maxHeartbeats 4000000 in
set_option maxRecDepth 100000 in
theorem tj_L_law_157 (C : gx_C L 282 p s m #[Value.ref b] meth c RL code 15 ret) (E : lx_E L b nL xs s) {K82 : Nat → Int32 → Int32 → gx_M → Prop} (hK82 : ∀ (v1 : Nat) (v2 : Int32) (v3 : Int32) (hv1 : kX v1 = 7) (I : gx_M) (H : Heap) (locs : List Loc) (ls : Array Slot), gx_S L 282 (cellX L I) s.heap H locs → lv_has ls 15 [(0, .ref b), (1, .ref (gx_ad L v1)), (2, .int v2), (3, .int v3)] → K82 v1 v2 v3 I → W p l e room_1 s m #[Value.ref b] below meth c H locs 282 2444 (lw_Z below #[Value.ref b] s) (F0 m 82 ls [])) : ∀ (v1 : Nat) (v2 : Int32) (v3 : Int32) (v4 : Int32) (v5 : Int32) (v7 : Int32) (v8 : Int32) (v9 : Int32) (v10 : Int64) (hv1 : kX v1 = 7) (I : gx_M) (H : Heap) (locs : List Loc) (ls : Array Slot), gx_S L 282 (cellX L I) s.heap H locs → lv_has ls 15 [(0, .ref b), (1, .ref (gx_ad L v1)), (2, .int v2), (3, .int v3), (4, .int v4), (5, .int v5), (7, .int v7), (8, .int v8), (9, .int v9), (10, .long v10)] → wj_L_law_157 (cel nL xs) K82 v1 v2 v3 v4 v5 v7 v8 v9 v10 I → W p l e room_1 s m #[Value.ref b] below meth c H locs 282 2444 (lw_Z below #[Value.ref b] s) (F0 m 157 ls []) := by
  have hx := C.1
  have hb := C.2.1
  intro v1 v2 v3 v4 v5 v7 v8 v9 v10 hv1 I H locs ls hM hl h
  unfold wj_L_law_157 at h
  refine lv_aload_n hx hb dL_law_157 rfl (lv_at hl 1 rfl) ?_
  refine lv_iload hx hb dL_law_158 (lv_at hl 5 rfl) ?_
  refine lv_sipush (v := (1001 : Int32)) hx hb dL_law_160 (by decide) ?_
  refine gq_backi C hM (gq_runS (As := [.int v5, .int (1001 : Int32)]) (rest := [.ref (gx_ad L v1)]) C hM (c_L_low l L v5 (1001 : Int32) I _ h) k_L_low gw_609 rfl hl.1 rfl (Nat.le_of_ble_eq_true rfl) ⟨⟨rfl, rfl⟩, Nat.le_of_ble_eq_true rfl, Nat.le_of_ble_eq_true rfl⟩ ⟨Nat.le_of_ble_eq_true rfl, Nat.le_of_ble_eq_true rfl⟩ dL_law_163) (fun r1 I1 H locs h hM => ?_)
  refine lv_iload hx hb dL_law_166 (lv_at hl 4 rfl) ?_
  refine lv_iconst (v := (1 : Int32)) hx hb dL_law_168 (by decide) ?_
  refine lv_iand hx hb dL_law_169 ?_
  refine lv_iconst (v := (1 : Int32)) hx hb dL_law_170 (by decide) ?_
  refine lv_icmp_ne (tgt := 178) hx hb dL_law_171 (by decide) (fun hc => ?_) (fun hc => ?_)
  · replace h := h.2 hc
    refine lv_iconst (v := (0 : Int32)) hx hb dL_law_178 (by decide) ?_
    exact tj_L_law_179 C E hK82 v1 v2 v3 v4 v5 v7 v8 v9 v10 (0 : Int32) r1 v1 (hv1) (hv1) I1 _ _ _ hM (lv_sub hl [0, 1, 2, 3, 4, 5, 6, 7, 8, 9] rfl) h
  · replace h := h.1 hc
    refine lv_iconst (v := (1 : Int32)) hx hb dL_law_174 (by decide) ?_
    refine lv_goto (tgt := 179) hx hb dL_law_175 (by decide) ?_
    exact tj_L_law_179 C E hK82 v1 v2 v3 v4 v5 v7 v8 v9 v10 (1 : Int32) r1 v1 (hv1) (hv1) I1 _ _ _ hM (lv_sub hl [0, 1, 2, 3, 4, 5, 6, 7, 8, 9] rfl) h
set_option maxHeartbeats 4000000 in
set_option maxRecDepth 100000 in
theorem tj_L_law_390 (C : gx_C L 282 p s m #[Value.ref b] meth c RL code 15 ret) (E : lx_E L b nL xs s) {K82 : Nat → Int32 → Int32 → gx_M → Prop} (hK82 : ∀ (v1 : Nat) (v2 : Int32) (v3 : Int32) (hv1 : kX v1 = 7) (I : gx_M) (H : Heap) (locs : List Loc) (ls : Array Slot), gx_S L 282 (cellX L I) s.heap H locs → lv_has ls 15 [(0, .ref b), (1, .ref (gx_ad L v1)), (2, .int v2), (3, .int v3)] → K82 v1 v2 v3 I → W p l e room_1 s m #[Value.ref b] below meth c H locs 282 2444 (lw_Z below #[Value.ref b] s) (F0 m 82 ls [])) : ∀ (v1 : Nat) (v2 : Int32) (v3 : Int32) (v4 : Int32) (v5 : Int32) (v8 : Int32) (v9 : Int32) (v10 : Int64) (v14 : Int32) (u0 : Int32) (hv1 : kX v1 = 7) (I : gx_M) (H : Heap) (locs : List Loc) (ls : Array Slot), gx_S L 282 (cellX L I) s.heap H locs → lv_has ls 15 [(0, .ref b), (1, .ref (gx_ad L v1)), (2, .int v2), (3, .int v3), (4, .int v4), (5, .int v5), (8, .int v8), (9, .int v9), (10, .long v10), (14, .int v14)] → wj_L_law_390 (cel nL xs) K82 v1 v2 v3 v4 v5 v8 v9 v10 v14 u0 I → W p l e room_1 s m #[Value.ref b] below meth c H locs 282 2444 (lw_Z below #[Value.ref b] s) (F0 m 390 ls [.int u0]) := by
  have hx := C.1
  have hb := C.2.1
  intro v1 v2 v3 v4 v5 v8 v9 v10 v14 u0 hv1 I H locs ls hM hl h
  unfold wj_L_law_390 at h
  refine lv_istore (lv' := [(12, .int u0), (0, .ref b), (1, .ref (gx_ad L v1)), (2, .int v2), (3, .int v3), (4, .int v4), (5, .int v5), (8, .int v8), (9, .int v9), (10, .long v10), (14, .int v14)]) hx hb dL_law_390 hl (by decide) rfl (fun ls hl => ?_)
  refine lv_iload_n hx hb dL_law_392 rfl (lv_at hl 3 rfl) ?_
  refine lv_iload hx hb dL_law_393 (lv_at hl 10 rfl) ?_
  refine lv_iadd hx hb dL_law_395 ?_
  refine lv_topi (fun x1 ex1 => ?_)
  replace h := h x1 ex1
  refine lv_istore_n (lv' := [(2, .int x1), (12, .int u0), (0, .ref b), (1, .ref (gx_ad L v1)), (3, .int v3), (4, .int v4), (5, .int v5), (8, .int v8), (9, .int v9), (10, .long v10), (14, .int v14)]) hx hb dL_law_396 rfl hl (by decide) rfl (fun ls hl => ?_)
  refine lv_goto (tgt := 408) hx hb dL_law_397 (by decide) ?_
  exact tj_L_law_408 C E hK82 v1 x1 v3 v4 v5 v8 v9 v10 u0 (hv1) I _ _ _ hM (lv_sub hl [2, 3, 0, 4, 5, 6, 7, 8, 9, 1] rfl) h
set_option maxHeartbeats 4000000 in
set_option maxRecDepth 100000 in
theorem tj_L_law_389 (C : gx_C L 282 p s m #[Value.ref b] meth c RL code 15 ret) (E : lx_E L b nL xs s) {K82 : Nat → Int32 → Int32 → gx_M → Prop} (hK82 : ∀ (v1 : Nat) (v2 : Int32) (v3 : Int32) (hv1 : kX v1 = 7) (I : gx_M) (H : Heap) (locs : List Loc) (ls : Array Slot), gx_S L 282 (cellX L I) s.heap H locs → lv_has ls 15 [(0, .ref b), (1, .ref (gx_ad L v1)), (2, .int v2), (3, .int v3)] → K82 v1 v2 v3 I → W p l e room_1 s m #[Value.ref b] below meth c H locs 282 2444 (lw_Z below #[Value.ref b] s) (F0 m 82 ls [])) : ∀ (v1 : Nat) (v2 : Int32) (v3 : Int32) (v4 : Int32) (v5 : Int32) (v8 : Int32) (v9 : Int32) (v10 : Int64) (v14 : Int32) (hv1 : kX v1 = 7) (I : gx_M) (H : Heap) (locs : List Loc) (ls : Array Slot), gx_S L 282 (cellX L I) s.heap H locs → lv_has ls 15 [(0, .ref b), (1, .ref (gx_ad L v1)), (2, .int v2), (3, .int v3), (4, .int v4), (5, .int v5), (8, .int v8), (9, .int v9), (10, .long v10), (14, .int v14)] → wj_L_law_389 (cel nL xs) K82 v1 v2 v3 v4 v5 v8 v9 v10 v14 I → W p l e room_1 s m #[Value.ref b] below meth c H locs 282 2444 (lw_Z below #[Value.ref b] s) (F0 m 389 ls []) := by
  have hx := C.1
  have hb := C.2.1
  intro v1 v2 v3 v4 v5 v8 v9 v10 v14 hv1 I H locs ls hM hl h
  unfold wj_L_law_389 at h
  refine lv_iconst (v := (0 : Int32)) hx hb dL_law_389 (by decide) ?_
  exact tj_L_law_390 C E hK82 v1 v2 v3 v4 v5 v8 v9 v10 v14 (0 : Int32) (hv1) I _ _ _ hM (lv_sub hl [0, 1, 2, 3, 4, 5, 6, 7, 8, 9] rfl) h
set_option maxHeartbeats 4000000 in
set_option maxRecDepth 100000 in
theorem tj_L_law_371 (C : gx_C L 282 p s m #[Value.ref b] meth c RL code 15 ret) (E : lx_E L b nL xs s) {K82 : Nat → Int32 → Int32 → gx_M → Prop} (hK82 : ∀ (v1 : Nat) (v2 : Int32) (v3 : Int32) (hv1 : kX v1 = 7) (I : gx_M) (H : Heap) (locs : List Loc) (ls : Array Slot), gx_S L 282 (cellX L I) s.heap H locs → lv_has ls 15 [(0, .ref b), (1, .ref (gx_ad L v1)), (2, .int v2), (3, .int v3)] → K82 v1 v2 v3 I → W p l e room_1 s m #[Value.ref b] below meth c H locs 282 2444 (lw_Z below #[Value.ref b] s) (F0 m 82 ls [])) : ∀ (v1 : Nat) (v2 : Int32) (v3 : Int32) (v4 : Int32) (v5 : Int32) (v8 : Int32) (v9 : Int32) (v10 : Int64) (v13 : Int32) (v14 : Int32) (u0 : Int32) (u1 : Int32) (hv1 : kX v1 = 7) (I : gx_M) (H : Heap) (locs : List Loc) (ls : Array Slot), gx_S L 282 (cellX L I) s.heap H locs → lv_has ls 15 [(0, .ref b), (1, .ref (gx_ad L v1)), (2, .int v2), (3, .int v3), (4, .int v4), (5, .int v5), (8, .int v8), (9, .int v9), (10, .long v10), (13, .int v13), (14, .int v14)] → wj_L_law_371 (cel nL xs) K82 v1 v2 v3 v4 v5 v8 v9 v10 v13 v14 u0 u1 I → W p l e room_1 s m #[Value.ref b] below meth c H locs 282 2444 (lw_Z below #[Value.ref b] s) (F0 m 371 ls [.int u0, .int u1]) := by
  have hx := C.1
  have hb := C.2.1
  intro v1 v2 v3 v4 v5 v8 v9 v10 v13 v14 u0 u1 hv1 I H locs ls hM hl h
  unfold wj_L_law_371 at h
  refine lv_icmp_ne (tgt := 389) hx hb dL_law_371 (by decide) (fun hc => ?_) (fun hc => ?_)
  · replace h := h.2 hc
    exact tj_L_law_389 C E hK82 v1 v2 v3 v4 v5 v8 v9 v10 v14 (hv1) I _ _ _ hM (lv_sub hl [0, 1, 2, 3, 4, 5, 6, 7, 8, 10] rfl) h
  · replace h := h.1 hc
    refine lv_aload_n hx hb dL_law_374 rfl (lv_at hl 1 rfl) ?_
    refine lv_iload hx hb dL_law_375 (lv_at hl 9 rfl) ?_
    refine lv_bipush (v := (11 : Int32)) hx hb dL_law_377 (by decide) ?_
    refine gq_backi C hM (gq_runV (As := [.int v13, .int (11 : Int32)]) (rest := []) C hM (kX_lt hv1 (by decide)) (cX_7 hv1) rfl (c_X7_rosette l L v1 hv1 v13 (11 : Int32) I _ h) k_X7_rosette gw_588 rfl hl.1 rfl (Nat.le_of_ble_eq_true rfl) ⟨⟨rfl, rfl⟩, Nat.le_of_ble_eq_true rfl, Nat.le_of_ble_eq_true rfl⟩ ⟨Nat.le_of_ble_eq_true rfl, Nat.le_of_ble_eq_true rfl⟩ dL_law_379) (fun r1 I1 H locs h hM => ?_)
    refine lv_if_ne (tgt := 389) hx hb dL_law_382 (by decide) (fun hc => ?_) (fun hc => ?_)
    · replace h := h.2 hc
      exact tj_L_law_389 C E hK82 v1 v2 v3 v4 v5 v8 v9 v10 v14 (hv1) I1 _ _ _ hM (lv_sub hl [0, 1, 2, 3, 4, 5, 6, 7, 8, 10] rfl) h
    · replace h := h.1 hc
      refine lv_iconst (v := (1 : Int32)) hx hb dL_law_385 (by decide) ?_
      refine lv_goto (tgt := 390) hx hb dL_law_386 (by decide) ?_
      exact tj_L_law_390 C E hK82 v1 v2 v3 v4 v5 v8 v9 v10 v14 (1 : Int32) (hv1) I1 _ _ _ hM (lv_sub hl [0, 1, 2, 3, 4, 5, 6, 7, 8, 10] rfl) h
set_option maxHeartbeats 4000000 in
set_option maxRecDepth 100000 in
theorem tl_L_law_82 (C : gx_C L 282 p s m #[Value.ref b] meth c RL code 15 ret) (E : lx_E L b nL xs s) : ∀ (fu : Nat) (v1 : Nat) (v2 : Int32) (v3 : Int32) (hv1 : kX v1 = 7) (I : gx_M) (H : Heap) (locs : List Loc) (ls : Array Slot), gx_S L 282 (cellX L I) s.heap H locs → lv_has ls 15 [(0, .ref b), (1, .ref (gx_ad L v1)), (2, .int v2), (3, .int v3)] → wl_L_law_82 (cel nL xs) fu v1 v2 v3 I → W p l e room_1 s m #[Value.ref b] below meth c H locs 282 2444 (lw_Z below #[Value.ref b] s) (F0 m 82 ls []) := by
  have hx := C.1
  have hb := C.2.1
  intro fu
  induction fu with
  | zero => intros; rename_i h; exact False.elim h
  | succ fu ih =>
    intro v1 v2 v3 hv1 I H locs ls hM hl h
    rw [wl_L_law_82] at h
    refine lv_iload_n hx hb dL_law_82 rfl (lv_at hl 3 rfl) ?_
    refine lv_bipush (v := (24 : Int32)) hx hb dL_law_83 (by decide) ?_
    refine lv_icmp_ge (tgt := 519) hx hb dL_law_85 (by decide) (fun hc => ?_) (fun hc => ?_)
    · replace h := h.1 hc
      refine lv_iconst (v := (1 : Int32)) hx hb dL_law_519 (by decide) ?_
      exact lx_end C E hM dL_law_520
    · replace h := h.2 hc
      refine lv_aload_n hx hb dL_law_88 rfl (lv_at hl 0 rfl) ?_
      refine lv_iconst (v := (2 : Int32)) hx hb dL_law_89 (by decide) ?_
      refine lv_iload_n hx hb dL_law_90 rfl (lv_at hl 3 rfl) ?_
      refine lv_imul hx hb dL_law_91 ?_
      have hi := h.1
      replace h := h.2
      refine lx_cell (rest := []) C E hM hi gw_605 hl.1 rfl (Nat.le_of_ble_eq_true rfl) ⟨Nat.le_of_ble_eq_true rfl, Nat.le_of_ble_eq_true rfl⟩ ⟨Nat.le_of_ble_eq_true rfl, Nat.le_of_ble_eq_true rfl⟩ dL_law_92 (fun r1 H locs er1 hM => ?_)
      replace h := h r1 er1
      refine lv_istore (lv' := [(4, .int r1), (0, .ref b), (1, .ref (gx_ad L v1)), (2, .int v2), (3, .int v3)]) hx hb dL_law_95 hl (by decide) rfl (fun ls hl => ?_)
      refine lv_aload_n hx hb dL_law_97 rfl (lv_at hl 1 rfl) ?_
      refine lv_iconst (v := (2 : Int32)) hx hb dL_law_98 (by decide) ?_
      refine lv_iload_n hx hb dL_law_99 rfl (lv_at hl 4 rfl) ?_
      refine lv_imul hx hb dL_law_100 ?_
      refine lv_iconst (v := (1 : Int32)) hx hb dL_law_101 (by decide) ?_
      refine lv_iadd hx hb dL_law_102 ?_
      have hi := h.1
      replace h := h.2
      refine lx_cell (rest := []) C E hM hi gw_605 hl.1 rfl (Nat.le_of_ble_eq_true rfl) ⟨Nat.le_of_ble_eq_true rfl, Nat.le_of_ble_eq_true rfl⟩ ⟨Nat.le_of_ble_eq_true rfl, Nat.le_of_ble_eq_true rfl⟩ dL_law_103 (fun r2 H locs er2 hM => ?_)
      replace h := h r2 er2
      refine lv_istore (lv' := [(5, .int r2), (4, .int r1), (0, .ref b), (1, .ref (gx_ad L v1)), (2, .int v2), (3, .int v3)]) hx hb dL_law_106 hl (by decide) rfl (fun ls hl => ?_)
      refine lv_iload hx hb dL_law_108 (lv_at hl 1 rfl) ?_
      refine lv_bipush (v := (9 : Int32)) hx hb dL_law_110 (by decide) ?_
      refine lv_ishr hx hb dL_law_112 ?_
      refine lv_bipush (v := (14 : Int32)) hx hb dL_law_113 (by decide) ?_
      refine gq_backi C hM (gq_runS (As := [.int (r1 >>> ((9 : Int32) &&& 31)), .int (14 : Int32)]) (rest := []) C hM (c_L_low l L (r1 >>> ((9 : Int32) &&& 31)) (14 : Int32) I _ h) k_L_low gw_609 rfl hl.1 rfl (Nat.le_of_ble_eq_true rfl) ⟨⟨rfl, rfl⟩, Nat.le_of_ble_eq_true rfl, Nat.le_of_ble_eq_true rfl⟩ ⟨Nat.le_of_ble_eq_true rfl, Nat.le_of_ble_eq_true rfl⟩ dL_law_115) (fun r3 I1 H locs h hM => ?_)
      refine lv_istore (lv' := [(6, .int r3), (5, .int r2), (4, .int r1), (0, .ref b), (1, .ref (gx_ad L v1)), (2, .int v2), (3, .int v3)]) hx hb dL_law_118 hl (by decide) rfl (fun ls hl => ?_)
      refine lv_aload_n hx hb dL_law_120 rfl (lv_at hl 4 rfl) ?_
      refine lv_iconst (v := (0 : Int32)) hx hb dL_law_121 (by decide) ?_
      refine gq_backi C hM (gq_runV (As := [.int (0 : Int32)]) (rest := []) C hM (kX_lt hv1 (by decide)) (cX_7 hv1) rfl (c_X7_count l L v1 hv1 (0 : Int32) I1 _ h) k_X7_count gw_601 rfl hl.1 rfl (Nat.le_of_ble_eq_true rfl) ⟨⟨rfl, rfl⟩, Nat.le_of_ble_eq_true rfl, Nat.le_of_ble_eq_true rfl⟩ ⟨Nat.le_of_ble_eq_true rfl, Nat.le_of_ble_eq_true rfl⟩ dL_law_122) (fun r4 I2 H locs h hM => ?_)
      refine lv_istore (lv' := [(7, .int r4), (6, .int r3), (5, .int r2), (4, .int r1), (0, .ref b), (1, .ref (gx_ad L v1)), (2, .int v2), (3, .int v3)]) hx hb dL_law_125 hl (by decide) rfl (fun ls hl => ?_)
      refine lv_aload_n hx hb dL_law_127 rfl (lv_at hl 5 rfl) ?_
      refine lv_bipush (v := (10 : Int32)) hx hb dL_law_128 (by decide) ?_
      refine gq_backi C hM (gq_runV (As := [.int (10 : Int32)]) (rest := []) C hM (kX_lt hv1 (by decide)) (cX_7 hv1) rfl (c_X7_count l L v1 hv1 (10 : Int32) I2 _ h) k_X7_count gw_601 rfl hl.1 rfl (Nat.le_of_ble_eq_true rfl) ⟨⟨rfl, rfl⟩, Nat.le_of_ble_eq_true rfl, Nat.le_of_ble_eq_true rfl⟩ ⟨Nat.le_of_ble_eq_true rfl, Nat.le_of_ble_eq_true rfl⟩ dL_law_130) (fun r5 I3 H locs h hM => ?_)
      refine lv_istore (lv' := [(8, .int r5), (7, .int r4), (6, .int r3), (5, .int r2), (4, .int r1), (0, .ref b), (1, .ref (gx_ad L v1)), (2, .int v2), (3, .int v3)]) hx hb dL_law_133 hl (by decide) rfl (fun ls hl => ?_)
      refine lv_iload_n hx hb dL_law_135 rfl (lv_at hl 7 rfl) ?_
      refine lv_istore (lv' := [(9, .int v2), (8, .int r5), (7, .int r4), (6, .int r3), (5, .int r2), (4, .int r1), (0, .ref b), (1, .ref (gx_ad L v1)), (2, .int v2), (3, .int v3)]) hx hb dL_law_136 hl (by decide) rfl (fun ls hl => ?_)
      refine lv_aload_n hx hb dL_law_138 rfl (lv_at hl 7 rfl) ?_
      refine gq_backl C hM (gq_runS (As := [.ref (gx_ad L v1)]) (rest := []) C hM (c_L_digest l L v1 hv1 I3 _ h) k_L_digest gw_613 rfl hl.1 rfl (Nat.le_of_ble_eq_true rfl) ⟨⟨rfl, rfl⟩, Nat.le_of_ble_eq_true rfl, Nat.le_of_ble_eq_true rfl⟩ ⟨Nat.le_of_ble_eq_true rfl, Nat.le_of_ble_eq_true rfl⟩ dL_law_139) (fun r6 I4 H locs h hM => ?_)
      refine lv_lstore (lv' := [(10, .long r6), (9, .int v2), (8, .int r5), (7, .int r4), (6, .int r3), (5, .int r2), (4, .int r1), (0, .ref b), (1, .ref (gx_ad L v1)), (2, .int v2), (3, .int v3)]) hx hb dL_law_142 hl (by decide) rfl (fun ls hl => ?_)
      refine lv_iconst (v := (1 : Int32)) hx hb dL_law_144 (by decide) ?_
      refine lv_istore (lv' := [(12, .int (1 : Int32)), (10, .long r6), (9, .int v2), (8, .int r5), (7, .int r4), (6, .int r3), (5, .int r2), (4, .int r1), (0, .ref b), (1, .ref (gx_ad L v1)), (2, .int v2), (3, .int v3)]) hx hb dL_law_145 hl (by decide) rfl (fun ls hl => ?_)
      refine lv_iload hx hb dL_law_147 (lv_at hl 4 rfl) ?_
      refine lv_if_eq (tgt := 157) hx hb dL_law_149 (by decide) (fun hc => ?_) (fun hc => ?_)
      · replace h := h.1 hc
        exact tj_L_law_157 C E ih v1 v2 v3 r1 r2 r4 r5 v2 r6 (hv1) I4 _ _ _ hM (lv_sub hl [8, 9, 10, 11, 7, 6, 4, 3, 2, 1] rfl) h
      · replace h := h.2 hc
        refine lv_iload hx hb dL_law_152 (lv_at hl 5 rfl) ?_
        refine lv_if_ne (tgt := 285) hx hb dL_law_154 (by decide) (fun hc => ?_) (fun hc => ?_)
        · replace h := h.2 hc
          refine lv_iload hx hb dL_law_285 (lv_at hl 5 rfl) ?_
          refine lv_bipush (v := (6 : Int32)) hx hb dL_law_287 (by decide) ?_
          refine lv_icmp_ge (tgt := 307) hx hb dL_law_289 (by decide) (fun hc => ?_) (fun hc => ?_)
          · replace h := h.1 hc
            refine lv_iload hx hb dL_law_307 (lv_at hl 5 rfl) ?_
            refine lv_bipush (v := (11 : Int32)) hx hb dL_law_309 (by decide) ?_
            refine lv_icmp_ge (tgt := 327) hx hb dL_law_311 (by decide) (fun hc => ?_) (fun hc => ?_)
            · replace h := h.1 hc
              refine lv_iload hx hb dL_law_327 (lv_at hl 5 rfl) ?_
              refine lv_bipush (v := (11 : Int32)) hx hb dL_law_329 (by decide) ?_
              refine lv_icmp_ne (tgt := 400) hx hb dL_law_331 (by decide) (fun hc => ?_) (fun hc => ?_)
              · replace h := h.2 hc
                refine lv_aload_n hx hb dL_law_400 rfl (lv_at hl 9 rfl) ?_
                refine lv_iload hx hb dL_law_401 (lv_at hl 6 rfl) ?_
                refine gq_backi C hM (gq_runS (As := [.ref (gx_ad L v1), .int r2]) (rest := []) C hM (c_L_works l L v1 hv1 r2 I4 _ h) k_L_works gw_663 rfl hl.1 rfl (Nat.le_of_ble_eq_true rfl) ⟨⟨rfl, rfl⟩, Nat.le_of_ble_eq_true rfl, Nat.le_of_ble_eq_true rfl⟩ ⟨Nat.le_of_ble_eq_true rfl, Nat.le_of_ble_eq_true rfl⟩ dL_law_403) (fun r7 I5 H locs h hM => ?_)
                obtain ⟨hz1, h⟩ := h
                refine lv_istore (lv' := [(12, .int r7), (10, .long r6), (9, .int v2), (8, .int r5), (7, .int r4), (6, .int r3), (5, .int r2), (4, .int r1), (0, .ref b), (1, .ref (gx_ad L v1)), (2, .int v2), (3, .int v3)]) hx hb dL_law_406 hl (by decide) rfl (fun ls hl => ?_)
                exact tj_L_law_408 C E ih v1 v2 v3 r1 r2 r5 v2 r6 r7 (hv1) I5 _ _ _ hM (lv_sub hl [8, 9, 10, 11, 7, 6, 3, 2, 1, 0] rfl) h
              · replace h := h.1 hc
                refine lv_iload hx hb dL_law_334 (lv_at hl 6 rfl) ?_
                refine lv_iload hx hb dL_law_336 (lv_at hl 4 rfl) ?_
                refine gq_backi C hM (gq_runS (As := [.int r2, .int r4]) (rest := []) C hM (c_L_low l L r2 r4 I4 _ h) k_L_low gw_609 rfl hl.1 rfl (Nat.le_of_ble_eq_true rfl) ⟨⟨rfl, rfl⟩, Nat.le_of_ble_eq_true rfl, Nat.le_of_ble_eq_true rfl⟩ ⟨Nat.le_of_ble_eq_true rfl, Nat.le_of_ble_eq_true rfl⟩ dL_law_338) (fun r8 I6 H locs h hM => ?_)
                refine lv_istore (lv' := [(13, .int r8), (12, .int (1 : Int32)), (10, .long r6), (9, .int v2), (8, .int r5), (7, .int r4), (6, .int r3), (5, .int r2), (4, .int r1), (0, .ref b), (1, .ref (gx_ad L v1)), (2, .int v2), (3, .int v3)]) hx hb dL_law_341 hl (by decide) rfl (fun ls hl => ?_)
                refine lv_aload_n hx hb dL_law_343 rfl (lv_at hl 10 rfl) ?_
                refine lv_iload hx hb dL_law_344 (lv_at hl 0 rfl) ?_
                refine lv_bipush (v := (11 : Int32)) hx hb dL_law_346 (by decide) ?_
                refine gq_backi C hM (gq_runV (As := [.int r8, .int (11 : Int32)]) (rest := []) C hM (kX_lt hv1 (by decide)) (cX_7 hv1) rfl (c_X7_rosette l L v1 hv1 r8 (11 : Int32) I6 _ h) k_X7_rosette gw_588 rfl hl.1 rfl (Nat.le_of_ble_eq_true rfl) ⟨⟨rfl, rfl⟩, Nat.le_of_ble_eq_true rfl, Nat.le_of_ble_eq_true rfl⟩ ⟨Nat.le_of_ble_eq_true rfl, Nat.le_of_ble_eq_true rfl⟩ dL_law_348) (fun r9 I7 H locs h hM => ?_)
                refine lv_istore (lv' := [(14, .int r9), (13, .int r8), (12, .int (1 : Int32)), (10, .long r6), (9, .int v2), (8, .int r5), (7, .int r4), (6, .int r3), (5, .int r2), (4, .int r1), (0, .ref b), (1, .ref (gx_ad L v1)), (2, .int v2), (3, .int v3)]) hx hb dL_law_351 hl (by decide) rfl (fun ls hl => ?_)
                refine lv_aload_n hx hb dL_law_353 rfl (lv_at hl 11 rfl) ?_
                refine lv_iload hx hb dL_law_354 (lv_at hl 1 rfl) ?_
                refine gq_backi C hM (gq_runV (As := [.int r8]) (rest := []) C hM (kX_lt hv1 (by decide)) (cX_7 hv1) rfl (c_X7_cancel l L v1 hv1 r8 I7 _ h) k_X7_cancel gw_383 rfl hl.1 rfl (Nat.le_of_ble_eq_true rfl) ⟨⟨rfl, rfl⟩, Nat.le_of_ble_eq_true rfl, Nat.le_of_ble_eq_true rfl⟩ ⟨Nat.le_of_ble_eq_true rfl, Nat.le_of_ble_eq_true rfl⟩ dL_law_356) (fun r10 I8 H locs h hM => ?_)
                refine lv_iload hx hb dL_law_359 (lv_at hl 0 rfl) ?_
                refine lv_if_ne (tgt := 369) hx hb dL_law_361 (by decide) (fun hc => ?_) (fun hc => ?_)
                · replace h := h.2 hc
                  refine lv_iload hx hb dL_law_369 (lv_at hl 0 rfl) ?_
                  exact tj_L_law_371 C E ih v1 v2 v3 r1 r2 r5 v2 r6 r8 r9 r9 r10 (hv1) I8 _ _ _ hM (lv_sub hl [10, 11, 12, 13, 9, 8, 5, 4, 3, 1, 0] rfl) h
                · replace h := h.1 hc
                  refine gq_ldc (v := (-1000004 : Int32)) C gw_659 dL_law_364 ?_
                  refine lv_goto (tgt := 371) hx hb dL_law_366 (by decide) ?_
                  exact tj_L_law_371 C E ih v1 v2 v3 r1 r2 r5 v2 r6 r8 r9 (-1000004 : Int32) r10 (hv1) I8 _ _ _ hM (lv_sub hl [10, 11, 12, 13, 9, 8, 5, 4, 3, 1, 0] rfl) h
            · replace h := h.2 hc
              refine lv_aload_n hx hb dL_law_314 rfl (lv_at hl 9 rfl) ?_
              refine lv_iload hx hb dL_law_315 (lv_at hl 7 rfl) ?_
              refine lv_iload hx hb dL_law_317 (lv_at hl 6 rfl) ?_
              refine gq_backi C hM (gq_runS (As := [.ref (gx_ad L v1), .int r1, .int r2]) (rest := []) C hM (c_L_asks l L v1 hv1 r1 r2 I4 _ h) k_L_asks gw_705 rfl hl.1 rfl (Nat.le_of_ble_eq_true rfl) ⟨⟨rfl, rfl⟩, Nat.le_of_ble_eq_true rfl, Nat.le_of_ble_eq_true rfl⟩ ⟨Nat.le_of_ble_eq_true rfl, Nat.le_of_ble_eq_true rfl⟩ dL_law_319) (fun r11 I9 H locs h hM => ?_)
              obtain ⟨hz2, h⟩ := h
              refine lv_istore (lv' := [(12, .int r11), (10, .long r6), (9, .int v2), (8, .int r5), (7, .int r4), (6, .int r3), (5, .int r2), (4, .int r1), (0, .ref b), (1, .ref (gx_ad L v1)), (2, .int v2), (3, .int v3)]) hx hb dL_law_322 hl (by decide) rfl (fun ls hl => ?_)
              refine lv_goto (tgt := 408) hx hb dL_law_324 (by decide) ?_
              exact tj_L_law_408 C E ih v1 v2 v3 r1 r2 r5 v2 r6 r11 (hv1) I9 _ _ _ hM (lv_sub hl [8, 9, 10, 11, 7, 6, 3, 2, 1, 0] rfl) h
          · replace h := h.2 hc
            refine lv_aload_n hx hb dL_law_292 rfl (lv_at hl 9 rfl) ?_
            refine lv_iload hx hb dL_law_293 (lv_at hl 5 rfl) ?_
            refine lv_iload hx hb dL_law_295 (lv_at hl 7 rfl) ?_
            refine lv_iload hx hb dL_law_297 (lv_at hl 6 rfl) ?_
            refine gq_backi C hM (gq_runS (As := [.ref (gx_ad L v1), .int r3, .int r1, .int r2]) (rest := []) C hM (c_L_sets l L v1 hv1 r3 r1 r2 I4 _ h) k_L_sets gw_673 rfl hl.1 rfl (Nat.le_of_ble_eq_true rfl) ⟨⟨rfl, rfl⟩, Nat.le_of_ble_eq_true rfl, Nat.le_of_ble_eq_true rfl⟩ ⟨Nat.le_of_ble_eq_true rfl, Nat.le_of_ble_eq_true rfl⟩ dL_law_299) (fun r12 I10 H locs h hM => ?_)
            obtain ⟨hz3, h⟩ := h
            refine lv_istore (lv' := [(12, .int r12), (10, .long r6), (9, .int v2), (8, .int r5), (7, .int r4), (6, .int r3), (5, .int r2), (4, .int r1), (0, .ref b), (1, .ref (gx_ad L v1)), (2, .int v2), (3, .int v3)]) hx hb dL_law_302 hl (by decide) rfl (fun ls hl => ?_)
            refine lv_goto (tgt := 408) hx hb dL_law_304 (by decide) ?_
            exact tj_L_law_408 C E ih v1 v2 v3 r1 r2 r5 v2 r6 r12 (hv1) I10 _ _ _ hM (lv_sub hl [8, 9, 10, 11, 7, 6, 3, 2, 1, 0] rfl) h
        · replace h := h.1 hc
          exact tj_L_law_157 C E ih v1 v2 v3 r1 r2 r4 r5 v2 r6 (hv1) I4 _ _ _ hM (lv_sub hl [8, 9, 10, 11, 7, 6, 4, 3, 2, 1] rfl) h
set_option maxHeartbeats 4000000 in
set_option maxRecDepth 100000 in
theorem lx_body (C : gx_C L 282 p s m #[Value.ref b] meth c RL code 15 ret) (E : lx_E L b nL xs s) {I : gx_M} : ∀ (H : Heap) (locs : List Loc) (ls : Array Slot), gx_S L 282 (cellX L I) s.heap H locs → lv_has ls 15 [(1, .ref (gx_ad L 0)), (0, .ref b)] → wp_L_law (cel nL xs) I → W p l e room_1 s m #[Value.ref b] below meth c H locs 282 2444 (lw_Z below #[Value.ref b] s) (F0 m 8 ls []) := by
  intro H locs ls hM hl h
  have hx := C.1
  have hb := C.2.1
  unfold wp_L_law at h
  refine lv_aload_n hx hb dL_law_8 rfl (lv_at hl 0 rfl) ?_
  refine gq_backi C hM (gq_runV (As := []) (rest := []) C hM (kX_lt lx_k7 (by decide)) (cX_7 lx_k7) rfl (c_X7_undo l L 0 lx_k7 I _ h) k_X7_undo gw_575 rfl hl.1 rfl (Nat.le_of_ble_eq_true rfl) ⟨⟨rfl, rfl⟩, Nat.le_of_ble_eq_true rfl, Nat.le_of_ble_eq_true rfl⟩ ⟨Nat.le_of_ble_eq_true rfl, Nat.le_of_ble_eq_true rfl⟩ dL_law_9) (fun r1 I1 H locs h hM => ?_)
  refine gq_ldc (v := (-1000004 : Int32)) C gw_659 dL_law_12 ?_
  refine lv_icmp_ne (tgt := 76) hx hb dL_law_14 (by decide) (fun hc => ?_) (fun hc => ?_)
  · replace h := h.2 hc
    refine lv_iconst (v := (0 : Int32)) hx hb dL_law_76 (by decide) ?_
    exact False.elim h
  · replace h := h.1 hc
    refine lv_aload_n hx hb dL_law_17 rfl (lv_at hl 0 rfl) ?_
    refine gq_backi C hM (gq_runV (As := []) (rest := []) C hM (kX_lt lx_k7 (by decide)) (cX_7 lx_k7) rfl (c_X7_restore l L 0 lx_k7 I1 _ h) k_X7_restore gw_584 rfl hl.1 rfl (Nat.le_of_ble_eq_true rfl) ⟨⟨rfl, rfl⟩, Nat.le_of_ble_eq_true rfl, Nat.le_of_ble_eq_true rfl⟩ ⟨Nat.le_of_ble_eq_true rfl, Nat.le_of_ble_eq_true rfl⟩ dL_law_18) (fun r2 I2 H locs h hM => ?_)
    refine gq_ldc (v := (-1000004 : Int32)) C gw_659 dL_law_21 ?_
    refine lv_icmp_ne (tgt := 76) hx hb dL_law_23 (by decide) (fun hc => ?_) (fun hc => ?_)
    · replace h := h.2 hc
      refine lv_iconst (v := (0 : Int32)) hx hb dL_law_76 (by decide) ?_
      exact False.elim h
    · replace h := h.1 hc
      refine lv_aload_n hx hb dL_law_26 rfl (lv_at hl 0 rfl) ?_
      refine gq_backi C hM (gq_runV (As := []) (rest := []) C hM (kX_lt lx_k7 (by decide)) (cX_7 lx_k7) rfl (c_X7_next l L 0 lx_k7 I2 _ h) k_X7_next gw_408 rfl hl.1 rfl (Nat.le_of_ble_eq_true rfl) ⟨⟨rfl, rfl⟩, Nat.le_of_ble_eq_true rfl, Nat.le_of_ble_eq_true rfl⟩ ⟨Nat.le_of_ble_eq_true rfl, Nat.le_of_ble_eq_true rfl⟩ dL_law_27) (fun r3 I3 H locs h hM => ?_)
      refine gq_ldc (v := (-1000004 : Int32)) C gw_659 dL_law_30 ?_
      refine lv_icmp_ne (tgt := 76) hx hb dL_law_32 (by decide) (fun hc => ?_) (fun hc => ?_)
      · replace h := h.2 hc
        refine lv_iconst (v := (0 : Int32)) hx hb dL_law_76 (by decide) ?_
        exact False.elim h
      · replace h := h.1 hc
        refine lv_aload_n hx hb dL_law_35 rfl (lv_at hl 0 rfl) ?_
        refine lv_iconst (v := (0 : Int32)) hx hb dL_law_36 (by decide) ?_
        refine gq_backi C hM (gq_runV (As := [.int (0 : Int32)]) (rest := []) C hM (kX_lt lx_k7 (by decide)) (cX_7 lx_k7) rfl (c_X7_cancel l L 0 lx_k7 (0 : Int32) I3 _ h) k_X7_cancel gw_383 rfl hl.1 rfl (Nat.le_of_ble_eq_true rfl) ⟨⟨rfl, rfl⟩, Nat.le_of_ble_eq_true rfl, Nat.le_of_ble_eq_true rfl⟩ ⟨Nat.le_of_ble_eq_true rfl, Nat.le_of_ble_eq_true rfl⟩ dL_law_37) (fun r4 I4 H locs h hM => ?_)
        refine gq_ldc (v := (-1000001 : Int32)) C gw_655 dL_law_40 ?_
        refine lv_icmp_ne (tgt := 76) hx hb dL_law_42 (by decide) (fun hc => ?_) (fun hc => ?_)
        · replace h := h.2 hc
          refine lv_iconst (v := (0 : Int32)) hx hb dL_law_76 (by decide) ?_
          exact False.elim h
        · replace h := h.1 hc
          refine lv_aload_n hx hb dL_law_45 rfl (lv_at hl 0 rfl) ?_
          refine gq_backi C hM (gq_runV (As := []) (rest := []) C hM (kX_lt lx_k7 (by decide)) (cX_7 lx_k7) rfl (c_X7_readJobs l L 0 lx_k7 I4 _ h) k_X7_readJobs gw_537 rfl hl.1 rfl (Nat.le_of_ble_eq_true rfl) ⟨⟨rfl, rfl⟩, Nat.le_of_ble_eq_true rfl, Nat.le_of_ble_eq_true rfl⟩ ⟨Nat.le_of_ble_eq_true rfl, Nat.le_of_ble_eq_true rfl⟩ dL_law_46) (fun r5 I5 H locs h hM => ?_)
          refine lv_bipush (v := (-100 : Int32)) hx hb dL_law_49 (by decide) ?_
          refine lv_icmp_ne (tgt := 76) hx hb dL_law_51 (by decide) (fun hc => ?_) (fun hc => ?_)
          · replace h := h.2 hc
            refine lv_iconst (v := (0 : Int32)) hx hb dL_law_76 (by decide) ?_
            exact False.elim h
          · replace h := h.1 hc
            refine lv_aload_n hx hb dL_law_54 rfl (lv_at hl 0 rfl) ?_
            refine lv_bipush (v := (7 : Int32)) hx hb dL_law_55 (by decide) ?_
            refine gq_backi C hM (gq_runV (As := [.int (7 : Int32)]) (rest := []) C hM (kX_lt lx_k7 (by decide)) (cX_7 lx_k7) rfl (c_X7_count l L 0 lx_k7 (7 : Int32) I5 _ h) k_X7_count gw_601 rfl hl.1 rfl (Nat.le_of_ble_eq_true rfl) ⟨⟨rfl, rfl⟩, Nat.le_of_ble_eq_true rfl, Nat.le_of_ble_eq_true rfl⟩ ⟨Nat.le_of_ble_eq_true rfl, Nat.le_of_ble_eq_true rfl⟩ dL_law_57) (fun r6 I6 H locs h hM => ?_)
            refine lv_bipush (v := (100 : Int32)) hx hb dL_law_60 (by decide) ?_
            refine lv_icmp_ne (tgt := 76) hx hb dL_law_62 (by decide) (fun hc => ?_) (fun hc => ?_)
            · replace h := h.2 hc
              refine lv_iconst (v := (0 : Int32)) hx hb dL_law_76 (by decide) ?_
              exact False.elim h
            · replace h := h.1 hc
              refine lv_aload_n hx hb dL_law_65 rfl (lv_at hl 0 rfl) ?_
              refine lv_iconst (v := (0 : Int32)) hx hb dL_law_66 (by decide) ?_
              refine lv_iconst (v := (1 : Int32)) hx hb dL_law_67 (by decide) ?_
              refine gq_backi C hM (gq_runV (As := [.int (0 : Int32), .int (1 : Int32)]) (rest := []) C hM (kX_lt lx_k7 (by decide)) (cX_7 lx_k7) rfl (c_X7_neighbour l L 0 lx_k7 (0 : Int32) (1 : Int32) I6 _ h) k_X7_neighbour gw_596 rfl hl.1 rfl (Nat.le_of_ble_eq_true rfl) ⟨⟨rfl, rfl⟩, Nat.le_of_ble_eq_true rfl, Nat.le_of_ble_eq_true rfl⟩ ⟨Nat.le_of_ble_eq_true rfl, Nat.le_of_ble_eq_true rfl⟩ dL_law_68) (fun r7 I7 H locs h hM => ?_)
              refine gq_ldc (v := (-1000004 : Int32)) C gw_659 dL_law_71 ?_
              refine lv_icmp_eq (tgt := 78) hx hb dL_law_73 (by decide) (fun hc => ?_) (fun hc => ?_)
              · replace h := h.1 hc
                refine lv_iconst (v := (0 : Int32)) hx hb dL_law_78 (by decide) ?_
                refine lv_istore_n (lv' := [(2, .int (0 : Int32)), (1, .ref (gx_ad L 0)), (0, .ref b)]) hx hb dL_law_79 rfl hl (by decide) rfl (fun ls hl => ?_)
                refine lv_iconst (v := (0 : Int32)) hx hb dL_law_80 (by decide) ?_
                refine lv_istore_n (lv' := [(3, .int (0 : Int32)), (2, .int (0 : Int32)), (1, .ref (gx_ad L 0)), (0, .ref b)]) hx hb dL_law_81 rfl hl (by decide) rfl (fun ls hl => ?_)
                obtain ⟨fv, h⟩ := h
                exact tl_L_law_82 C E fv 0 (0 : Int32) (0 : Int32) (lx_k7) I7 _ _ _ hM (lv_sub hl [3, 2, 1, 0] rfl) h
              · replace h := h.2 hc
                refine lv_iconst (v := (0 : Int32)) hx hb dL_law_76 (by decide) ?_
                exact False.elim h
end
