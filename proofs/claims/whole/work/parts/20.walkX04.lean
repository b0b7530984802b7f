section
variable {p : Program} {l : Launch} {e : Env} {s : State} {m : MethodId} {args : Array Value} {below : List Frame} {meth : Method} {c : Code} {L : gx_L}
abbrev rm_X6_jobsFor : Room := { frames := 2, cells := 0, slots := 0, locals := 44 }
set_option maxHeartbeats 4000000 in
set_option maxRecDepth 100000 in
theorem tj_X6_jobsFor_31 (C : gx_C L 282 p s m args meth c RX6 cX6_jobsFor 4 (some .int)) {Q : Int32 → gx_M → Prop} {K4 : Nat → Int32 → Int32 → Int32 → gx_M → Prop} (hK4 : ∀ (v0 : Nat) (v1 : Int32) (v2 : Int32) (v3 : Int32) (hv0 : kX v0 = 6) (I : gx_M) (H : Heap) (locs : List Loc) (ls : Array Slot), gx_S L 282 (cellX L I) s.heap H locs → lv_has ls 4 [(0, .ref (gx_ad L v0)), (1, .int v1), (2, .int v2), (3, .int v3)] → K4 v0 v1 v2 v3 I → W p l e rm_X6_jobsFor s m args below meth c H locs 0 0 (MQ below (va_Qi Q (fun I' t => gx_U L 282 (cellX L I') t) (gx_A L)) args s 0 0 (gx_A L)) (F0 m 4 ls [])) : ∀ (v0 : Nat) (v1 : Int32) (v2 : Int32) (v3 : Int32) (hv0 : kX v0 = 6) (I : gx_M) (H : Heap) (locs : List Loc) (ls : Array Slot), gx_S L 282 (cellX L I) s.heap H locs → lv_has ls 4 [(0, .ref (gx_ad L v0)), (1, .int v1), (2, .int v2), (3, .int v3)] → wj_X6_jobsFor_31 Q K4 v0 v1 v2 v3 I → W p l e rm_X6_jobsFor s m args below meth c H locs 0 0 (MQ below (va_Qi Q (fun I' t => gx_U L 282 (cellX L I') t) (gx_A L)) args s 0 0 (gx_A L)) (F0 m 31 ls []) := by
  have hx := C.1
  have hb := C.2.1
  intro v0 v1 v2 v3 hv0 I H locs ls hM hl h
  unfold wj_X6_jobsFor_31 at h
  obtain ⟨x1, ex1⟩ : ∃ z : Int32, z = v3 + (1 : Int32) := ⟨_, rfl⟩
  replace h := h x1 ex1
  refine lv_iinc (v := x1) (lv' := [(3, .int x1), (0, .ref (gx_ad L v0)), (1, .int v1), (2, .int v2)]) hx hb dX6_jobsFor_31 hl (k := 3) rfl (by rw [ex1]; rfl) (by decide) rfl (fun ls hl => ?_)
  refine lv_goto (tgt := 4) hx hb dX6_jobsFor_34 (by decide) ?_
  exact hK4 v0 v1 v2 x1 (hv0) I _ _ _ hM (lv_sub hl [1, 2, 3, 0] rfl) h
set_option maxHeartbeats 4000000 in
set_option maxRecDepth 100000 in
theorem tl_X6_jobsFor_4 (C : gx_C L 282 p s m args meth c RX6 cX6_jobsFor 4 (some .int)) {Q : Int32 → gx_M → Prop} : ∀ (fu : Nat) (v0 : Nat) (v1 : Int32) (v2 : Int32) (v3 : Int32) (hv0 : kX v0 = 6) (I : gx_M) (H : Heap) (locs : List Loc) (ls : Array Slot), gx_S L 282 (cellX L I) s.heap H locs → lv_has ls 4 [(0, .ref (gx_ad L v0)), (1, .int v1), (2, .int v2), (3, .int v3)] → wl_X6_jobsFor_4 Q fu v0 v1 v2 v3 I → W p l e rm_X6_jobsFor s m args below meth c H locs 0 0 (MQ below (va_Qi Q (fun I' t => gx_U L 282 (cellX L I') t) (gx_A L)) args s 0 0 (gx_A L)) (F0 m 4 ls []) := by
  have hx := C.1
  have hb := C.2.1
  intro fu
  induction fu with
  | zero => intros; rename_i h; exact False.elim h
  | succ fu ih =>
    intro v0 v1 v2 v3 hv0 I H locs ls hM hl h
    rw [wl_X6_jobsFor_4] at h
    refine lv_iload_n hx hb dX6_jobsFor_4 rfl (lv_at hl 3 rfl) ?_
    refine lv_aload_n hx hb dX6_jobsFor_5 rfl (lv_at hl 0 rfl) ?_
    refine gX6_1 C hM hv0 gw_174 dX6_jobsFor_6 ?_
    refine gX5_1 C hM (kX_6_1 hv0) gw_98 dX6_jobsFor_9 ?_
    refine lv_icmp_ge (tgt := 37) hx hb dX6_jobsFor_12 (by decide) (fun hc => ?_) (fun hc => ?_)
    · replace h := h.1 hc
      refine lv_iload_n hx hb dX6_jobsFor_37 rfl (lv_at hl 2 rfl) ?_
      exact gq_iret C hM h dX6_jobsFor_38
    · replace h := h.2 hc
      refine lv_aload_n hx hb dX6_jobsFor_15 rfl (lv_at hl 0 rfl) ?_
      refine gX6_1 C hM hv0 gw_174 dX6_jobsFor_16 ?_
      refine lv_iload_n hx hb dX6_jobsFor_19 rfl (lv_at hl 3 rfl) ?_
      refine lv_iconst (v := (2 : Int32)) hx hb dX6_jobsFor_20 (by decide) ?_
      refine gq_backi C hM (gq_runV (As := [.int v3, .int (2 : Int32)]) (rest := []) C hM (kX_lt (kX_6_1 hv0) (by decide)) (cX_5 (kX_6_1 hv0)) rfl (c_X5_at l L (v0 + 2) (kX_6_1 hv0) v3 (2 : Int32) I _ h) k_X5_at gw_531 rfl hl.1 rfl (Nat.le_of_ble_eq_true rfl) ⟨⟨rfl, rfl⟩, Nat.le_of_ble_eq_true rfl, Nat.le_of_ble_eq_true rfl⟩ ⟨Nat.zero_le _, Nat.zero_le _⟩ dX6_jobsFor_21) (fun r1 I1 H locs h hM => ?_)
      refine lv_iload_n hx hb dX6_jobsFor_24 rfl (lv_at hl 1 rfl) ?_
      refine lv_icmp_ne (tgt := 31) hx hb dX6_jobsFor_25 (by decide) (fun hc => ?_) (fun hc => ?_)
      · replace h := h.2 hc
        exact tj_X6_jobsFor_31 C ih v0 v1 v2 v3 (hv0) I1 _ _ _ hM (lv_sub hl [0, 1, 2, 3] rfl) h
      · replace h := h.1 hc
        obtain ⟨x1, ex1⟩ : ∃ z : Int32, z = v2 + (1 : Int32) := ⟨_, rfl⟩
        replace h := h x1 ex1
        refine lv_iinc (v := x1) (lv' := [(2, .int x1), (0, .ref (gx_ad L v0)), (1, .int v1), (3, .int v3)]) hx hb dX6_jobsFor_28 hl (k := 2) rfl (by rw [ex1]; rfl) (by decide) rfl (fun ls hl => ?_)
        exact tj_X6_jobsFor_31 C ih v0 v1 x1 v3 (hv0) I1 _ _ _ hM (lv_sub hl [1, 2, 0, 3] rfl) h
set_option maxHeartbeats 4000000 in
set_option maxRecDepth 100000 in
theorem c_X6_jobsFor (l : Launch) (L : gx_L) (a0 : Nat) (hk0 : kX a0 = 6) (p0 : Int32) (I : gx_M) (Q : Int32 → gx_M → Prop) (h : wp_X6_jobsFor a0 p0 I Q) : Met l yX6_jobsFor (gx_w yX6_jobsFor cX6_jobsFor 4 (some .int)) rm_X6_jobsFor (va_Pc [.ref (gx_ad L a0), .int p0] (gx_U L 282 (cellX L I))) (va_Qi Q (fun I' t => gx_U L 282 (cellX L I') t) (gx_A L)) 0 0 (gx_A L) := by
  refine gq_enter (by decide) (Nat.le_of_ble_eq_true rfl) (fun p e s m below meth c ls C hM hl => ?_)
  have C : gx_C L 282 p s m _ meth c RX6 cX6_jobsFor 4 (some .int) := C
  have hl : lv_has ls 4 [(0, .ref (gx_ad L a0)), (1, .int p0)] := hl
  have hx := C.1
  have hb := C.2.1
  unfold wp_X6_jobsFor at h
  refine lv_iconst (v := (0 : Int32)) hx hb dX6_jobsFor_0 (by decide) ?_
  refine lv_istore_n (lv' := [(2, .int (0 : Int32)), (0, .ref (gx_ad L a0)), (1, .int p0)]) hx hb dX6_jobsFor_1 rfl hl (by decide) rfl (fun ls hl => ?_)
  refine lv_iconst (v := (0 : Int32)) hx hb dX6_jobsFor_2 (by decide) ?_
  refine lv_istore_n (lv' := [(3, .int (0 : Int32)), (2, .int (0 : Int32)), (0, .ref (gx_ad L a0)), (1, .int p0)]) hx hb dX6_jobsFor_3 rfl hl (by decide) rfl (fun ls hl => ?_)
  obtain ⟨fu, h⟩ := h
  exact tl_X6_jobsFor_4 C fu a0 p0 (0 : Int32) (0 : Int32) (hk0) I _ _ _ hM (lv_sub hl [2, 3, 1, 0] rfl) h
theorem k_X6_jobsFor : gx_kV yX6_jobsFor cX6_jobsFor 4 (some .int) 1 := ⟨⟨gw_530, gw_59, by decide, by decide, by decide +kernel⟩, gw_528, gw_529⟩
abbrev rm_X6_leaveRecord : Room := { frames := 2, cells := 0, slots := 0, locals := 48 }
set_option maxHeartbeats 4000000 in
set_option maxRecDepth 100000 in
theorem tj_X6_leaveRecord_20 (C : gx_C L 282 p s m args meth c RX6 cX6_leaveRecord 5 none) {Q : gx_M → Prop} : ∀ (v0 : Nat) (v1 : Int32) (v2 : Int32) (v3 : Int32) (v4 : Int32) (hv0 : kX v0 = 6) (I : gx_M) (H : Heap) (locs : List Loc) (ls : Array Slot), gx_S L 282 (cellX L I) s.heap H locs → lv_has ls 5 [(0, .ref (gx_ad L v0)), (1, .int v1), (2, .int v2), (3, .int v3), (4, .int v4)] → wj_X6_leaveRecord_20 Q v0 v1 v2 v3 v4 I → W p l e rm_X6_leaveRecord s m args below meth c H locs 0 0 (MQ below (va_Qv Q (fun I' t => gx_U L 282 (cellX L I') t) (gx_A L)) args s 0 0 (gx_A L)) (F0 m 20 ls []) := by
  have hx := C.1
  have hb := C.2.1
  intro v0 v1 v2 v3 v4 hv0 I H locs ls hM hl h
  unfold wj_X6_leaveRecord_20 at h
  refine lv_aload_n hx hb dX6_leaveRecord_20 rfl (lv_at hl 0 rfl) ?_
  refine gX6_2 C hM hv0 gw_177 dX6_leaveRecord_21 ?_
  refine lv_iload_n hx hb dX6_leaveRecord_24 rfl (lv_at hl 1 rfl) ?_
  refine lv_iload_n hx hb dX6_leaveRecord_25 rfl (lv_at hl 2 rfl) ?_
  refine lv_iload_n hx hb dX6_leaveRecord_26 rfl (lv_at hl 3 rfl) ?_
  refine lv_iload hx hb dX6_leaveRecord_27 (lv_at hl 4 rfl) ?_
  refine gq_backv C hM (gq_runV (As := [.int v1, .int v2, .int v3, .int v4]) (rest := []) C hM (kX_lt (kX_6_2 hv0) (by decide)) (cX_5 (kX_6_2 hv0)) rfl (c_X5_add l L (v0 + 4) (kX_6_2 hv0) v1 v2 v3 v4 I _ h) k_X5_add gw_519 rfl hl.1 rfl (Nat.le_of_ble_eq_true rfl) ⟨⟨rfl, rfl⟩, Nat.le_of_ble_eq_true rfl, Nat.le_of_ble_eq_true rfl⟩ ⟨Nat.zero_le _, Nat.zero_le _⟩ dX6_leaveRecord_29) (fun I1 H locs h hM => ?_)
  exact gq_vret C hM h dX6_leaveRecord_32
set_option maxHeartbeats 4000000 in
set_option maxRecDepth 100000 in
theorem c_X6_leaveRecord (l : Launch) (L : gx_L) (a0 : Nat) (hk0 : kX a0 = 6) (p0 : Int32) (p1 : Int32) (p2 : Int32) (p3 : Int32) (I : gx_M) (Q : gx_M → Prop) (h : wp_X6_leaveRecord a0 p0 p1 p2 p3 I Q) : Met l yX6_leaveRecord (gx_w yX6_leaveRecord cX6_leaveRecord 5 none) rm_X6_leaveRecord (va_Pc [.ref (gx_ad L a0), .int p0, .int p1, .int p2, .int p3] (gx_U L 282 (cellX L I))) (va_Qv Q (fun I' t => gx_U L 282 (cellX L I') t) (gx_A L)) 0 0 (gx_A L) := by
  refine gq_enter (by decide) (Nat.le_of_ble_eq_true rfl) (fun p e s m below meth c ls C hM hl => ?_)
  have C : gx_C L 282 p s m _ meth c RX6 cX6_leaveRecord 5 none := C
  have hl : lv_has ls 5 [(0, .ref (gx_ad L a0)), (1, .int p0), (2, .int p1), (3, .int p2), (4, .int p3)] := hl
  have hx := C.1
  have hb := C.2.1
  unfold wp_X6_leaveRecord at h
  refine lv_aload_n hx hb dX6_leaveRecord_0 rfl (lv_at hl 0 rfl) ?_
  refine gX6_2 C hM hk0 gw_177 dX6_leaveRecord_1 ?_
  refine gX5_1 C hM (kX_6_2 hk0) gw_98 dX6_leaveRecord_4 ?_
  refine lv_bipush (v := (12 : Int32)) hx hb dX6_leaveRecord_7 (by decide) ?_
  refine lv_icmp_lt (tgt := 20) hx hb dX6_leaveRecord_9 (by decide) (fun hc => ?_) (fun hc => ?_)
  · replace h := h.1 hc
    exact tj_X6_leaveRecord_20 C a0 p0 p1 p2 p3 (hk0) I _ _ _ hM (lv_sub hl [0, 1, 2, 3, 4] rfl) h
  · replace h := h.2 hc
    refine lv_aload_n hx hb dX6_leaveRecord_12 rfl (lv_at hl 0 rfl) ?_
    refine gX6_2 C hM hk0 gw_177 dX6_leaveRecord_13 ?_
    refine lv_iconst (v := (0 : Int32)) hx hb dX6_leaveRecord_16 (by decide) ?_
    refine gq_backv C hM (gq_runV (As := [.int (0 : Int32)]) (rest := []) C hM (kX_lt (kX_6_2 hk0) (by decide)) (cX_5 (kX_6_2 hk0)) rfl (c_X5_drop l L (a0 + 4) (kX_6_2 hk0) (0 : Int32) I _ h) k_X5_drop gw_541 rfl hl.1 rfl (Nat.le_of_ble_eq_true rfl) ⟨⟨rfl, rfl⟩, Nat.le_of_ble_eq_true rfl, Nat.le_of_ble_eq_true rfl⟩ ⟨Nat.zero_le _, Nat.zero_le _⟩ dX6_leaveRecord_17) (fun I1 H locs h hM => ?_)
    exact tj_X6_leaveRecord_20 C a0 p0 p1 p2 p3 (hk0) I1 _ _ _ hM (lv_sub hl [0, 1, 2, 3, 4] rfl) h
theorem k_X6_leaveRecord : gx_kV yX6_leaveRecord cX6_leaveRecord 5 none 4 := ⟨⟨gw_610, gw_59, by decide, by decide, by decide +kernel⟩, gw_608, gw_609⟩
abbrev rm_X7_refuse : Room := { frames := 0, cells := 0, slots := 0, locals := 0 }
set_option maxHeartbeats 4000000 in
set_option maxRecDepth 100000 in
theorem c_X7_refuse (l : Launch) (L : gx_L) (a0 : Nat) (hk0 : kX a0 = 7) (p0 : Int32) (I : gx_M) (Q : Int32 → gx_M → Prop) (h : wp_X7_refuse a0 p0 I Q) : Met l yX7_refuse (gx_w yX7_refuse cX7_refuse 2 (some .int)) rm_X7_refuse (va_Pc [.ref (gx_ad L a0), .int p0] (gx_U L 282 (cellX L I))) (va_Qi Q (fun I' t => gx_U L 282 (cellX L I') t) (gx_A L)) 0 0 (gx_A L) := by
  refine gq_enter (by decide) (Nat.le_of_ble_eq_true rfl) (fun p e s m below meth c ls C hM hl => ?_)
  have C : gx_C L 282 p s m _ meth c RX7 cX7_refuse 2 (some .int) := C
  have hl : lv_has ls 2 [(0, .ref (gx_ad L a0)), (1, .int p0)] := hl
  have hx := C.1
  have hb := C.2.1
  unfold wp_X7_refuse at h
  refine lv_aload_n hx hb dX7_refuse_0 rfl (lv_at hl 0 rfl) ?_
  refine lv_iload_n hx hb dX7_refuse_1 rfl (lv_at hl 1 rfl) ?_
  obtain ⟨I1, eI1⟩ : ∃ z : gx_M, z = up I a0 5 p0 := ⟨_, rfl⟩
  replace h := h I1 eI1
  refine pX7_5 C hM hk0 eI1 gw_348 dX7_refuse_2 (fun H locs hM => ?_)
  refine gq_ldcw (v := (-1000003 : Int32)) C gw_380 dX7_refuse_5 ?_
  exact gq_iret C hM h dX7_refuse_8
theorem k_X7_refuse : gx_kV yX7_refuse cX7_refuse 2 (some .int) 1 := ⟨⟨gw_379, gw_58, by decide, by decide, by decide +kernel⟩, gw_378, gw_0⟩
abbrev rm_X7_addRosette : Room := { frames := 4, cells := 0, slots := 0, locals := 90 }
set_option maxHeartbeats 4000000 in
set_option maxRecDepth 100000 in
theorem tj_X7_addRosette_80 (C : gx_C L 282 p s m args meth c RX7 cX7_addRosette 7 (some .int)) {Q : Int32 → gx_M → Prop} : ∀ (v0 : Nat) (hv0 : kX v0 = 7) (I : gx_M) (H : Heap) (locs : List Loc) (ls : Array Slot), gx_S L 282 (cellX L I) s.heap H locs → lv_has ls 7 [(0, .ref (gx_ad L v0))] → wj_X7_addRosette_80 Q v0 I → W p l e rm_X7_addRosette s m args below meth c H locs 0 0 (MQ below (va_Qi Q (fun I' t => gx_U L 282 (cellX L I') t) (gx_A L)) args s 0 0 (gx_A L)) (F0 m 80 ls []) := by
  have hx := C.1
  have hb := C.2.1
  intro v0 hv0 I H locs ls hM hl h
  unfold wj_X7_addRosette_80 at h
  refine lv_aload_n hx hb dX7_addRosette_80 rfl (lv_at hl 0 rfl) ?_
  refine lv_iconst (v := (1 : Int32)) hx hb dX7_addRosette_81 (by decide) ?_
  refine gq_backi C hM (gq_runV (As := [.int (1 : Int32)]) (rest := []) C hM (kX_lt hv0 (by decide)) (cX_7 hv0) rfl (c_X7_refuse l L v0 hv0 (1 : Int32) I _ h) k_X7_refuse gw_376 rfl hl.1 rfl (Nat.le_of_ble_eq_true rfl) ⟨⟨rfl, rfl⟩, Nat.le_of_ble_eq_true rfl, Nat.le_of_ble_eq_true rfl⟩ ⟨Nat.zero_le _, Nat.zero_le _⟩ dX7_addRosette_82) (fun r1 I1 H locs h hM => ?_)
  exact gq_iret C hM h dX7_addRosette_85
set_option maxHeartbeats 4000000 in
set_option maxRecDepth 100000 in
theorem tj_X7_addRosette_18 (C : gx_C L 282 p s m args meth c RX7 cX7_addRosette 7 (some .int)) {Q : Int32 → gx_M → Prop} : ∀ (v0 : Nat) (v1 : Int32) (v2 : Int32) (v3 : Int32) (v4 : Int32) (u0 : Int32) (hv0 : kX v0 = 7) (I : gx_M) (H : Heap) (locs : List Loc) (ls : Array Slot), gx_S L 282 (cellX L I) s.heap H locs → lv_has ls 7 [(0, .ref (gx_ad L v0)), (1, .int v1), (2, .int v2), (3, .int v3), (4, .int v4)] → wj_X7_addRosette_18 Q v0 v1 v2 v3 v4 u0 I → W p l e rm_X7_addRosette s m args below meth c H locs 0 0 (MQ below (va_Qi Q (fun I' t => gx_U L 282 (cellX L I') t) (gx_A L)) args s 0 0 (gx_A L)) (F0 m 18 ls [.int u0]) := by
  have hx := C.1
  have hb := C.2.1
  intro v0 v1 v2 v3 v4 u0 hv0 I H locs ls hM hl h
  unfold wj_X7_addRosette_18 at h
  refine lv_istore (lv' := [(5, .int u0), (0, .ref (gx_ad L v0)), (1, .int v1), (2, .int v2), (3, .int v3), (4, .int v4)]) hx hb dX7_addRosette_18 hl (by decide) rfl (fun ls hl => ?_)
  refine lv_iload_n hx hb dX7_addRosette_20 rfl (lv_at hl 2 rfl) ?_
  refine lv_iconst (v := (0 : Int32)) hx hb dX7_addRosette_21 (by decide) ?_
  refine lv_sipush (v := (1000 : Int32)) hx hb dX7_addRosette_22 (by decide) ?_
  refine gq_backi C hM (gq_runS (As := [.int v1, .int (0 : Int32), .int (1000 : Int32)]) (rest := []) C hM (c_X7_isWithin l L v1 (0 : Int32) (1000 : Int32) I _ h) k_X7_isWithin gw_372 rfl hl.1 rfl (Nat.le_of_ble_eq_true rfl) ⟨⟨rfl, rfl⟩, Nat.le_of_ble_eq_true rfl, Nat.le_of_ble_eq_true rfl⟩ ⟨Nat.zero_le _, Nat.zero_le _⟩ dX7_addRosette_25) (fun r1 I1 H locs h hM => ?_)
  obtain ⟨hz1, h⟩ := h
  refine lv_if_eq (tgt := 50) hx hb dX7_addRosette_28 (by decide) (fun hc => ?_) (fun hc => ?_)
  · replace h := h.1 hc
    refine gq_ldc (v := (-1000002 : Int32)) C gw_375 dX7_addRosette_50 ?_
    exact gq_iret C hM h dX7_addRosette_52
  · replace h := h.2 hc
    refine lv_iload hx hb dX7_addRosette_31 (lv_at hl 0 rfl) ?_
    refine lv_if_eq (tgt := 50) hx hb dX7_addRosette_33 (by decide) (fun hc => ?_) (fun hc => ?_)
    · replace h := h.1 hc
      refine gq_ldc (v := (-1000002 : Int32)) C gw_375 dX7_addRosette_50 ?_
      exact gq_iret C hM h dX7_addRosette_52
    · replace h := h.2 hc
      refine lv_iload hx hb dX7_addRosette_36 (lv_at hl 5 rfl) ?_
      refine lv_sipush (v := (180 : Int32)) hx hb dX7_addRosette_38 (by decide) ?_
      refine lv_sipush (v := (240 : Int32)) hx hb dX7_addRosette_41 (by decide) ?_
      refine gq_backi C hM (gq_runS (As := [.int v4, .int (180 : Int32), .int (240 : Int32)]) (rest := []) C hM (c_X7_isWithin l L v4 (180 : Int32) (240 : Int32) I1 _ h) k_X7_isWithin gw_372 rfl hl.1 rfl (Nat.le_of_ble_eq_true rfl) ⟨⟨rfl, rfl⟩, Nat.le_of_ble_eq_true rfl, Nat.le_of_ble_eq_true rfl⟩ ⟨Nat.zero_le _, Nat.zero_le _⟩ dX7_addRosette_44) (fun r2 I2 H locs h hM => ?_)
      obtain ⟨hz2, h⟩ := h
      refine lv_if_ne (tgt := 53) hx hb dX7_addRosette_47 (by decide) (fun hc => ?_) (fun hc => ?_)
      · replace h := h.2 hc
        refine lv_aload_n hx hb dX7_addRosette_53 rfl (lv_at hl 1 rfl) ?_
        refine gX7_0 C hM hv0 gw_343 dX7_addRosette_54 ?_
        refine gX6_3 C hM (kX_7_0 hv0) gw_180 dX7_addRosette_57 ?_
        refine lv_topi (fun x1 ex1 => ?_)
        replace h := h x1 ex1
        refine lv_istore (lv' := [(6, .int x1), (5, .int u0), (0, .ref (gx_ad L v0)), (1, .int v1), (2, .int v2), (3, .int v3), (4, .int v4)]) hx hb dX7_addRosette_60 hl (by decide) rfl (fun ls hl => ?_)
        refine lv_iload hx hb dX7_addRosette_62 (lv_at hl 0 rfl) ?_
        refine lv_if_lt (tgt := 80) hx hb dX7_addRosette_64 (by decide) (fun hc => ?_) (fun hc => ?_)
        · replace h := h.1 hc
          exact tj_X7_addRosette_80 C v0 (hv0) I2 _ _ _ hM (lv_sub hl [2] rfl) h
        · replace h := h.2 hc
          refine lv_iload hx hb dX7_addRosette_67 (lv_at hl 0 rfl) ?_
          refine lv_aload_n hx hb dX7_addRosette_69 rfl (lv_at hl 2 rfl) ?_
          refine gX7_0 C hM hv0 gw_343 dX7_addRosette_70 ?_
          refine gX6_0 C hM (kX_7_0 hv0) gw_173 dX7_addRosette_73 ?_
          refine galenX_23 C hM (kX_6_0 (kX_7_0 hv0)) dX7_addRosette_76 ?_
          refine lv_icmp_lt (tgt := 86) hx hb dX7_addRosette_77 (by decide) (fun hc => ?_) (fun hc => ?_)
          · replace h := h.1 hc
            refine lv_aload_n hx hb dX7_addRosette_86 rfl (lv_at hl 2 rfl) ?_
            refine gX7_0 C hM hv0 gw_343 dX7_addRosette_87 ?_
            refine lv_iload_n hx hb dX7_addRosette_90 rfl (lv_at hl 3 rfl) ?_
            refine gq_backi C hM (gq_runV (As := [.int v1]) (rest := []) C hM (kX_lt (kX_7_0 hv0) (by decide)) (cX_6 (kX_7_0 hv0)) rfl (c_X6_hasRosetteAt l L (v0 + 1) (kX_7_0 hv0) v1 I2 _ h) k_X6_hasRosetteAt gw_381 rfl hl.1 rfl (Nat.le_of_ble_eq_true rfl) ⟨⟨rfl, rfl⟩, Nat.le_of_ble_eq_true rfl, Nat.le_of_ble_eq_true rfl⟩ ⟨Nat.zero_le _, Nat.zero_le _⟩ dX7_addRosette_91) (fun r3 I3 H locs h hM => ?_)
            obtain ⟨hz3, h⟩ := h
            refine lv_if_eq (tgt := 104) hx hb dX7_addRosette_94 (by decide) (fun hc => ?_) (fun hc => ?_)
            · replace h := h.1 hc
              refine lv_aload_n hx hb dX7_addRosette_104 rfl (lv_at hl 2 rfl) ?_
              refine gX7_3 C hM hv0 gw_346 dX7_addRosette_105 ?_
              refine lv_aload_n hx hb dX7_addRosette_108 rfl (lv_at hl 2 rfl) ?_
              refine gX7_0 C hM hv0 gw_343 dX7_addRosette_109 ?_
              refine gq_backv C hM (gq_runV (As := [.ref (gx_ad L (v0 + 1))]) (rest := []) C hM (kX_lt (kX_7_3 hv0) (by decide)) (cX_0 (kX_7_3 hv0)) rfl (c_X0_add l L (v0 + 77) (kX_7_3 hv0) (v0 + 1) (kX_7_0 hv0) I3 _ h) k_X0_add gw_393 rfl hl.1 rfl (Nat.le_of_ble_eq_true rfl) ⟨⟨rfl, rfl⟩, Nat.le_of_ble_eq_true rfl, Nat.le_of_ble_eq_true rfl⟩ ⟨Nat.zero_le _, Nat.zero_le _⟩ dX7_addRosette_112) (fun I4 H locs h hM => ?_)
              refine lv_aload_n hx hb dX7_addRosette_115 rfl (lv_at hl 2 rfl) ?_
              refine gX7_0 C hM hv0 gw_343 dX7_addRosette_116 ?_
              refine gX6_0 C hM (kX_7_0 hv0) gw_173 dX7_addRosette_119 ?_
              refine lv_iload hx hb dX7_addRosette_122 (lv_at hl 0 rfl) ?_
              have hi := h.1
              replace h := h.2
              refine gaald_23 C hM (kX_6_0 (kX_7_0 hv0)) hi dX7_addRosette_124 ?_
              have hk1 := kX_23 (kX_6_0 (kX_7_0 hv0)) (Nat.not_le.mp fun q => hi (Or.inr q))
              refine lv_iload_n hx hb dX7_addRosette_125 rfl (lv_at hl 3 rfl) ?_
              refine lv_iload_n hx hb dX7_addRosette_126 rfl (lv_at hl 4 rfl) ?_
              refine lv_iload_n hx hb dX7_addRosette_127 rfl (lv_at hl 5 rfl) ?_
              refine lv_iload hx hb dX7_addRosette_128 (lv_at hl 6 rfl) ?_
              refine gq_backv C hM (gq_runV (As := [.int v1, .int v2, .int v3, .int v4]) (rest := []) C hM (kX_lt hk1 (by decide)) (cX_4 hk1) rfl (c_X4_begin l L (((v0 + 1) + 1) + 5 + 4 * x1.toNatClampNeg) hk1 v1 v2 v3 v4 I4 _ h) k_X4_begin gw_416 rfl hl.1 rfl (Nat.le_of_ble_eq_true rfl) ⟨⟨rfl, rfl⟩, Nat.le_of_ble_eq_true rfl, Nat.le_of_ble_eq_true rfl⟩ ⟨Nat.zero_le _, Nat.zero_le _⟩ dX7_addRosette_130) (fun I5 H locs h hM => ?_)
              refine lv_aload_n hx hb dX7_addRosette_133 rfl (lv_at hl 2 rfl) ?_
              refine gX7_0 C hM hv0 gw_343 dX7_addRosette_134 ?_
              refine lv_dup hx hb dX7_addRosette_137 rfl ?_
              refine gX6_3 C hM (kX_7_0 hv0) gw_180 dX7_addRosette_138 ?_
              refine lv_iconst (v := (1 : Int32)) hx hb dX7_addRosette_141 (by decide) ?_
              refine lv_iadd hx hb dX7_addRosette_142 ?_
              obtain ⟨I6, eI6⟩ : ∃ z : gx_M, z = up I5 (v0 + 1) 3 ((I5 (v0 + 1) 3) + (1 : Int32)) := ⟨_, rfl⟩
              replace h := h I6 eI6
              refine pX6_3 C hM (kX_7_0 hv0) eI6 gw_180 dX7_addRosette_143 (fun H locs hM => ?_)
              refine lv_iload hx hb dX7_addRosette_146 (lv_at hl 0 rfl) ?_
              exact gq_iret C hM h dX7_addRosette_148
            · replace h := h.2 hc
              refine lv_aload_n hx hb dX7_addRosette_97 rfl (lv_at hl 2 rfl) ?_
              refine lv_bipush (v := (6 : Int32)) hx hb dX7_addRosette_98 (by decide) ?_
              refine gq_backi C hM (gq_runV (As := [.int (6 : Int32)]) (rest := []) C hM (kX_lt hv0 (by decide)) (cX_7 hv0) rfl (c_X7_refuse l L v0 hv0 (6 : Int32) I3 _ h) k_X7_refuse gw_376 rfl hl.1 rfl (Nat.le_of_ble_eq_true rfl) ⟨⟨rfl, rfl⟩, Nat.le_of_ble_eq_true rfl, Nat.le_of_ble_eq_true rfl⟩ ⟨Nat.zero_le _, Nat.zero_le _⟩ dX7_addRosette_100) (fun r4 I7 H locs h hM => ?_)
              exact gq_iret C hM h dX7_addRosette_103
          · replace h := h.2 hc
            exact tj_X7_addRosette_80 C v0 (hv0) I2 _ _ _ hM (lv_sub hl [2] rfl) h
      · replace h := h.1 hc
        refine gq_ldc (v := (-1000002 : Int32)) C gw_375 dX7_addRosette_50 ?_
        exact gq_iret C hM h dX7_addRosette_52
set_option maxHeartbeats 4000000 in
set_option maxRecDepth 100000 in
theorem tj_X7_addRosette_13 (C : gx_C L 282 p s m args meth c RX7 cX7_addRosette 7 (some .int)) {Q : Int32 → gx_M → Prop} : ∀ (v0 : Nat) (v1 : Int32) (v2 : Int32) (v3 : Int32) (v4 : Int32) (hv0 : kX v0 = 7) (I : gx_M) (H : Heap) (locs : List Loc) (ls : Array Slot), gx_S L 282 (cellX L I) s.heap H locs → lv_has ls 7 [(0, .ref (gx_ad L v0)), (1, .int v1), (2, .int v2), (3, .int v3), (4, .int v4)] → wj_X7_addRosette_13 Q v0 v1 v2 v3 v4 I → W p l e rm_X7_addRosette s m args below meth c H locs 0 0 (MQ below (va_Qi Q (fun I' t => gx_U L 282 (cellX L I') t) (gx_A L)) args s 0 0 (gx_A L)) (F0 m 13 ls []) := by
  have hx := C.1
  have hb := C.2.1
  intro v0 v1 v2 v3 v4 hv0 I H locs ls hM hl h
  unfold wj_X7_addRosette_13 at h
  refine lv_iconst (v := (1 : Int32)) hx hb dX7_addRosette_13 (by decide) ?_
  refine lv_goto (tgt := 18) hx hb dX7_addRosette_14 (by decide) ?_
  exact tj_X7_addRosette_18 C v0 v1 v2 v3 v4 (1 : Int32) (hv0) I _ _ _ hM (lv_sub hl [0, 1, 2, 3, 4] rfl) h
set_option maxHeartbeats 4000000 in
set_option maxRecDepth 100000 in
theorem c_X7_addRosette (l : Launch) (L : gx_L) (a0 : Nat) (hk0 : kX a0 = 7) (p0 : Int32) (p1 : Int32) (p2 : Int32) (p3 : Int32) (I : gx_M) (Q : Int32 → gx_M → Prop) (h : wp_X7_addRosette a0 p0 p1 p2 p3 I Q) : Met l yX7_addRosette (gx_w yX7_addRosette cX7_addRosette 7 (some .int)) rm_X7_addRosette (va_Pc [.ref (gx_ad L a0), .int p0, .int p1, .int p2, .int p3] (gx_U L 282 (cellX L I))) (va_Qi Q (fun I' t => gx_U L 282 (cellX L I') t) (gx_A L)) 0 0 (gx_A L) := by
  refine gq_enter (by decide) (Nat.le_of_ble_eq_true rfl) (fun p e s m below meth c ls C hM hl => ?_)
  have C : gx_C L 282 p s m _ meth c RX7 cX7_addRosette 7 (some .int) := C
  have hl : lv_has ls 7 [(0, .ref (gx_ad L a0)), (1, .int p0), (2, .int p1), (3, .int p2), (4, .int p3)] := hl
  have hx := C.1
  have hb := C.2.1
  unfold wp_X7_addRosette at h
  refine lv_iload_n hx hb dX7_addRosette_0 rfl (lv_at hl 3 rfl) ?_
  refine lv_bipush (v := (120 : Int32)) hx hb dX7_addRosette_1 (by decide) ?_
  refine lv_icmp_eq (tgt := 13) hx hb dX7_addRosette_3 (by decide) (fun hc => ?_) (fun hc => ?_)
  · replace h := h.1 hc
    exact tj_X7_addRosette_13 C a0 p0 p1 p2 p3 (hk0) I _ _ _ hM (lv_sub hl [0, 1, 2, 3, 4] rfl) h
  · replace h := h.2 hc
    refine lv_iload_n hx hb dX7_addRosette_6 rfl (lv_at hl 3 rfl) ?_
    refine lv_sipush (v := (350 : Int32)) hx hb dX7_addRosette_7 (by decide) ?_
    refine lv_icmp_ne (tgt := 17) hx hb dX7_addRosette_10 (by decide) (fun hc => ?_) (fun hc => ?_)
    · replace h := h.2 hc
      refine lv_iconst (v := (0 : Int32)) hx hb dX7_addRosette_17 (by decide) ?_
      exact tj_X7_addRosette_18 C a0 p0 p1 p2 p3 (0 : Int32) (hk0) I _ _ _ hM (lv_sub hl [0, 1, 2, 3, 4] rfl) h
    · replace h := h.1 hc
      exact tj_X7_addRosette_13 C a0 p0 p1 p2 p3 (hk0) I _ _ _ hM (lv_sub hl [0, 1, 2, 3, 4] rfl) h
theorem k_X7_addRosette : gx_kV yX7_addRosette cX7_addRosette 7 (some .int) 4 := ⟨⟨gw_371, gw_58, by decide, by decide, by decide +kernel⟩, gw_369, gw_370⟩
abbrev rm_X7_cancel : Room := { frames := 4, cells := 0, slots := 0, locals := 90 }
set_option maxHeartbeats 4000000 in
set_option maxRecDepth 100000 in
theorem c_X7_cancel (l : Launch) (L : gx_L) (a0 : Nat) (hk0 : kX a0 = 7) (p0 : Int32) (I : gx_M) (Q : Int32 → gx_M → Prop) (h : wp_X7_cancel a0 p0 I Q) : Met l yX7_cancel (gx_w yX7_cancel cX7_cancel 3 (some .int)) rm_X7_cancel (va_Pc [.ref (gx_ad L a0), .int p0] (gx_U L 282 (cellX L I))) (va_Qi Q (fun I' t => gx_U L 282 (cellX L I') t) (gx_A L)) 0 0 (gx_A L) := by
  refine gq_enter (by decide) (Nat.le_of_ble_eq_true rfl) (fun p e s m below meth c ls C hM hl => ?_)
  have C : gx_C L 282 p s m _ meth c RX7 cX7_cancel 3 (some .int) := C
  have hl : lv_has ls 3 [(0, .ref (gx_ad L a0)), (1, .int p0)] := hl
  have hx := C.1
  have hb := C.2.1
  unfold wp_X7_cancel at h
  refine lv_aload_n hx hb dX7_cancel_0 rfl (lv_at hl 0 rfl) ?_
  refine gX7_0 C hM hk0 gw_343 dX7_cancel_1 ?_
  refine lv_iload_n hx hb dX7_cancel_4 rfl (lv_at hl 1 rfl) ?_
  refine gq_backe C hM (gq_runV (As := [.int p0]) (rest := []) C hM (kX_lt (kX_7_0 hk0) (by decide)) (cX_6 (kX_7_0 hk0)) rfl (c_X6_find l L (a0 + 1) (kX_7_0 hk0) p0 I _ h) k_X6_find gw_424 rfl hl.1 rfl (Nat.le_of_ble_eq_true rfl) ⟨⟨rfl, rfl⟩, Nat.le_of_ble_eq_true rfl, Nat.le_of_ble_eq_true rfl⟩ ⟨Nat.zero_le _, Nat.zero_le _⟩ dX7_cancel_5) (fun r1 I1 H locs h hM => ?_)
  obtain ⟨hk1, h⟩ := h
  rcases r1 with _ | b1
  · replace h := h.1 rfl
    refine W.eq (g2 := F0 m 8 ls [.null]) rfl ?_
    refine lv_ifnonnullN hx hb dX7_cancel_8 ?_
    refine gq_ldc (v := (-1000001 : Int32)) C gw_425 dX7_cancel_11 ?_
    exact gq_iret C hM h dX7_cancel_13
  · have hk := hk1 b1 rfl
    replace h := h.2 b1 rfl hk
    have hk2 := hk
    refine W.eq (g2 := F0 m 8 ls [.ref (gx_ad L b1)]) rfl ?_
    refine lv_ifnonnull (tgt := 14) hx hb dX7_cancel_8 (by decide) ?_
    refine lv_aload_n hx hb dX7_cancel_14 rfl (lv_at hl 0 rfl) ?_
    refine gX7_0 C hM hk0 gw_343 dX7_cancel_15 ?_
    refine lv_iload_n hx hb dX7_cancel_18 rfl (lv_at hl 1 rfl) ?_
    refine gq_backi C hM (gq_runV (As := [.int p0]) (rest := []) C hM (kX_lt (kX_7_0 hk0) (by decide)) (cX_6 (kX_7_0 hk0)) rfl (c_X6_jobsFor l L (a0 + 1) (kX_7_0 hk0) p0 I1 _ h) k_X6_jobsFor gw_527 rfl hl.1 rfl (Nat.le_of_ble_eq_true rfl) ⟨⟨rfl, rfl⟩, Nat.le_of_ble_eq_true rfl, Nat.le_of_ble_eq_true rfl⟩ ⟨Nat.zero_le _, Nat.zero_le _⟩ dX7_cancel_19) (fun r2 I2 H locs h hM => ?_)
    refine lv_istore_n (lv' := [(2, .int r2), (0, .ref (gx_ad L a0)), (1, .int p0)]) hx hb dX7_cancel_22 rfl hl (by decide) rfl (fun ls hl => ?_)
    refine lv_iload_n hx hb dX7_cancel_23 rfl (lv_at hl 0 rfl) ?_
    refine lv_if_ne (tgt := 30) hx hb dX7_cancel_24 (by decide) (fun hc => ?_) (fun hc => ?_)
    · replace h := h.2 hc
      refine lv_aload_n hx hb dX7_cancel_30 rfl (lv_at hl 1 rfl) ?_
      refine gX7_3 C hM hk0 gw_346 dX7_cancel_31 ?_
      refine lv_aload_n hx hb dX7_cancel_34 rfl (lv_at hl 1 rfl) ?_
      refine gX7_0 C hM hk0 gw_343 dX7_cancel_35 ?_
      refine gq_backv C hM (gq_runV (As := [.ref (gx_ad L (a0 + 1))]) (rest := []) C hM (kX_lt (kX_7_3 hk0) (by decide)) (cX_0 (kX_7_3 hk0)) rfl (c_X0_add l L (a0 + 77) (kX_7_3 hk0) (a0 + 1) (kX_7_0 hk0) I2 _ h) k_X0_add gw_393 rfl hl.1 rfl (Nat.le_of_ble_eq_true rfl) ⟨⟨rfl, rfl⟩, Nat.le_of_ble_eq_true rfl, Nat.le_of_ble_eq_true rfl⟩ ⟨Nat.zero_le _, Nat.zero_le _⟩ dX7_cancel_38) (fun I3 H locs h hM => ?_)
      refine lv_aload_n hx hb dX7_cancel_41 rfl (lv_at hl 1 rfl) ?_
      refine gX7_0 C hM hk0 gw_343 dX7_cancel_42 ?_
      refine lv_iload_n hx hb dX7_cancel_45 rfl (lv_at hl 2 rfl) ?_
      refine gq_backv C hM (gq_runV (As := [.int p0]) (rest := []) C hM (kX_lt (kX_7_0 hk0) (by decide)) (cX_6 (kX_7_0 hk0)) rfl (c_X6_dropJobsFor l L (a0 + 1) (kX_7_0 hk0) p0 I3 _ h) k_X6_dropJobsFor gw_537 rfl hl.1 rfl (Nat.le_of_ble_eq_true rfl) ⟨⟨rfl, rfl⟩, Nat.le_of_ble_eq_true rfl, Nat.le_of_ble_eq_true rfl⟩ ⟨Nat.zero_le _, Nat.zero_le _⟩ dX7_cancel_46) (fun I4 H locs h hM => ?_)
      refine lv_iload_n hx hb dX7_cancel_49 rfl (lv_at hl 0 rfl) ?_
      exact gq_iret C hM h dX7_cancel_50
    · replace h := h.1 hc
      refine gq_ldc (v := (-1000004 : Int32)) C gw_429 dX7_cancel_27 ?_
      exact gq_iret C hM h dX7_cancel_29
theorem k_X7_cancel : gx_kV yX7_cancel cX7_cancel 3 (some .int) 1 := ⟨⟨gw_526, gw_58, by decide, by decide, by decide +kernel⟩, gw_524, gw_525⟩
abbrev rm_X7_clearText : Room := { frames := 0, cells := 0, slots := 0, locals := 0 }
set_option maxHeartbeats 4000000 in
set_option maxRecDepth 100000 in
theorem c_X7_clearText (l : Launch) (L : gx_L) (a0 : Nat) (hk0 : kX a0 = 7) (I : gx_M) (Q : Int32 → gx_M → Prop) (h : wp_X7_clearText a0 I Q) : Met l yX7_clearText (gx_w yX7_clearText cX7_clearText 2 (some .int)) rm_X7_clearText (va_Pc [.ref (gx_ad L a0)] (gx_U L 282 (cellX L I))) (va_Qi Q (fun I' t => gx_U L 282 (cellX L I') t) (gx_A L)) 0 0 (gx_A L) := by
  refine gq_enter (by decide) (Nat.le_of_ble_eq_true rfl) (fun p e s m below meth c ls C hM hl => ?_)
  have C : gx_C L 282 p s m _ meth c RX7 cX7_clearText 2 (some .int) := C
  have hl : lv_has ls 2 [(0, .ref (gx_ad L a0))] := hl
  have hx := C.1
  have hb := C.2.1
  unfold wp_X7_clearText at h
  refine lv_aload_n hx hb dX7_clearText_0 rfl (lv_at hl 0 rfl) ?_
  refine gX7_4 C hM hk0 gw_347 dX7_clearText_1 ?_
  refine gX1_2 C hM (kX_7_4 hk0) gw_244 dX7_clearText_4 ?_
  refine lv_topi (fun x1 ex1 => ?_)
  replace h := h x1 ex1
  refine lv_istore_n (lv' := [(1, .int x1), (0, .ref (gx_ad L a0))]) hx hb dX7_clearText_7 rfl hl (by decide) rfl (fun ls hl => ?_)
  refine lv_aload_n hx hb dX7_clearText_8 rfl (lv_at hl 1 rfl) ?_
  refine gX7_4 C hM hk0 gw_347 dX7_clearText_9 ?_
  refine lv_iconst (v := (0 : Int32)) hx hb dX7_clearText_12 (by decide) ?_
  obtain ⟨I1, eI1⟩ : ∃ z : gx_M, z = up I (a0 + 269) 2 (0 : Int32) := ⟨_, rfl⟩
  replace h := h I1 eI1
  refine pX1_2 C hM (kX_7_4 hk0) eI1 gw_244 dX7_clearText_13 (fun H locs hM => ?_)
  refine lv_iload_n hx hb dX7_clearText_16 rfl (lv_at hl 0 rfl) ?_
  exact gq_iret C hM h dX7_clearText_17
theorem k_X7_clearText : gx_kV yX7_clearText cX7_clearText 2 (some .int) 0 := ⟨⟨gw_626, gw_58, by decide, by decide, by decide +kernel⟩, gw_624, gw_625⟩
abbrev rm_X7_count : Room := { frames := 0, cells := 0, slots := 0, locals := 0 }
set_option maxHeartbeats 4000000 in
set_option maxRecDepth 100000 in
theorem c_X7_count (l : Launch) (L : gx_L) (a0 : Nat) (hk0 : kX a0 = 7) (p0 : Int32) (I : gx_M) (Q : Int32 → gx_M → Prop) (h : wp_X7_count a0 p0 I Q) : Met l yX7_count (gx_w yX7_count cX7_count 2 (some .int)) rm_X7_count (va_Pc [.ref (gx_ad L a0), .int p0] (gx_U L 282 (cellX L I))) (va_Qi Q (fun I' t => gx_U L 282 (cellX L I') t) (gx_A L)) 0 0 (gx_A L) := by
  refine gq_enter (by decide) (Nat.le_of_ble_eq_true rfl) (fun p e s m below meth c ls C hM hl => ?_)
  have C : gx_C L 282 p s m _ meth c RX7 cX7_count 2 (some .int) := C
  have hl : lv_has ls 2 [(0, .ref (gx_ad L a0)), (1, .int p0)] := hl
  have hx := C.1
  have hb := C.2.1
  unfold wp_X7_count at h
  refine lv_iload_n hx hb dX7_count_0 rfl (lv_at hl 1 rfl) ?_
  by_cases hs0 : p0 = (0 : Int32)
  · replace h := h.1 hs0
    refine lv_tableIn (tgt := 64) hx hb dX7_count_1 (by rw [hs0]; decide) (by rw [hs0]; decide) (by rw [hs0]; rfl) (by decide) ?_
    refine lv_aload_n hx hb dX7_count_64 rfl (lv_at hl 0 rfl) ?_
    refine gX7_0 C hM hk0 gw_343 dX7_count_65 ?_
    refine gX6_3 C hM (kX_7_0 hk0) gw_180 dX7_count_68 ?_
    exact gq_iret C hM h dX7_count_71
  by_cases hs1 : p0 = (1 : Int32)
  · replace h := h.2.1 hs1
    refine lv_tableIn (tgt := 72) hx hb dX7_count_1 (by rw [hs1]; decide) (by rw [hs1]; decide) (by rw [hs1]; rfl) (by decide) ?_
    refine lv_aload_n hx hb dX7_count_72 rfl (lv_at hl 0 rfl) ?_
    refine gX7_0 C hM hk0 gw_343 dX7_count_73 ?_
    refine gX6_1 C hM (kX_7_0 hk0) gw_176 dX7_count_76 ?_
    refine gX5_1 C hM (kX_6_1 (kX_7_0 hk0)) gw_99 dX7_count_79 ?_
    exact gq_iret C hM h dX7_count_82
  by_cases hs2 : p0 = (2 : Int32)
  · replace h := h.2.2.1 hs2
    refine lv_tableIn (tgt := 83) hx hb dX7_count_1 (by rw [hs2]; decide) (by rw [hs2]; decide) (by rw [hs2]; rfl) (by decide) ?_
    refine lv_aload_n hx hb dX7_count_83 rfl (lv_at hl 0 rfl) ?_
    refine gX7_0 C hM hk0 gw_343 dX7_count_84 ?_
    refine gX6_7 C hM (kX_7_0 hk0) gw_189 dX7_count_87 ?_
    exact gq_iret C hM h dX7_count_90
  by_cases hs3 : p0 = (3 : Int32)
  · replace h := h.2.2.2.1 hs3
    refine lv_tableIn (tgt := 91) hx hb dX7_count_1 (by rw [hs3]; decide) (by rw [hs3]; decide) (by rw [hs3]; rfl) (by decide) ?_
    refine lv_aload_n hx hb dX7_count_91 rfl (lv_at hl 0 rfl) ?_
    refine gX7_0 C hM hk0 gw_343 dX7_count_92 ?_
    refine gX6_8 C hM (kX_7_0 hk0) gw_191 dX7_count_95 ?_
    exact gq_iret C hM h dX7_count_98
  by_cases hs4 : p0 = (4 : Int32)
  · replace h := h.2.2.2.2.1 hs4
    refine lv_tableIn (tgt := 99) hx hb dX7_count_1 (by rw [hs4]; decide) (by rw [hs4]; decide) (by rw [hs4]; rfl) (by decide) ?_
    refine lv_aload_n hx hb dX7_count_99 rfl (lv_at hl 0 rfl) ?_
    refine gX7_0 C hM hk0 gw_343 dX7_count_100 ?_
    refine gX6_9 C hM (kX_7_0 hk0) gw_193 dX7_count_103 ?_
    exact gq_iret C hM h dX7_count_106
  by_cases hs5 : p0 = (5 : Int32)
  · replace h := h.2.2.2.2.2.1 hs5
    refine lv_tableIn (tgt := 107) hx hb dX7_count_1 (by rw [hs5]; decide) (by rw [hs5]; decide) (by rw [hs5]; rfl) (by decide) ?_
    refine lv_aload_n hx hb dX7_count_107 rfl (lv_at hl 0 rfl) ?_
    refine gX7_0 C hM hk0 gw_343 dX7_count_108 ?_
    refine gX6_5 C hM (kX_7_0 hk0) gw_185 dX7_count_111 ?_
    exact gq_iret C hM h dX7_count_114
  by_cases hs6 : p0 = (6 : Int32)
  · replace h := h.2.2.2.2.2.2.1 hs6
    refine lv_tableIn (tgt := 115) hx hb dX7_count_1 (by rw [hs6]; decide) (by rw [hs6]; decide) (by rw [hs6]; rfl) (by decide) ?_
    refine lv_aload_n hx hb dX7_count_115 rfl (lv_at hl 0 rfl) ?_
    refine gX7_0 C hM hk0 gw_343 dX7_count_116 ?_
    refine gX6_6 C hM (kX_7_0 hk0) gw_187 dX7_count_119 ?_
    exact gq_iret C hM h dX7_count_122
  by_cases hs7 : p0 = (7 : Int32)
  · replace h := h.2.2.2.2.2.2.2.1 hs7
    refine lv_tableIn (tgt := 123) hx hb dX7_count_1 (by rw [hs7]; decide) (by rw [hs7]; decide) (by rw [hs7]; rfl) (by decide) ?_
    refine lv_aload_n hx hb dX7_count_123 rfl (lv_at hl 0 rfl) ?_
    refine gX7_0 C hM hk0 gw_343 dX7_count_124 ?_
    refine gX6_4 C hM (kX_7_0 hk0) gw_182 dX7_count_127 ?_
    exact gq_iret C hM h dX7_count_130
  by_cases hs8 : p0 = (8 : Int32)
  · replace h := h.2.2.2.2.2.2.2.2.1 hs8
    refine lv_tableIn (tgt := 131) hx hb dX7_count_1 (by rw [hs8]; decide) (by rw [hs8]; decide) (by rw [hs8]; rfl) (by decide) ?_
    refine lv_aload_n hx hb dX7_count_131 rfl (lv_at hl 0 rfl) ?_
    refine gX7_0 C hM hk0 gw_343 dX7_count_132 ?_
    refine gX6_2 C hM (kX_7_0 hk0) gw_178 dX7_count_135 ?_
    refine gX5_1 C hM (kX_6_2 (kX_7_0 hk0)) gw_99 dX7_count_138 ?_
    exact gq_iret C hM h dX7_count_141
  by_cases hs9 : p0 = (9 : Int32)
  · replace h := h.2.2.2.2.2.2.2.2.2.1 hs9
    refine lv_tableIn (tgt := 142) hx hb dX7_count_1 (by rw [hs9]; decide) (by rw [hs9]; decide) (by rw [hs9]; rfl) (by decide) ?_
    refine lv_aload_n hx hb dX7_count_142 rfl (lv_at hl 0 rfl) ?_
    refine gX7_5 C hM hk0 gw_348 dX7_count_143 ?_
    exact gq_iret C hM h dX7_count_146
  by_cases hs10 : p0 = (10 : Int32)
  · replace h := h.2.2.2.2.2.2.2.2.2.2.1 hs10
    refine lv_tableIn (tgt := 147) hx hb dX7_count_1 (by rw [hs10]; decide) (by rw [hs10]; decide) (by rw [hs10]; rfl) (by decide) ?_
    refine lv_aload_n hx hb dX7_count_147 rfl (lv_at hl 0 rfl) ?_
    refine gX7_3 C hM hk0 gw_346 dX7_count_148 ?_
    refine gX0_1 C hM (kX_7_3 hk0) gw_226 dX7_count_151 ?_
    exact gq_iret C hM h dX7_count_154
  by_cases hs11 : p0 = (11 : Int32)
  · replace h := h.2.2.2.2.2.2.2.2.2.2.2.1 hs11
    refine lv_tableIn (tgt := 155) hx hb dX7_count_1 (by rw [hs11]; decide) (by rw [hs11]; decide) (by rw [hs11]; rfl) (by decide) ?_
    refine lv_aload_n hx hb dX7_count_155 rfl (lv_at hl 0 rfl) ?_
    refine gX7_4 C hM hk0 gw_347 dX7_count_156 ?_
    refine gX1_2 C hM (kX_7_4 hk0) gw_244 dX7_count_159 ?_
    exact gq_iret C hM h dX7_count_162
  replace h := h.2.2.2.2.2.2.2.2.2.2.2.2 hs0 hs1 hs2 hs3 hs4 hs5 hs6 hs7 hs8 hs9 hs10 hs11
  refine lv_tableOut (tgt := 163) hx hb dX7_count_1 (by have q0 := lv_neT (a := 0) hs0 (by decide); have q1 := lv_neT (a := 1) hs1 (by decide); have q2 := lv_neT (a := 2) hs2 (by decide); have q3 := lv_neT (a := 3) hs3 (by decide); have q4 := lv_neT (a := 4) hs4 (by decide); have q5 := lv_neT (a := 5) hs5 (by decide); have q6 := lv_neT (a := 6) hs6 (by decide); have q7 := lv_neT (a := 7) hs7 (by decide); have q8 := lv_neT (a := 8) hs8 (by decide); have q9 := lv_neT (a := 9) hs9 (by decide); have q10 := lv_neT (a := 10) hs10 (by decide); have q11 := lv_neT (a := 11) hs11 (by decide); omega) (by decide) ?_
  refine gq_ldc (v := (-1000002 : Int32)) C gw_375 dX7_count_163 ?_
  exact gq_iret C hM h dX7_count_165
theorem k_X7_count : gx_kV yX7_count cX7_count 2 (some .int) 1 := ⟨⟨gw_712, gw_58, by decide, by decide, by decide +kernel⟩, gw_710, gw_711⟩
abbrev rm_X7_setGains : Room := { frames := 1, cells := 0, slots := 0, locals := 23 }
set_option maxHeartbeats 4000000 in
set_option maxRecDepth 100000 in
theorem tj_X7_setGains_59 (C : gx_C L 282 p s m args meth c RX7 cX7_setGains 5 (some .int)) {Q : Int32 → gx_M → Prop} {K4 : Nat → Nat → Int32 → Int32 → gx_M → Prop} (hK4 : ∀ (v0 : Nat) (v1 : Nat) (v2 : Int32) (v3 : Int32) (hv0 : kX v0 = 7) (hv1 : kX v1 = 4) (I : gx_M) (H : Heap) (locs : List Loc) (ls : Array Slot), gx_S L 282 (cellX L I) s.heap H locs → lv_has ls 5 [(0, .ref (gx_ad L v0)), (1, .ref (gx_ad L v1)), (2, .int v2), (3, .int v3)] → K4 v0 v1 v2 v3 I → W p l e rm_X7_setGains s m args below meth c H locs 0 0 (MQ below (va_Qi Q (fun I' t => gx_U L 282 (cellX L I') t) (gx_A L)) args s 0 0 (gx_A L)) (F0 m 4 ls [])) : ∀ (v0 : Nat) (v1 : Nat) (v2 : Int32) (v3 : Int32) (hv0 : kX v0 = 7) (hv1 : kX v1 = 4) (I : gx_M) (H : Heap) (locs : List Loc) (ls : Array Slot), gx_S L 282 (cellX L I) s.heap H locs → lv_has ls 5 [(0, .ref (gx_ad L v0)), (1, .ref (gx_ad L v1)), (2, .int v2), (3, .int v3)] → wj_X7_setGains_59 Q K4 v0 v1 v2 v3 I → W p l e rm_X7_setGains s m args below meth c H locs 0 0 (MQ below (va_Qi Q (fun I' t => gx_U L 282 (cellX L I') t) (gx_A L)) args s 0 0 (gx_A L)) (F0 m 59 ls []) := by
  have hx := C.1
  have hb := C.2.1
  intro v0 v1 v2 v3 hv0 hv1 I H locs ls hM hl h
  unfold wj_X7_setGains_59 at h
  obtain ⟨x1, ex1⟩ : ∃ z : Int32, z = v3 + (1 : Int32) := ⟨_, rfl⟩
  replace h := h x1 ex1
  refine lv_iinc (v := x1) (lv' := [(3, .int x1), (0, .ref (gx_ad L v0)), (1, .ref (gx_ad L v1)), (2, .int v2)]) hx hb dX7_setGains_59 hl (k := 3) rfl (by rw [ex1]; rfl) (by decide) rfl (fun ls hl => ?_)
  refine lv_goto (tgt := 4) hx hb dX7_setGains_62 (by decide) ?_
  exact hK4 v0 v1 v2 x1 (hv0) (hv1) I _ _ _ hM (lv_sub hl [1, 2, 3, 0] rfl) h
set_option maxHeartbeats 4000000 in
set_option maxRecDepth 100000 in
theorem tl_X7_setGains_4 (C : gx_C L 282 p s m args meth c RX7 cX7_setGains 5 (some .int)) {Q : Int32 → gx_M → Prop} : ∀ (fu : Nat) (v0 : Nat) (v1 : Nat) (v2 : Int32) (v3 : Int32) (hv0 : kX v0 = 7) (hv1 : kX v1 = 4) (I : gx_M) (H : Heap) (locs : List Loc) (ls : Array Slot), gx_S L 282 (cellX L I) s.heap H locs → lv_has ls 5 [(0, .ref (gx_ad L v0)), (1, .ref (gx_ad L v1)), (2, .int v2), (3, .int v3)] → wl_X7_setGains_4 Q fu v0 v1 v2 v3 I → W p l e rm_X7_setGains s m args below meth c H locs 0 0 (MQ below (va_Qi Q (fun I' t => gx_U L 282 (cellX L I') t) (gx_A L)) args s 0 0 (gx_A L)) (F0 m 4 ls []) := by
  have hx := C.1
  have hb := C.2.1
  intro fu
  induction fu with
  | zero => intros; rename_i h; exact False.elim h
  | succ fu ih =>
    intro v0 v1 v2 v3 hv0 hv1 I H locs ls hM hl h
    rw [wl_X7_setGains_4] at h
    refine lv_iload_n hx hb dX7_setGains_4 rfl (lv_at hl 3 rfl) ?_
    refine lv_iconst (v := (3 : Int32)) hx hb dX7_setGains_5 (by decide) ?_
    refine lv_icmp_ge (tgt := 65) hx hb dX7_setGains_6 (by decide) (fun hc => ?_) (fun hc => ?_)
    · replace h := h.1 hc
      refine lv_iload_n hx hb dX7_setGains_65 rfl (lv_at hl 2 rfl) ?_
      exact gq_iret C hM h dX7_setGains_66
    · replace h := h.2 hc
      refine lv_aload_n hx hb dX7_setGains_9 rfl (lv_at hl 0 rfl) ?_
      refine gX7_7 C hM hv0 gw_350 dX7_setGains_10 ?_
      refine gX2_6 C hM (kX_7_7 hv0) gw_295 dX7_setGains_13 ?_
      refine lv_i2l hx hb dX7_setGains_16 rfl ?_
      refine gq_ldc2 (v := (1000 : Int64)) C gw_605 dX7_setGains_17 ?_
      refine lv_lmul hx hb dX7_setGains_20 ?_
      refine lv_aload_n hx hb dX7_setGains_21 rfl (lv_at hl 0 rfl) ?_
      refine gX7_7 C hM hv0 gw_350 dX7_setGains_22 ?_
      refine gX2_4 C hM (kX_7_7 hv0) gw_291 dX7_setGains_25 ?_
      refine lv_iload_n hx hb dX7_setGains_28 rfl (lv_at hl 3 rfl) ?_
      refine gialdX C hM (kX_2_4 (kX_7_7 hv0)) h.1 dX7_setGains_29 ?_
      replace h := h.2
      refine lv_i2l hx hb dX7_setGains_30 rfl ?_
      refine gq_backl C hM (gq_runS (As := [.long ((Int32.toInt64 (I (v0 + 275) 6)) * (1000 : Int64)), .long (Int32.toInt64 (I ((v0 + 275) + 5) v3.toNatClampNeg))]) (rest := []) C hM (c_X7_quotient l L ((Int32.toInt64 (I (v0 + 275) 6)) * (1000 : Int64)) (Int32.toInt64 (I ((v0 + 275) + 5) v3.toNatClampNeg)) I _ h) k_X7_quotient gw_606 rfl hl.1 rfl (Nat.le_of_ble_eq_true rfl) ⟨⟨rfl, rfl⟩, Nat.le_of_ble_eq_true rfl, Nat.le_of_ble_eq_true rfl⟩ ⟨Nat.zero_le _, Nat.zero_le _⟩ dX7_setGains_31) (fun r1 I1 H locs h hM => ?_)
      refine lv_l2i hx hb dX7_setGains_34 rfl ?_
      refine lv_topi (fun x1 ex1 => ?_)
      replace h := h x1 ex1
      refine lv_istore (lv' := [(4, .int x1), (0, .ref (gx_ad L v0)), (1, .ref (gx_ad L v1)), (2, .int v2), (3, .int v3)]) hx hb dX7_setGains_35 hl (by decide) rfl (fun ls hl => ?_)
      refine lv_iload hx hb dX7_setGains_37 (lv_at hl 0 rfl) ?_
      refine lv_aload_n hx hb dX7_setGains_39 rfl (lv_at hl 2 rfl) ?_
      refine gX4_11 C hM hv1 gw_146 dX7_setGains_40 ?_
      refine lv_iload_n hx hb dX7_setGains_43 rfl (lv_at hl 4 rfl) ?_
      refine gialdX C hM (kX_4_11 hv1) h.1 dX7_setGains_44 ?_
      replace h := h.2
      refine lv_icmp_eq (tgt := 59) hx hb dX7_setGains_45 (by decide) (fun hc => ?_) (fun hc => ?_)
      · replace h := h.1 hc
        exact tj_X7_setGains_59 C ih v0 v1 v2 v3 (hv0) (hv1) I1 _ _ _ hM (lv_sub hl [1, 2, 3, 4] rfl) h
      · replace h := h.2 hc
        refine lv_aload_n hx hb dX7_setGains_48 rfl (lv_at hl 2 rfl) ?_
        refine gX4_11 C hM hv1 gw_146 dX7_setGains_49 ?_
        refine lv_iload_n hx hb dX7_setGains_52 rfl (lv_at hl 4 rfl) ?_
        refine lv_iload hx hb dX7_setGains_53 (lv_at hl 0 rfl) ?_
        have hi := h.1
        replace h := h.2
        obtain ⟨I2, eI2⟩ : ∃ z : gx_M, z = up I1 (v1 + 3) v3.toNatClampNeg x1 := ⟨_, rfl⟩
        replace h := h I2 eI2
        refine giastX C hM (kX_4_11 hv1) hi eI2 dX7_setGains_55 (fun H locs hM => ?_)
        obtain ⟨x2, ex2⟩ : ∃ z : Int32, z = v2 + (1 : Int32) := ⟨_, rfl⟩
        replace h := h x2 ex2
        refine lv_iinc (v := x2) (lv' := [(2, .int x2), (4, .int x1), (0, .ref (gx_ad L v0)), (1, .ref (gx_ad L v1)), (3, .int v3)]) hx hb dX7_setGains_56 hl (k := 3) rfl (by rw [ex2]; rfl) (by decide) rfl (fun ls hl => ?_)
        exact tj_X7_setGains_59 C ih v0 v1 x2 v3 (hv0) (hv1) I2 _ _ _ hM (lv_sub hl [2, 3, 0, 4] rfl) h
set_option maxHeartbeats 4000000 in
set_option maxRecDepth 100000 in
theorem c_X7_setGains (l : Launch) (L : gx_L) (a0 : Nat) (hk0 : kX a0 = 7) (p0 : Nat) (hp0 : kX p0 = 4) (I : gx_M) (Q : Int32 → gx_M → Prop) (h : wp_X7_setGains a0 p0 I Q) : Met l yX7_setGains (gx_w yX7_setGains cX7_setGains 5 (some .int)) rm_X7_setGains (va_Pc [.ref (gx_ad L a0), .ref (gx_ad L p0)] (gx_U L 282 (cellX L I))) (va_Qi Q (fun I' t => gx_U L 282 (cellX L I') t) (gx_A L)) 0 0 (gx_A L) := by
  refine gq_enter (by decide) (Nat.le_of_ble_eq_true rfl) (fun p e s m below meth c ls C hM hl => ?_)
  have C : gx_C L 282 p s m _ meth c RX7 cX7_setGains 5 (some .int) := C
  have hl : lv_has ls 5 [(0, .ref (gx_ad L a0)), (1, .ref (gx_ad L p0))] := hl
  have hx := C.1
  have hb := C.2.1
  unfold wp_X7_setGains at h
  refine lv_iconst (v := (0 : Int32)) hx hb dX7_setGains_0 (by decide) ?_
  refine lv_istore_n (lv' := [(2, .int (0 : Int32)), (0, .ref (gx_ad L a0)), (1, .ref (gx_ad L p0))]) hx hb dX7_setGains_1 rfl hl (by decide) rfl (fun ls hl => ?_)
  refine lv_iconst (v := (0 : Int32)) hx hb dX7_setGains_2 (by decide) ?_
  refine lv_istore_n (lv' := [(3, .int (0 : Int32)), (2, .int (0 : Int32)), (0, .ref (gx_ad L a0)), (1, .ref (gx_ad L p0))]) hx hb dX7_setGains_3 rfl hl (by decide) rfl (fun ls hl => ?_)
  obtain ⟨fu, h⟩ := h
  exact tl_X7_setGains_4 C fu a0 p0 (0 : Int32) (0 : Int32) (hk0) (hp0) I _ _ _ hM (lv_sub hl [2, 3, 1, 0] rfl) h
theorem k_X7_setGains : gx_kV yX7_setGains cX7_setGains 5 (some .int) 1 := ⟨⟨gw_604, gw_58, by decide, by decide, by decide +kernel⟩, gw_603, gw_15⟩
abbrev rm_X7_setZeros : Room := { frames := 0, cells := 0, slots := 0, locals := 0 }
set_option maxHeartbeats 4000000 in
set_option maxRecDepth 100000 in
theorem tj_X7_setZeros_49 (C : gx_C L 282 p s m args meth c RX7 cX7_setZeros 5 (some .int)) {Q : Int32 → gx_M → Prop} {K4 : Nat → Nat → Int32 → Int32 → gx_M → Prop} (hK4 : ∀ (v0 : Nat) (v1 : Nat) (v2 : Int32) (v3 : Int32) (hv0 : kX v0 = 7) (hv1 : kX v1 = 4) (I : gx_M) (H : Heap) (locs : List Loc) (ls : Array Slot), gx_S L 282 (cellX L I) s.heap H locs → lv_has ls 5 [(0, .ref (gx_ad L v0)), (1, .ref (gx_ad L v1)), (2, .int v2), (3, .int v3)] → K4 v0 v1 v2 v3 I → W p l e rm_X7_setZeros s m args below meth c H locs 0 0 (MQ below (va_Qi Q (fun I' t => gx_U L 282 (cellX L I') t) (gx_A L)) args s 0 0 (gx_A L)) (F0 m 4 ls [])) : ∀ (v0 : Nat) (v1 : Nat) (v2 : Int32) (v3 : Int32) (hv0 : kX v0 = 7) (hv1 : kX v1 = 4) (I : gx_M) (H : Heap) (locs : List Loc) (ls : Array Slot), gx_S L 282 (cellX L I) s.heap H locs → lv_has ls 5 [(0, .ref (gx_ad L v0)), (1, .ref (gx_ad L v1)), (2, .int v2), (3, .int v3)] → wj_X7_setZeros_49 Q K4 v0 v1 v2 v3 I → W p l e rm_X7_setZeros s m args below meth c H locs 0 0 (MQ below (va_Qi Q (fun I' t => gx_U L 282 (cellX L I') t) (gx_A L)) args s 0 0 (gx_A L)) (F0 m 49 ls []) := by
  have hx := C.1
  have hb := C.2.1
  intro v0 v1 v2 v3 hv0 hv1 I H locs ls hM hl h
  unfold wj_X7_setZeros_49 at h
  obtain ⟨x1, ex1⟩ : ∃ z : Int32, z = v3 + (1 : Int32) := ⟨_, rfl⟩
  replace h := h x1 ex1
  refine lv_iinc (v := x1) (lv' := [(3, .int x1), (0, .ref (gx_ad L v0)), (1, .ref (gx_ad L v1)), (2, .int v2)]) hx hb dX7_setZeros_49 hl (k := 3) rfl (by rw [ex1]; rfl) (by decide) rfl (fun ls hl => ?_)
  refine lv_goto (tgt := 4) hx hb dX7_setZeros_52 (by decide) ?_
  exact hK4 v0 v1 v2 x1 (hv0) (hv1) I _ _ _ hM (lv_sub hl [1, 2, 3, 0] rfl) h
set_option maxHeartbeats 4000000 in
set_option maxRecDepth 100000 in
theorem tl_X7_setZeros_4 (C : gx_C L 282 p s m args meth c RX7 cX7_setZeros 5 (some .int)) {Q : Int32 → gx_M → Prop} : ∀ (fu : Nat) (v0 : Nat) (v1 : Nat) (v2 : Int32) (v3 : Int32) (hv0 : kX v0 = 7) (hv1 : kX v1 = 4) (I : gx_M) (H : Heap) (locs : List Loc) (ls : Array Slot), gx_S L 282 (cellX L I) s.heap H locs → lv_has ls 5 [(0, .ref (gx_ad L v0)), (1, .ref (gx_ad L v1)), (2, .int v2), (3, .int v3)] → wl_X7_setZeros_4 Q fu v0 v1 v2 v3 I → W p l e rm_X7_setZeros s m args below meth c H locs 0 0 (MQ below (va_Qi Q (fun I' t => gx_U L 282 (cellX L I') t) (gx_A L)) args s 0 0 (gx_A L)) (F0 m 4 ls []) := by
  have hx := C.1
  have hb := C.2.1
  intro fu
  induction fu with
  | zero => intros; rename_i h; exact False.elim h
  | succ fu ih =>
    intro v0 v1 v2 v3 hv0 hv1 I H locs ls hM hl h
    rw [wl_X7_setZeros_4] at h
    refine lv_iload_n hx hb dX7_setZeros_4 rfl (lv_at hl 3 rfl) ?_
    refine lv_iconst (v := (3 : Int32)) hx hb dX7_setZeros_5 (by decide) ?_
    refine lv_icmp_ge (tgt := 55) hx hb dX7_setZeros_6 (by decide) (fun hc => ?_) (fun hc => ?_)
    · replace h := h.1 hc
      refine lv_iload_n hx hb dX7_setZeros_55 rfl (lv_at hl 2 rfl) ?_
      exact gq_iret C hM h dX7_setZeros_56
    · replace h := h.2 hc
      refine lv_aload_n hx hb dX7_setZeros_9 rfl (lv_at hl 1 rfl) ?_
      refine gX4_10 C hM hv1 gw_143 dX7_setZeros_10 ?_
      refine lv_iload_n hx hb dX7_setZeros_13 rfl (lv_at hl 3 rfl) ?_
      refine gialdX C hM (kX_4_10 hv1) h.1 dX7_setZeros_14 ?_
      replace h := h.2
      refine lv_aload_n hx hb dX7_setZeros_15 rfl (lv_at hl 0 rfl) ?_
      refine gX7_7 C hM hv0 gw_350 dX7_setZeros_16 ?_
      refine gX2_1 C hM (kX_7_7 hv0) gw_286 dX7_setZeros_19 ?_
      refine lv_iload_n hx hb dX7_setZeros_22 rfl (lv_at hl 3 rfl) ?_
      refine gialdX C hM (kX_2_1 (kX_7_7 hv0)) h.1 dX7_setZeros_23 ?_
      replace h := h.2
      refine lv_iadd hx hb dX7_setZeros_24 ?_
      refine lv_topi (fun x1 ex1 => ?_)
      replace h := h x1 ex1
      refine lv_istore (lv' := [(4, .int x1), (0, .ref (gx_ad L v0)), (1, .ref (gx_ad L v1)), (2, .int v2), (3, .int v3)]) hx hb dX7_setZeros_25 hl (by decide) rfl (fun ls hl => ?_)
      refine lv_iload hx hb dX7_setZeros_27 (lv_at hl 0 rfl) ?_
      refine lv_aload_n hx hb dX7_setZeros_29 rfl (lv_at hl 2 rfl) ?_
      refine gX4_10 C hM hv1 gw_143 dX7_setZeros_30 ?_
      refine lv_iload_n hx hb dX7_setZeros_33 rfl (lv_at hl 4 rfl) ?_
      refine gialdX C hM (kX_4_10 hv1) h.1 dX7_setZeros_34 ?_
      replace h := h.2
      refine lv_icmp_eq (tgt := 49) hx hb dX7_setZeros_35 (by decide) (fun hc => ?_) (fun hc => ?_)
      · replace h := h.1 hc
        exact tj_X7_setZeros_49 C ih v0 v1 v2 v3 (hv0) (hv1) I _ _ _ hM (lv_sub hl [1, 2, 3, 4] rfl) h
      · replace h := h.2 hc
        refine lv_aload_n hx hb dX7_setZeros_38 rfl (lv_at hl 2 rfl) ?_
        refine gX4_10 C hM hv1 gw_143 dX7_setZeros_39 ?_
        refine lv_iload_n hx hb dX7_setZeros_42 rfl (lv_at hl 4 rfl) ?_
        refine lv_iload hx hb dX7_setZeros_43 (lv_at hl 0 rfl) ?_
        have hi := h.1
        replace h := h.2
        obtain ⟨I1, eI1⟩ : ∃ z : gx_M, z = up I (v1 + 2) v3.toNatClampNeg x1 := ⟨_, rfl⟩
        replace h := h I1 eI1
        refine giastX C hM (kX_4_10 hv1) hi eI1 dX7_setZeros_45 (fun H locs hM => ?_)
        obtain ⟨x2, ex2⟩ : ∃ z : Int32, z = v2 + (1 : Int32) := ⟨_, rfl⟩
        replace h := h x2 ex2
        refine lv_iinc (v := x2) (lv' := [(2, .int x2), (4, .int x1), (0, .ref (gx_ad L v0)), (1, .ref (gx_ad L v1)), (3, .int v3)]) hx hb dX7_setZeros_46 hl (k := 3) rfl (by rw [ex2]; rfl) (by decide) rfl (fun ls hl => ?_)
        exact tj_X7_setZeros_49 C ih v0 v1 x2 v3 (hv0) (hv1) I1 _ _ _ hM (lv_sub hl [2, 3, 0, 4] rfl) h
set_option maxHeartbeats 4000000 in
set_option maxRecDepth 100000 in
theorem c_X7_setZeros (l : Launch) (L : gx_L) (a0 : Nat) (hk0 : kX a0 = 7) (p0 : Nat) (hp0 : kX p0 = 4) (I : gx_M) (Q : Int32 → gx_M → Prop) (h : wp_X7_setZeros a0 p0 I Q) : Met l yX7_setZeros (gx_w yX7_setZeros cX7_setZeros 5 (some .int)) rm_X7_setZeros (va_Pc [.ref (gx_ad L a0), .ref (gx_ad L p0)] (gx_U L 282 (cellX L I))) (va_Qi Q (fun I' t => gx_U L 282 (cellX L I') t) (gx_A L)) 0 0 (gx_A L) := by
  refine gq_enter (by decide) (Nat.le_of_ble_eq_true rfl) (fun p e s m below meth c ls C hM hl => ?_)
  have C : gx_C L 282 p s m _ meth c RX7 cX7_setZeros 5 (some .int) := C
  have hl : lv_has ls 5 [(0, .ref (gx_ad L a0)), (1, .ref (gx_ad L p0))] := hl
  have hx := C.1
  have hb := C.2.1
  unfold wp_X7_setZeros at h
  refine lv_iconst (v := (0 : Int32)) hx hb dX7_setZeros_0 (by decide) ?_
  refine lv_istore_n (lv' := [(2, .int (0 : Int32)), (0, .ref (gx_ad L a0)), (1, .ref (gx_ad L p0))]) hx hb dX7_setZeros_1 rfl hl (by decide) rfl (fun ls hl => ?_)
  refine lv_iconst (v := (0 : Int32)) hx hb dX7_setZeros_2 (by decide) ?_
  refine lv_istore_n (lv' := [(3, .int (0 : Int32)), (2, .int (0 : Int32)), (0, .ref (gx_ad L a0)), (1, .ref (gx_ad L p0))]) hx hb dX7_setZeros_3 rfl hl (by decide) rfl (fun ls hl => ?_)
  obtain ⟨fu, h⟩ := h
  exact tl_X7_setZeros_4 C fu a0 p0 (0 : Int32) (0 : Int32) (hk0) (hp0) I _ _ _ hM (lv_sub hl [2, 3, 1, 0] rfl) h
theorem k_X7_setZeros : gx_kV yX7_setZeros cX7_setZeros 5 (some .int) 1 := ⟨⟨gw_600, gw_58, by decide, by decide, by decide +kernel⟩, gw_599, gw_14⟩
abbrev rm_X7_perform : Room := { frames := 2, cells := 0, slots := 0, locals := 47 }
set_option maxHeartbeats 4000000 in
set_option maxRecDepth 100000 in
theorem c_X7_perform (l : Launch) (L : gx_L) (a0 : Nat) (hk0 : kX a0 = 7) (p0 : Int32) (p1 : Nat) (hp1 : kX p1 = 4) (I : gx_M) (Q : Int32 → gx_M → Prop) (h : wp_X7_perform a0 p0 p1 I Q) : Met l yX7_perform (gx_w yX7_perform cX7_perform 3 (some .int)) rm_X7_perform (va_Pc [.ref (gx_ad L a0), .int p0, .ref (gx_ad L p1)] (gx_U L 282 (cellX L I))) (va_Qi Q (fun I' t => gx_U L 282 (cellX L I') t) (gx_A L)) 0 0 (gx_A L) := by
  refine gq_enter (by decide) (Nat.le_of_ble_eq_true rfl) (fun p e s m below meth c ls C hM hl => ?_)
  have C : gx_C L 282 p s m _ meth c RX7 cX7_perform 3 (some .int) := C
  have hl : lv_has ls 3 [(0, .ref (gx_ad L a0)), (1, .int p0), (2, .ref (gx_ad L p1))] := hl
  have hx := C.1
  have hb := C.2.1
  unfold wp_X7_perform at h
  refine lv_iload_n hx hb dX7_perform_0 rfl (lv_at hl 1 rfl) ?_
  by_cases hs0 : p0 = (0 : Int32)
  · replace h := h.1 hs0
    refine lv_lookup (tgt := 28) hx hb dX7_perform_1 (by decide) (off := 27) (by rw [hs0]; decide) (by decide) ?_
    refine lv_aload_n hx hb dX7_perform_28 rfl (lv_at hl 0 rfl) ?_
    refine gX7_7 C hM hk0 gw_350 dX7_perform_29 ?_
    refine gX2_12 C hM (kX_7_7 hk0) gw_307 dX7_perform_32 ?_
    refine lv_aload_n hx hb dX7_perform_35 rfl (lv_at hl 0 rfl) ?_
    refine gX7_7 C hM hk0 gw_350 dX7_perform_36 ?_
    refine gX2_14 C hM (kX_7_7 hk0) gw_311 dX7_perform_39 ?_
    refine lv_iadd hx hb dX7_perform_42 ?_
    exact gq_iret C hM h dX7_perform_43
  by_cases hs1 : p0 = (1 : Int32)
  · replace h := h.2.1 hs1
    refine lv_lookup (tgt := 44) hx hb dX7_perform_1 (by decide) (off := 43) (by rw [hs1]; decide) (by decide) ?_
    refine lv_aload_n hx hb dX7_perform_44 rfl (lv_at hl 0 rfl) ?_
    refine lv_aload_n hx hb dX7_perform_45 rfl (lv_at hl 2 rfl) ?_
    refine gq_backi C hM (gq_runV (As := [.ref (gx_ad L p1)]) (rest := []) C hM (kX_lt hk0 (by decide)) (cX_7 hk0) rfl (c_X7_setZeros l L a0 hk0 p1 hp1 I _ h) k_X7_setZeros gw_597 rfl hl.1 rfl (Nat.le_of_ble_eq_true rfl) ⟨⟨rfl, rfl⟩, Nat.le_of_ble_eq_true rfl, Nat.le_of_ble_eq_true rfl⟩ ⟨Nat.zero_le _, Nat.zero_le _⟩ dX7_perform_46) (fun r1 I1 H locs h hM => ?_)
    exact gq_iret C hM h dX7_perform_49
  replace h := h.2.2 hs0 hs1
  refine lv_lookup (tgt := 50) hx hb dX7_perform_1 (by decide) (off := 49) (by rw [lv_osw (k := (0 : Int32)) hs0 (by decide)]; rw [lv_osw (k := (1 : Int32)) hs1 (by decide)]; rfl) (by decide) ?_
  refine lv_aload_n hx hb dX7_perform_50 rfl (lv_at hl 0 rfl) ?_
  refine lv_aload_n hx hb dX7_perform_51 rfl (lv_at hl 2 rfl) ?_
  refine gq_backi C hM (gq_runV (As := [.ref (gx_ad L p1)]) (rest := []) C hM (kX_lt hk0 (by decide)) (cX_7 hk0) rfl (c_X7_setGains l L a0 hk0 p1 hp1 I _ h) k_X7_setGains gw_601 rfl hl.1 rfl (Nat.le_of_ble_eq_true rfl) ⟨⟨rfl, rfl⟩, Nat.le_of_ble_eq_true rfl, Nat.le_of_ble_eq_true rfl⟩ ⟨Nat.zero_le _, Nat.zero_le _⟩ dX7_perform_52) (fun r2 I2 H locs h hM => ?_)
  exact gq_iret C hM h dX7_perform_55
theorem k_X7_perform : gx_kV yX7_perform cX7_perform 3 (some .int) 2 := ⟨⟨gw_596, gw_58, by decide, by decide, by decide +kernel⟩, gw_595, gw_13⟩
abbrev rm_X7_reasonAgainstBalance : Room := { frames := 2, cells := 0, slots := 0, locals := 43 }
set_option maxHeartbeats 4000000 in
set_option maxRecDepth 100000 in
theorem tl_X7_reasonAgainstBalance_11 (C : gx_C L 282 p s m args meth c RX7 cX7_reasonAgainstBalance 3 (some .int)) {Q : Int32 → gx_M → Prop} : ∀ (fu : Nat) (v0 : Nat) (v1 : Nat) (v2 : Int32) (hv0 : kX v0 = 7) (hv1 : kX v1 = 4) (I : gx_M) (H : Heap) (locs : List Loc) (ls : Array Slot), gx_S L 282 (cellX L I) s.heap H locs → lv_has ls 3 [(0, .ref (gx_ad L v0)), (1, .ref (gx_ad L v1)), (2, .int v2)] → wl_X7_reasonAgainstBalance_11 Q fu v0 v1 v2 I → W p l e rm_X7_reasonAgainstBalance s m args below meth c H locs 0 0 (MQ below (va_Qi Q (fun I' t => gx_U L 282 (cellX L I') t) (gx_A L)) args s 0 0 (gx_A L)) (F0 m 11 ls []) := by
  have hx := C.1
  have hb := C.2.1
  intro fu
  induction fu with
  | zero => intros; rename_i h; exact False.elim h
  | succ fu ih =>
    intro v0 v1 v2 hv0 hv1 I H locs ls hM hl h
    rw [wl_X7_reasonAgainstBalance_11] at h
    refine lv_iload_n hx hb dX7_reasonAgainstBalance_11 rfl (lv_at hl 2 rfl) ?_
    refine lv_iconst (v := (3 : Int32)) hx hb dX7_reasonAgainstBalance_12 (by decide) ?_
    refine lv_icmp_ge (tgt := 49) hx hb dX7_reasonAgainstBalance_13 (by decide) (fun hc => ?_) (fun hc => ?_)
    · replace h := h.1 hc
      refine lv_iconst (v := (0 : Int32)) hx hb dX7_reasonAgainstBalance_49 (by decide) ?_
      exact gq_iret C hM h dX7_reasonAgainstBalance_50
    · replace h := h.2 hc
      refine lv_aload_n hx hb dX7_reasonAgainstBalance_16 rfl (lv_at hl 1 rfl) ?_
      refine gX4_10 C hM hv1 gw_143 dX7_reasonAgainstBalance_17 ?_
      refine lv_iload_n hx hb dX7_reasonAgainstBalance_20 rfl (lv_at hl 2 rfl) ?_
      refine gialdX C hM (kX_4_10 hv1) h.1 dX7_reasonAgainstBalance_21 ?_
      replace h := h.2
      refine lv_aload_n hx hb dX7_reasonAgainstBalance_22 rfl (lv_at hl 0 rfl) ?_
      refine gX7_7 C hM hv0 gw_350 dX7_reasonAgainstBalance_23 ?_
      refine gX2_1 C hM (kX_7_7 hv0) gw_286 dX7_reasonAgainstBalance_26 ?_
      refine lv_iload_n hx hb dX7_reasonAgainstBalance_29 rfl (lv_at hl 2 rfl) ?_
      refine gialdX C hM (kX_2_1 (kX_7_7 hv0)) h.1 dX7_reasonAgainstBalance_30 ?_
      replace h := h.2
      refine lv_iadd hx hb dX7_reasonAgainstBalance_31 ?_
      refine lv_sipush (v := (15000 : Int32)) hx hb dX7_reasonAgainstBalance_32 (by decide) ?_
      refine gq_backi C hM (gq_runS (As := [.int ((I (v1 + 2) v2.toNatClampNeg) + (I ((v0 + 275) + 2) v2.toNatClampNeg)), .int (15000 : Int32)]) (rest := []) C hM (c_X7_isAround0 l L ((I (v1 + 2) v2.toNatClampNeg) + (I ((v0 + 275) + 2) v2.toNatClampNeg)) (15000 : Int32) I _ h) k_X7_isAround0 gw_426 rfl hl.1 rfl (Nat.le_of_ble_eq_true rfl) ⟨⟨rfl, rfl⟩, Nat.le_of_ble_eq_true rfl, Nat.le_of_ble_eq_true rfl⟩ ⟨Nat.zero_le _, Nat.zero_le _⟩ dX7_reasonAgainstBalance_35) (fun r1 I1 H locs h hM => ?_)
      obtain ⟨hz1, h⟩ := h
      refine lv_if_ne (tgt := 43) hx hb dX7_reasonAgainstBalance_38 (by decide) (fun hc => ?_) (fun hc => ?_)
      · replace h := h.2 hc
        obtain ⟨x1, ex1⟩ : ∃ z : Int32, z = v2 + (1 : Int32) := ⟨_, rfl⟩
        replace h := h x1 ex1
        refine lv_iinc (v := x1) (lv' := [(2, .int x1), (0, .ref (gx_ad L v0)), (1, .ref (gx_ad L v1))]) hx hb dX7_reasonAgainstBalance_43 hl (k := 2) rfl (by rw [ex1]; rfl) (by decide) rfl (fun ls hl => ?_)
        refine lv_goto (tgt := 11) hx hb dX7_reasonAgainstBalance_46 (by decide) ?_
        exact ih v0 v1 x1 (hv0) (hv1) I1 _ _ _ hM (lv_sub hl [1, 2, 0] rfl) h
      · replace h := h.1 hc
        refine lv_iconst (v := (3 : Int32)) hx hb dX7_reasonAgainstBalance_41 (by decide) ?_
        exact gq_iret C hM h dX7_reasonAgainstBalance_42
set_option maxHeartbeats 4000000 in
set_option maxRecDepth 100000 in
theorem c_X7_reasonAgainstBalance (l : Launch) (L : gx_L) (a0 : Nat) (hk0 : kX a0 = 7) (p0 : Nat) (hp0 : kX p0 = 4) (I : gx_M) (Q : Int32 → gx_M → Prop) (h : wp_X7_reasonAgainstBalance a0 p0 I Q) : Met l yX7_reasonAgainstBalance (gx_w yX7_reasonAgainstBalance cX7_reasonAgainstBalance 3 (some .int)) rm_X7_reasonAgainstBalance (va_Pc [.ref (gx_ad L a0), .ref (gx_ad L p0)] (gx_U L 282 (cellX L I))) (va_Qi Q (fun I' t => gx_U L 282 (cellX L I') t) (gx_A L)) 0 0 (gx_A L) := by
  refine gq_enter (by decide) (Nat.le_of_ble_eq_true rfl) (fun p e s m below meth c ls C hM hl => ?_)
  have C : gx_C L 282 p s m _ meth c RX7 cX7_reasonAgainstBalance 3 (some .int) := C
  have hl : lv_has ls 3 [(0, .ref (gx_ad L a0)), (1, .ref (gx_ad L p0))] := hl
  have hx := C.1
  have hb := C.2.1
  unfold wp_X7_reasonAgainstBalance at h
  refine lv_aload_n hx hb dX7_reasonAgainstBalance_0 rfl (lv_at hl 1 rfl) ?_
  refine gX4_8 C hM hp0 gw_136 dX7_reasonAgainstBalance_1 ?_
  refine lv_if_eq (tgt := 9) hx hb dX7_reasonAgainstBalance_4 (by decide) (fun hc => ?_) (fun hc => ?_)
  · replace h := h.1 hc
    refine lv_iconst (v := (0 : Int32)) hx hb dX7_reasonAgainstBalance_9 (by decide) ?_
    refine lv_istore_n (lv' := [(2, .int (0 : Int32)), (0, .ref (gx_ad L a0)), (1, .ref (gx_ad L p0))]) hx hb dX7_reasonAgainstBalance_10 rfl hl (by decide) rfl (fun ls hl => ?_)
    obtain ⟨fu, h⟩ := h
    exact tl_X7_reasonAgainstBalance_11 C fu a0 p0 (0 : Int32) (hk0) (hp0) I _ _ _ hM (lv_sub hl [1, 2, 0] rfl) h
  · replace h := h.2 hc
    refine lv_iconst (v := (4 : Int32)) hx hb dX7_reasonAgainstBalance_7 (by decide) ?_
    exact gq_iret C hM h dX7_reasonAgainstBalance_8
theorem k_X7_reasonAgainstBalance : gx_kV yX7_reasonAgainstBalance cX7_reasonAgainstBalance 3 (some .int) 1 := ⟨⟨gw_588, gw_58, by decide, by decide, by decide +kernel⟩, gw_587, gw_11⟩
abbrev rm_X7_reasonAgainstCheck : Room := { frames := 0, cells := 0, slots := 0, locals := 0 }
set_option maxHeartbeats 4000000 in
set_option maxRecDepth 100000 in
theorem tl_X7_reasonAgainstCheck_14 (C : gx_C L 282 p s m args meth c RX7 cX7_reasonAgainstCheck 2 (some .int)) {Q : Int32 → gx_M → Prop} : ∀ (fu : Nat) (v0 : Nat) (v1 : Int32) (hv0 : kX v0 = 7) (I : gx_M) (H : Heap) (locs : List Loc) (ls : Array Slot), gx_S L 282 (cellX L I) s.heap H locs → lv_has ls 2 [(0, .ref (gx_ad L v0)), (1, .int v1)] → wl_X7_reasonAgainstCheck_14 Q fu v0 v1 I → W p l e rm_X7_reasonAgainstCheck s m args below meth c H locs 0 0 (MQ below (va_Qi Q (fun I' t => gx_U L 282 (cellX L I') t) (gx_A L)) args s 0 0 (gx_A L)) (F0 m 14 ls []) := by
  have hx := C.1
  have hb := C.2.1
  intro fu
  induction fu with
  | zero => intros; rename_i h; exact False.elim h
  | succ fu ih =>
    intro v0 v1 hv0 I H locs ls hM hl h
    rw [wl_X7_reasonAgainstCheck_14] at h
    refine lv_iload_n hx hb dX7_reasonAgainstCheck_14 rfl (lv_at hl 1 rfl) ?_
    refine lv_iconst (v := (3 : Int32)) hx hb dX7_reasonAgainstCheck_15 (by decide) ?_
    refine lv_icmp_ge (tgt := 39) hx hb dX7_reasonAgainstCheck_16 (by decide) (fun hc => ?_) (fun hc => ?_)
    · replace h := h.1 hc
      refine lv_iconst (v := (0 : Int32)) hx hb dX7_reasonAgainstCheck_39 (by decide) ?_
      exact gq_iret C hM h dX7_reasonAgainstCheck_40
    · replace h := h.2 hc
      refine lv_aload_n hx hb dX7_reasonAgainstCheck_19 rfl (lv_at hl 0 rfl) ?_
      refine gX7_7 C hM hv0 gw_350 dX7_reasonAgainstCheck_20 ?_
      refine gX2_4 C hM (kX_7_7 hv0) gw_291 dX7_reasonAgainstCheck_23 ?_
      refine lv_iload_n hx hb dX7_reasonAgainstCheck_26 rfl (lv_at hl 1 rfl) ?_
      refine gialdX C hM (kX_2_4 (kX_7_7 hv0)) h.1 dX7_reasonAgainstCheck_27 ?_
      replace h := h.2
      refine lv_if_ne (tgt := 33) hx hb dX7_reasonAgainstCheck_28 (by decide) (fun hc => ?_) (fun hc => ?_)
      · replace h := h.2 hc
        obtain ⟨x1, ex1⟩ : ∃ z : Int32, z = v1 + (1 : Int32) := ⟨_, rfl⟩
        replace h := h x1 ex1
        refine lv_iinc (v := x1) (lv' := [(1, .int x1), (0, .ref (gx_ad L v0))]) hx hb dX7_reasonAgainstCheck_33 hl (k := 1) rfl (by rw [ex1]; rfl) (by decide) rfl (fun ls hl => ?_)
        refine lv_goto (tgt := 14) hx hb dX7_reasonAgainstCheck_36 (by decide) ?_
        exact ih v0 x1 (hv0) I _ _ _ hM (lv_sub hl [1, 0] rfl) h
      · replace h := h.1 hc
        refine lv_iconst (v := (5 : Int32)) hx hb dX7_reasonAgainstCheck_31 (by decide) ?_
        exact gq_iret C hM h dX7_reasonAgainstCheck_32
set_option maxHeartbeats 4000000 in
set_option maxRecDepth 100000 in
theorem c_X7_reasonAgainstCheck (l : Launch) (L : gx_L) (a0 : Nat) (hk0 : kX a0 = 7) (I : gx_M) (Q : Int32 → gx_M → Prop) (h : wp_X7_reasonAgainstCheck a0 I Q) : Met l yX7_reasonAgainstCheck (gx_w yX7_reasonAgainstCheck cX7_reasonAgainstCheck 2 (some .int)) rm_X7_reasonAgainstCheck (va_Pc [.ref (gx_ad L a0)] (gx_U L 282 (cellX L I))) (va_Qi Q (fun I' t => gx_U L 282 (cellX L I') t) (gx_A L)) 0 0 (gx_A L) := by
  refine gq_enter (by decide) (Nat.le_of_ble_eq_true rfl) (fun p e s m below meth c ls C hM hl => ?_)
  have C : gx_C L 282 p s m _ meth c RX7 cX7_reasonAgainstCheck 2 (some .int) := C
  have hl : lv_has ls 2 [(0, .ref (gx_ad L a0))] := hl
  have hx := C.1
  have hb := C.2.1
  unfold wp_X7_reasonAgainstCheck at h
  refine lv_aload_n hx hb dX7_reasonAgainstCheck_0 rfl (lv_at hl 0 rfl) ?_
  refine gX7_7 C hM hk0 gw_350 dX7_reasonAgainstCheck_1 ?_
  refine gX2_8 C hM (kX_7_7 hk0) gw_299 dX7_reasonAgainstCheck_4 ?_
  refine lv_if_eq (tgt := 12) hx hb dX7_reasonAgainstCheck_7 (by decide) (fun hc => ?_) (fun hc => ?_)
  · replace h := h.1 hc
    refine lv_iconst (v := (0 : Int32)) hx hb dX7_reasonAgainstCheck_12 (by decide) ?_
    refine lv_istore_n (lv' := [(1, .int (0 : Int32)), (0, .ref (gx_ad L a0))]) hx hb dX7_reasonAgainstCheck_13 rfl hl (by decide) rfl (fun ls hl => ?_)
    obtain ⟨fu, h⟩ := h
    exact tl_X7_reasonAgainstCheck_14 C fu a0 (0 : Int32) (hk0) I _ _ _ hM (lv_sub hl [1, 0] rfl) h
  · replace h := h.2 hc
    refine lv_iconst (v := (2 : Int32)) hx hb dX7_reasonAgainstCheck_10 (by decide) ?_
    exact gq_iret C hM h dX7_reasonAgainstCheck_11
theorem k_X7_reasonAgainstCheck : gx_kV yX7_reasonAgainstCheck cX7_reasonAgainstCheck 2 (some .int) 0 := ⟨⟨gw_592, gw_58, by decide, by decide, by decide +kernel⟩, gw_591, gw_12⟩
abbrev rm_X7_reasonAgainst : Room := { frames := 3, cells := 0, slots := 0, locals := 65 }
set_option maxHeartbeats 4000000 in
set_option maxRecDepth 100000 in
theorem c_X7_reasonAgainst (l : Launch) (L : gx_L) (a0 : Nat) (hk0 : kX a0 = 7) (p0 : Int32) (p1 : Nat) (hp1 : kX p1 = 4) (I : gx_M) (Q : Int32 → gx_M → Prop) (h : wp_X7_reasonAgainst a0 p0 p1 I Q) : Met l yX7_reasonAgainst (gx_w yX7_reasonAgainst cX7_reasonAgainst 3 (some .int)) rm_X7_reasonAgainst (va_Pc [.ref (gx_ad L a0), .int p0, .ref (gx_ad L p1)] (gx_U L 282 (cellX L I))) (va_Qi Q (fun I' t => gx_U L 282 (cellX L I') t) (gx_A L)) 0 0 (gx_A L) := by
  refine gq_enter (by decide) (Nat.le_of_ble_eq_true rfl) (fun p e s m below meth c ls C hM hl => ?_)
  have C : gx_C L 282 p s m _ meth c RX7 cX7_reasonAgainst 3 (some .int) := C
  have hl : lv_has ls 3 [(0, .ref (gx_ad L a0)), (1, .int p0), (2, .ref (gx_ad L p1))] := hl
  have hx := C.1
  have hb := C.2.1
  unfold wp_X7_reasonAgainst at h
  refine lv_iload_n hx hb dX7_reasonAgainst_0 rfl (lv_at hl 1 rfl) ?_
  by_cases hs0 : p0 = (0 : Int32)
  · replace h := h.1 hs0
    refine lv_lookup (tgt := 28) hx hb dX7_reasonAgainst_1 (by decide) (off := 27) (by rw [hs0]; decide) (by decide) ?_
    refine lv_aload_n hx hb dX7_reasonAgainst_28 rfl (lv_at hl 0 rfl) ?_
    refine gX7_7 C hM hk0 gw_350 dX7_reasonAgainst_29 ?_
    refine gX2_7 C hM (kX_7_7 hk0) gw_297 dX7_reasonAgainst_32 ?_
    refine lv_if_le (tgt := 42) hx hb dX7_reasonAgainst_35 (by decide) (fun hc => ?_) (fun hc => ?_)
    · replace h := h.1 hc
      refine lv_iconst (v := (0 : Int32)) hx hb dX7_reasonAgainst_42 (by decide) ?_
      exact gq_iret C hM h dX7_reasonAgainst_43
    · replace h := h.2 hc
      refine lv_iconst (v := (2 : Int32)) hx hb dX7_reasonAgainst_38 (by decide) ?_
      refine lv_goto (tgt := 43) hx hb dX7_reasonAgainst_39 (by decide) ?_
      exact gq_iret C hM h dX7_reasonAgainst_43
  by_cases hs1 : p0 = (1 : Int32)
  · replace h := h.2.1 hs1
    refine lv_lookup (tgt := 44) hx hb dX7_reasonAgainst_1 (by decide) (off := 43) (by rw [hs1]; decide) (by decide) ?_
    refine lv_aload_n hx hb dX7_reasonAgainst_44 rfl (lv_at hl 0 rfl) ?_
    refine lv_aload_n hx hb dX7_reasonAgainst_45 rfl (lv_at hl 2 rfl) ?_
    refine gq_backi C hM (gq_runV (As := [.ref (gx_ad L p1)]) (rest := []) C hM (kX_lt hk0 (by decide)) (cX_7 hk0) rfl (c_X7_reasonAgainstBalance l L a0 hk0 p1 hp1 I _ h) k_X7_reasonAgainstBalance gw_585 rfl hl.1 rfl (Nat.le_of_ble_eq_true rfl) ⟨⟨rfl, rfl⟩, Nat.le_of_ble_eq_true rfl, Nat.le_of_ble_eq_true rfl⟩ ⟨Nat.zero_le _, Nat.zero_le _⟩ dX7_reasonAgainst_46) (fun r1 I1 H locs h hM => ?_)
    exact gq_iret C hM h dX7_reasonAgainst_49
  replace h := h.2.2 hs0 hs1
  refine lv_lookup (tgt := 50) hx hb dX7_reasonAgainst_1 (by decide) (off := 49) (by rw [lv_osw (k := (0 : Int32)) hs0 (by decide)]; rw [lv_osw (k := (1 : Int32)) hs1 (by decide)]; rfl) (by decide) ?_
  refine lv_aload_n hx hb dX7_reasonAgainst_50 rfl (lv_at hl 0 rfl) ?_
  refine gq_backi C hM (gq_runV (As := []) (rest := []) C hM (kX_lt hk0 (by decide)) (cX_7 hk0) rfl (c_X7_reasonAgainstCheck l L a0 hk0 I _ h) k_X7_reasonAgainstCheck gw_589 rfl hl.1 rfl (Nat.le_of_ble_eq_true rfl) ⟨⟨rfl, rfl⟩, Nat.le_of_ble_eq_true rfl, Nat.le_of_ble_eq_true rfl⟩ ⟨Nat.zero_le _, Nat.zero_le _⟩ dX7_reasonAgainst_51) (fun r2 I2 H locs h hM => ?_)
  exact gq_iret C hM h dX7_reasonAgainst_54
theorem k_X7_reasonAgainst : gx_kV yX7_reasonAgainst cX7_reasonAgainst 3 (some .int) 2 := ⟨⟨gw_584, gw_58, by decide, by decide, by decide +kernel⟩, gw_583, gw_10⟩
abbrev rm_X7_doJob : Room := { frames := 5, cells := 0, slots := 0, locals := 110 }
set_option maxHeartbeats 4000000 in
set_option maxRecDepth 100000 in
theorem tj_X7_doJob_130 (C : gx_C L 282 p s m args meth c RX7 cX7_doJob 7 none) {Q : gx_M → Prop} : ∀ (v0 : Nat) (v2 : Int32) (v3 : Int32) (v5 : Int32) (v6 : Int32) (hv0 : kX v0 = 7) (I : gx_M) (H : Heap) (locs : List Loc) (ls : Array Slot), gx_S L 282 (cellX L I) s.heap H locs → lv_has ls 7 [(0, .ref (gx_ad L v0)), (2, .int v2), (3, .int v3), (5, .int v5), (6, .int v6)] → wj_X7_doJob_130 Q v0 v2 v3 v5 v6 I → W p l e rm_X7_doJob s m args below meth c H locs 0 0 (MQ below (va_Qv Q (fun I' t => gx_U L 282 (cellX L I') t) (gx_A L)) args s 0 0 (gx_A L)) (F0 m 130 ls []) := by
  have hx := C.1
  have hb := C.2.1
  intro v0 v2 v3 v5 v6 hv0 I H locs ls hM hl h
  unfold wj_X7_doJob_130 at h
  refine lv_aload_n hx hb dX7_doJob_130 rfl (lv_at hl 0 rfl) ?_
  refine gX7_0 C hM hv0 gw_343 dX7_doJob_131 ?_
  refine lv_dup hx hb dX7_doJob_134 rfl ?_
  refine gX6_8 C hM (kX_7_0 hv0) gw_191 dX7_doJob_135 ?_
  refine lv_iconst (v := (1 : Int32)) hx hb dX7_doJob_138 (by decide) ?_
  refine lv_iadd hx hb dX7_doJob_139 ?_
  obtain ⟨I1, eI1⟩ : ∃ z : gx_M, z = up I (v0 + 1) 8 ((I (v0 + 1) 8) + (1 : Int32)) := ⟨_, rfl⟩
  replace h := h I1 eI1
  refine pX6_8 C hM (kX_7_0 hv0) eI1 gw_191 dX7_doJob_140 (fun H locs hM => ?_)
  refine lv_aload_n hx hb dX7_doJob_143 rfl (lv_at hl 0 rfl) ?_
  refine gX7_0 C hM hv0 gw_343 dX7_doJob_144 ?_
  refine lv_iload_n hx hb dX7_doJob_147 rfl (lv_at hl 1 rfl) ?_
  refine lv_iload_n hx hb dX7_doJob_148 rfl (lv_at hl 2 rfl) ?_
  refine lv_iload hx hb dX7_doJob_149 (lv_at hl 4 rfl) ?_
  refine lv_iload hx hb dX7_doJob_151 (lv_at hl 3 rfl) ?_
  refine gq_backv C hM (gq_runV (As := [.int v2, .int v3, .int v6, .int v5]) (rest := []) C hM (kX_lt (kX_7_0 hv0) (by decide)) (cX_6 (kX_7_0 hv0)) rfl (c_X6_leaveRecord l L (v0 + 1) (kX_7_0 hv0) v2 v3 v6 v5 I1 _ h) k_X6_leaveRecord gw_607 rfl hl.1 rfl (Nat.le_of_ble_eq_true rfl) ⟨⟨rfl, rfl⟩, Nat.le_of_ble_eq_true rfl, Nat.le_of_ble_eq_true rfl⟩ ⟨Nat.zero_le _, Nat.zero_le _⟩ dX7_doJob_153) (fun I2 H locs h hM => ?_)
  exact gq_vret C hM h dX7_doJob_156
set_option maxHeartbeats 4000000 in
set_option maxRecDepth 100000 in
theorem c_X7_doJob (l : Launch) (L : gx_L) (a0 : Nat) (hk0 : kX a0 = 7) (p0 : Int32) (I : gx_M) (Q : gx_M → Prop) (h : wp_X7_doJob a0 p0 I Q) : Met l yX7_doJob (gx_w yX7_doJob cX7_doJob 7 none) rm_X7_doJob (va_Pc [.ref (gx_ad L a0), .int p0] (gx_U L 282 (cellX L I))) (va_Qv Q (fun I' t => gx_U L 282 (cellX L I') t) (gx_A L)) 0 0 (gx_A L) := by
  refine gq_enter (by decide) (Nat.le_of_ble_eq_true rfl) (fun p e s m below meth c ls C hM hl => ?_)
  have C : gx_C L 282 p s m _ meth c RX7 cX7_doJob 7 none := C
  have hl : lv_has ls 7 [(0, .ref (gx_ad L a0)), (1, .int p0)] := hl
  have hx := C.1
  have hb := C.2.1
  unfold wp_X7_doJob at h
  refine lv_aload_n hx hb dX7_doJob_0 rfl (lv_at hl 0 rfl) ?_
  refine gX7_0 C hM hk0 gw_343 dX7_doJob_1 ?_
  refine gX6_1 C hM (kX_7_0 hk0) gw_176 dX7_doJob_4 ?_
  refine lv_iload_n hx hb dX7_doJob_7 rfl (lv_at hl 1 rfl) ?_
  refine lv_iconst (v := (1 : Int32)) hx hb dX7_doJob_8 (by decide) ?_
  refine gq_backi C hM (gq_runV (As := [.int p0, .int (1 : Int32)]) (rest := []) C hM (kX_lt (kX_6_1 (kX_7_0 hk0)) (by decide)) (cX_5 (kX_6_1 (kX_7_0 hk0))) rfl (c_X5_at l L ((a0 + 1) + 2) (kX_6_1 (kX_7_0 hk0)) p0 (1 : Int32) I _ h) k_X5_at gw_570 rfl hl.1 rfl (Nat.le_of_ble_eq_true rfl) ⟨⟨rfl, rfl⟩, Nat.le_of_ble_eq_true rfl, Nat.le_of_ble_eq_true rfl⟩ ⟨Nat.zero_le _, Nat.zero_le _⟩ dX7_doJob_9) (fun r1 I1 H locs h hM => ?_)
  refine lv_istore_n (lv' := [(2, .int r1), (0, .ref (gx_ad L a0)), (1, .int p0)]) hx hb dX7_doJob_12 rfl hl (by decide) rfl (fun ls hl => ?_)
  refine lv_aload_n hx hb dX7_doJob_13 rfl (lv_at hl 1 rfl) ?_
  refine gX7_0 C hM hk0 gw_343 dX7_doJob_14 ?_
  refine gX6_1 C hM (kX_7_0 hk0) gw_176 dX7_doJob_17 ?_
  refine lv_iload_n hx hb dX7_doJob_20 rfl (lv_at hl 2 rfl) ?_
  refine lv_iconst (v := (2 : Int32)) hx hb dX7_doJob_21 (by decide) ?_
  refine gq_backi C hM (gq_runV (As := [.int p0, .int (2 : Int32)]) (rest := []) C hM (kX_lt (kX_6_1 (kX_7_0 hk0)) (by decide)) (cX_5 (kX_6_1 (kX_7_0 hk0))) rfl (c_X5_at l L ((a0 + 1) + 2) (kX_6_1 (kX_7_0 hk0)) p0 (2 : Int32) I1 _ h) k_X5_at gw_570 rfl hl.1 rfl (Nat.le_of_ble_eq_true rfl) ⟨⟨rfl, rfl⟩, Nat.le_of_ble_eq_true rfl, Nat.le_of_ble_eq_true rfl⟩ ⟨Nat.zero_le _, Nat.zero_le _⟩ dX7_doJob_22) (fun r2 I2 H locs h hM => ?_)
  refine lv_istore_n (lv' := [(3, .int r2), (2, .int r1), (0, .ref (gx_ad L a0)), (1, .int p0)]) hx hb dX7_doJob_25 rfl hl (by decide) rfl (fun ls hl => ?_)
  refine lv_aload_n hx hb dX7_doJob_26 rfl (lv_at hl 2 rfl) ?_
  refine gX7_0 C hM hk0 gw_343 dX7_doJob_27 ?_
  refine lv_iload_n hx hb dX7_doJob_30 rfl (lv_at hl 0 rfl) ?_
  refine gq_backe C hM (gq_runV (As := [.int r2]) (rest := []) C hM (kX_lt (kX_7_0 hk0) (by decide)) (cX_6 (kX_7_0 hk0)) rfl (c_X6_find l L (a0 + 1) (kX_7_0 hk0) r2 I2 _ h) k_X6_find gw_424 rfl hl.1 rfl (Nat.le_of_ble_eq_true rfl) ⟨⟨rfl, rfl⟩, Nat.le_of_ble_eq_true rfl, Nat.le_of_ble_eq_true rfl⟩ ⟨Nat.zero_le _, Nat.zero_le _⟩ dX7_doJob_31) (fun r3 I3 H locs h hM => ?_)
  obtain ⟨hk1, h⟩ := h
  rcases r3 with _ | b1
  · replace h := h.1 rfl
    refine W.eq (g2 := F0 m 34 ls [.null]) rfl ?_
    refine lv_astoreN (lv' := [(4, .null), (3, .int r2), (2, .int r1), (0, .ref (gx_ad L a0)), (1, .int p0)]) hx hb dX7_doJob_34 hl (by decide) rfl (fun ls hl => ?_)
    refine lv_aload_n hx hb dX7_doJob_36 rfl (lv_at hl 3 rfl) ?_
    refine gX7_0 C hM hk0 gw_343 dX7_doJob_37 ?_
    refine gX6_1 C hM (kX_7_0 hk0) gw_176 dX7_doJob_40 ?_
    refine lv_iload_n hx hb dX7_doJob_43 rfl (lv_at hl 4 rfl) ?_
    refine gq_backv C hM (gq_runV (As := [.int p0]) (rest := []) C hM (kX_lt (kX_6_1 (kX_7_0 hk0)) (by decide)) (cX_5 (kX_6_1 (kX_7_0 hk0))) rfl (c_X5_drop l L ((a0 + 1) + 2) (kX_6_1 (kX_7_0 hk0)) p0 I3 _ h) k_X5_drop gw_575 rfl hl.1 rfl (Nat.le_of_ble_eq_true rfl) ⟨⟨rfl, rfl⟩, Nat.le_of_ble_eq_true rfl, Nat.le_of_ble_eq_true rfl⟩ ⟨Nat.zero_le _, Nat.zero_le _⟩ dX7_doJob_44) (fun I4 H locs h hM => ?_)
    refine lv_aloadN hx hb dX7_doJob_47 (lv_at hl 0 rfl) ?_
    refine lv_ifnonnullN hx hb dX7_doJob_49 ?_
    exact gq_vret C hM h dX7_doJob_52
  · have hk := hk1 b1 rfl
    replace h := h.2 b1 rfl hk
    have hk2 := hk
    refine W.eq (g2 := F0 m 34 ls [.ref (gx_ad L b1)]) rfl ?_
    refine lv_astore (lv' := [(4, .ref (gx_ad L b1)), (3, .int r2), (2, .int r1), (0, .ref (gx_ad L a0)), (1, .int p0)]) hx hb dX7_doJob_34 hl (by decide) rfl (fun ls hl => ?_)
    refine lv_aload_n hx hb dX7_doJob_36 rfl (lv_at hl 3 rfl) ?_
    refine gX7_0 C hM hk0 gw_343 dX7_doJob_37 ?_
    refine gX6_1 C hM (kX_7_0 hk0) gw_176 dX7_doJob_40 ?_
    refine lv_iload_n hx hb dX7_doJob_43 rfl (lv_at hl 4 rfl) ?_
    refine gq_backv C hM (gq_runV (As := [.int p0]) (rest := []) C hM (kX_lt (kX_6_1 (kX_7_0 hk0)) (by decide)) (cX_5 (kX_6_1 (kX_7_0 hk0))) rfl (c_X5_drop l L ((a0 + 1) + 2) (kX_6_1 (kX_7_0 hk0)) p0 I3 _ h) k_X5_drop gw_575 rfl hl.1 rfl (Nat.le_of_ble_eq_true rfl) ⟨⟨rfl, rfl⟩, Nat.le_of_ble_eq_true rfl, Nat.le_of_ble_eq_true rfl⟩ ⟨Nat.zero_le _, Nat.zero_le _⟩ dX7_doJob_44) (fun I5 H locs h hM => ?_)
    refine lv_aload hx hb dX7_doJob_47 (lv_at hl 0 rfl) ?_
    refine lv_ifnonnull (tgt := 53) hx hb dX7_doJob_49 (by decide) ?_
    refine lv_aload_n hx hb dX7_doJob_53 rfl (lv_at hl 3 rfl) ?_
    refine gX7_0 C hM hk0 gw_343 dX7_doJob_54 ?_
    refine lv_aload hx hb dX7_doJob_57 (lv_at hl 0 rfl) ?_
    refine gX4_0 C hM hk2 gw_113 dX7_doJob_59 ?_
    refine gq_backv C hM (gq_runV (As := [.int (I5 b1 0)]) (rest := []) C hM (kX_lt (kX_7_0 hk0) (by decide)) (cX_6 (kX_7_0 hk0)) rfl (c_X6_goTo l L (a0 + 1) (kX_7_0 hk0) (I5 b1 0) I5 _ h) k_X6_goTo gw_576 rfl hl.1 rfl (Nat.le_of_ble_eq_true rfl) ⟨⟨rfl, rfl⟩, Nat.le_of_ble_eq_true rfl, Nat.le_of_ble_eq_true rfl⟩ ⟨Nat.zero_le _, Nat.zero_le _⟩ dX7_doJob_62) (fun I6 H locs h hM => ?_)
    refine lv_aload_n hx hb dX7_doJob_65 rfl (lv_at hl 3 rfl) ?_
    refine gX7_7 C hM hk0 gw_350 dX7_doJob_66 ?_
    refine lv_aload hx hb dX7_doJob_69 (lv_at hl 0 rfl) ?_
    refine lv_aload_n hx hb dX7_doJob_71 rfl (lv_at hl 3 rfl) ?_
    refine gX7_0 C hM hk0 gw_343 dX7_doJob_72 ?_
    refine gX6_4 C hM (kX_7_0 hk0) gw_182 dX7_doJob_75 ?_
    refine gq_backv C hM (gq_runV (As := [.ref (gx_ad L b1), .int (I6 (a0 + 1) 4)]) (rest := []) C hM (kX_lt (kX_7_7 hk0) (by decide)) (cX_2 (kX_7_7 hk0)) rfl (c_X2_take l L (a0 + 275) (kX_7_7 hk0) b1 hk2 (I6 (a0 + 1) 4) I6 _ h) k_X2_take gw_430 rfl hl.1 rfl (Nat.le_of_ble_eq_true rfl) ⟨⟨rfl, rfl⟩, Nat.le_of_ble_eq_true rfl, Nat.le_of_ble_eq_true rfl⟩ ⟨Nat.zero_le _, Nat.zero_le _⟩ dX7_doJob_78) (fun I7 H locs h hM => ?_)
    refine lv_aload_n hx hb dX7_doJob_81 rfl (lv_at hl 3 rfl) ?_
    refine lv_iload_n hx hb dX7_doJob_82 rfl (lv_at hl 2 rfl) ?_
    refine lv_aload hx hb dX7_doJob_83 (lv_at hl 0 rfl) ?_
    refine gq_backi C hM (gq_runV (As := [.int r1, .ref (gx_ad L b1)]) (rest := []) C hM (kX_lt hk0 (by decide)) (cX_7 hk0) rfl (c_X7_reasonAgainst l L a0 hk0 r1 b1 hk2 I7 _ h) k_X7_reasonAgainst gw_581 rfl hl.1 rfl (Nat.le_of_ble_eq_true rfl) ⟨⟨rfl, rfl⟩, Nat.le_of_ble_eq_true rfl, Nat.le_of_ble_eq_true rfl⟩ ⟨Nat.zero_le _, Nat.zero_le _⟩ dX7_doJob_85) (fun r4 I8 H locs h hM => ?_)
    refine lv_istore (lv' := [(5, .int r4), (4, .ref (gx_ad L b1)), (3, .int r2), (2, .int r1), (0, .ref (gx_ad L a0)), (1, .int p0)]) hx hb dX7_doJob_88 hl (by decide) rfl (fun ls hl => ?_)
    refine gq_ldc (v := (-1000004 : Int32)) C gw_429 dX7_doJob_90 ?_
    refine lv_istore (lv' := [(6, .int (-1000004 : Int32)), (5, .int r4), (4, .ref (gx_ad L b1)), (3, .int r2), (2, .int r1), (0, .ref (gx_ad L a0)), (1, .int p0)]) hx hb dX7_doJob_92 hl (by decide) rfl (fun ls hl => ?_)
    refine lv_iload hx hb dX7_doJob_94 (lv_at hl 1 rfl) ?_
    refine lv_if_ne (tgt := 111) hx hb dX7_doJob_96 (by decide) (fun hc => ?_) (fun hc => ?_)
    · replace h := h.2 hc
      refine lv_aload_n hx hb dX7_doJob_111 rfl (lv_at hl 5 rfl) ?_
      refine lv_iload hx hb dX7_doJob_112 (lv_at hl 1 rfl) ?_
      obtain ⟨I9, eI9⟩ : ∃ z : gx_M, z = up I8 a0 5 r4 := ⟨_, rfl⟩
      replace h := h I9 eI9
      refine pX7_5 C hM hk0 eI9 gw_348 dX7_doJob_114 (fun H locs hM => ?_)
      refine lv_aload_n hx hb dX7_doJob_117 rfl (lv_at hl 5 rfl) ?_
      refine gX7_0 C hM hk0 gw_343 dX7_doJob_118 ?_
      refine lv_dup hx hb dX7_doJob_121 rfl ?_
      refine gX6_9 C hM (kX_7_0 hk0) gw_193 dX7_doJob_122 ?_
      refine lv_iconst (v := (1 : Int32)) hx hb dX7_doJob_125 (by decide) ?_
      refine lv_iadd hx hb dX7_doJob_126 ?_
      obtain ⟨I10, eI10⟩ : ∃ z : gx_M, z = up I9 (a0 + 1) 9 ((I9 (a0 + 1) 9) + (1 : Int32)) := ⟨_, rfl⟩
      replace h := h I10 eI10
      refine pX6_9 C hM (kX_7_0 hk0) eI10 gw_193 dX7_doJob_127 (fun H locs hM => ?_)
      exact tj_X7_doJob_130 C a0 r1 r2 r4 (-1000004 : Int32) (hk0) I10 _ _ _ hM (lv_sub hl [5, 4, 3, 1, 0] rfl) h
    · replace h := h.1 hc
      refine lv_aload_n hx hb dX7_doJob_99 rfl (lv_at hl 5 rfl) ?_
      refine lv_iload_n hx hb dX7_doJob_100 rfl (lv_at hl 4 rfl) ?_
      refine lv_aload hx hb dX7_doJob_101 (lv_at hl 2 rfl) ?_
      refine gq_backi C hM (gq_runV (As := [.int r1, .ref (gx_ad L b1)]) (rest := []) C hM (kX_lt hk0 (by decide)) (cX_7 hk0) rfl (c_X7_perform l L a0 hk0 r1 b1 hk2 I8 _ h) k_X7_perform gw_593 rfl hl.1 rfl (Nat.le_of_ble_eq_true rfl) ⟨⟨rfl, rfl⟩, Nat.le_of_ble_eq_true rfl, Nat.le_of_ble_eq_true rfl⟩ ⟨Nat.zero_le _, Nat.zero_le _⟩ dX7_doJob_103) (fun r5 I11 H locs h hM => ?_)
      refine lv_istore (lv' := [(6, .int r5), (5, .int r4), (4, .ref (gx_ad L b1)), (3, .int r2), (2, .int r1), (0, .ref (gx_ad L a0)), (1, .int p0)]) hx hb dX7_doJob_106 hl (by decide) rfl (fun ls hl => ?_)
      refine lv_goto (tgt := 130) hx hb dX7_doJob_108 (by decide) ?_
      exact tj_X7_doJob_130 C a0 r1 r2 r4 r5 (hk0) I11 _ _ _ hM (lv_sub hl [5, 4, 3, 1, 0] rfl) h
theorem k_X7_doJob : gx_kV yX7_doJob cX7_doJob 7 none 1 := ⟨⟨gw_574, gw_58, by decide, by decide, by decide +kernel⟩, gw_573, gw_9⟩
end
