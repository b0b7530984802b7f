section
variable {p : Program} {l : Launch} {e : Env} {s : State} {m : MethodId} {args : Array Value} {below : List Frame} {meth : Method} {c : Code} {L : gx_L}
abbrev rm_X5_at : Room := { frames := 1, cells := 0, slots := 0, locals := 22 }
set_option maxHeartbeats 4000000 in
set_option maxRecDepth 100000 in
theorem c_X5_at (l : Launch) (L : gx_L) (a0 : Nat) (hk0 : kX a0 = 5) (p0 : Int32) (p1 : Int32) (I : gx_M) (Q : Int32 → gx_M → Prop) (h : wp_X5_at a0 p0 p1 I Q) : Met l yX5_at (gx_w yX5_at cX5_at 3 (some .int)) rm_X5_at (va_Pc [.ref (gx_ad L a0), .int p0, .int p1] (gx_U L 282 (cellX L I))) (va_Qi Q (fun I' t => gx_U L 282 (cellX L I') t) (gx_A L)) 0 0 (gx_A L) := by
  refine gq_enter (by decide) (Nat.le_of_ble_eq_true rfl) (fun p e s m below meth c ls C hM hl => ?_)
  have C : gx_C L 282 p s m _ meth c RX5 cX5_at 3 (some .int) := C
  have hl : lv_has ls 3 [(0, .ref (gx_ad L a0)), (1, .int p0), (2, .int p1)] := hl
  have hx := C.1
  have hb := C.2.1
  unfold wp_X5_at at h
  refine lv_iload_n hx hb dX5_at_0 rfl (lv_at hl 1 rfl) ?_
  refine lv_if_lt (tgt := 21) hx hb dX5_at_1 (by decide) (fun hc => ?_) (fun hc => ?_)
  · replace h := h.1 hc
    refine gq_ldc (v := (-1000004 : Int32)) C gw_398 dX5_at_21 ?_
    exact gq_iret C hM h dX5_at_23
  · replace h := h.2 hc
    refine lv_iload_n hx hb dX5_at_4 rfl (lv_at hl 1 rfl) ?_
    refine lv_aload_n hx hb dX5_at_5 rfl (lv_at hl 0 rfl) ?_
    refine gX5_1 C hM hk0 gw_58 dX5_at_6 ?_
    refine lv_icmp_ge (tgt := 21) hx hb dX5_at_9 (by decide) (fun hc => ?_) (fun hc => ?_)
    · replace h := h.1 hc
      refine gq_ldc (v := (-1000004 : Int32)) C gw_398 dX5_at_21 ?_
      exact gq_iret C hM h dX5_at_23
    · replace h := h.2 hc
      refine lv_iload_n hx hb dX5_at_12 rfl (lv_at hl 2 rfl) ?_
      refine lv_iconst (v := (0 : Int32)) hx hb dX5_at_13 (by decide) ?_
      refine lv_iconst (v := (3 : Int32)) hx hb dX5_at_14 (by decide) ?_
      refine gq_backi C hM (gq_runSN (As := [.int p1, .int (0 : Int32), .int (3 : Int32)]) (rest := []) C hM (c_X7_isWithin l L p1 (0 : Int32) (3 : Int32) I _ h) k_X7_isWithin gw_397 rfl hl.1 rfl (Nat.le_of_ble_eq_true rfl) ⟨⟨rfl, rfl⟩, Nat.le_of_ble_eq_true rfl, Nat.le_of_ble_eq_true rfl⟩ ⟨Nat.zero_le _, Nat.zero_le _⟩ dX5_at_15) (fun r1 I1 H locs h hM => ?_)
      obtain ⟨hz1, h⟩ := h
      refine lv_if_ne (tgt := 24) hx hb dX5_at_18 (by decide) (fun hc => ?_) (fun hc => ?_)
      · replace h := h.2 hc
        refine lv_aload_n hx hb dX5_at_24 rfl (lv_at hl 0 rfl) ?_
        refine gX5_0 C hM hk0 gw_57 dX5_at_25 ?_
        refine lv_iload_n hx hb dX5_at_28 rfl (lv_at hl 1 rfl) ?_
        refine lv_iconst (v := (4 : Int32)) hx hb dX5_at_29 (by decide) ?_
        refine lv_imul hx hb dX5_at_30 ?_
        refine lv_iload_n hx hb dX5_at_31 rfl (lv_at hl 2 rfl) ?_
        refine lv_iadd hx hb dX5_at_32 ?_
        refine gialdX C hM (kX_5_0 hk0) h.1 dX5_at_33 ?_
        replace h := h.2
        exact gq_iret C hM h dX5_at_34
      · replace h := h.1 hc
        refine gq_ldc (v := (-1000004 : Int32)) C gw_398 dX5_at_21 ?_
        exact gq_iret C hM h dX5_at_23
theorem k_X5_at : gx_kV yX5_at cX5_at 3 (some .int) 2 := ⟨⟨gw_396, gw_24, by decide, by decide, by decide +kernel⟩, gw_394, gw_395⟩
abbrev rm_X7_record : Room := { frames := 2, cells := 0, slots := 0, locals := 44 }
set_option maxHeartbeats 4000000 in
set_option maxRecDepth 100000 in
theorem c_X7_record (l : Launch) (L : gx_L) (a0 : Nat) (hk0 : kX a0 = 7) (p0 : Int32) (p1 : Int32) (I : gx_M) (Q : Int32 → gx_M → Prop) (h : wp_X7_record a0 p0 p1 I Q) : Met l yX7_record (gx_w yX7_record cX7_record 4 (some .int)) rm_X7_record (va_Pc [.ref (gx_ad L a0), .int p0, .int p1] (gx_U L 282 (cellX L I))) (va_Qi Q (fun I' t => gx_U L 282 (cellX L I') t) (gx_A L)) 0 0 (gx_A L) := by
  refine gq_enter (by decide) (Nat.le_of_ble_eq_true rfl) (fun p e s m below meth c ls C hM hl => ?_)
  have C : gx_C L 282 p s m _ meth c RX7 cX7_record 4 (some .int) := C
  have hl : lv_has ls 4 [(0, .ref (gx_ad L a0)), (1, .int p0), (2, .int p1)] := hl
  have hx := C.1
  have hb := C.2.1
  unfold wp_X7_record at h
  refine lv_iload_n hx hb dX7_record_0 rfl (lv_at hl 1 rfl) ?_
  refine lv_if_lt (tgt := 13) hx hb dX7_record_1 (by decide) (fun hc => ?_) (fun hc => ?_)
  · replace h := h.1 hc
    refine gq_ldc (v := (-1000002 : Int32)) C gw_338 dX7_record_13 ?_
    exact gq_iret C hM h dX7_record_15
  · replace h := h.2 hc
    refine lv_iload_n hx hb dX7_record_4 rfl (lv_at hl 2 rfl) ?_
    refine lv_iconst (v := (0 : Int32)) hx hb dX7_record_5 (by decide) ?_
    refine lv_iconst (v := (3 : Int32)) hx hb dX7_record_6 (by decide) ?_
    refine gq_backi C hM (gq_runS (As := [.int p1, .int (0 : Int32), .int (3 : Int32)]) (rest := []) C hM (c_X7_isWithin l L p1 (0 : Int32) (3 : Int32) I _ h) k_X7_isWithin gw_335 rfl hl.1 rfl (Nat.le_of_ble_eq_true rfl) ⟨⟨rfl, rfl⟩, Nat.le_of_ble_eq_true rfl, Nat.le_of_ble_eq_true rfl⟩ ⟨Nat.zero_le _, Nat.zero_le _⟩ dX7_record_7) (fun r1 I1 H locs h hM => ?_)
    obtain ⟨hz1, h⟩ := h
    refine lv_if_ne (tgt := 16) hx hb dX7_record_10 (by decide) (fun hc => ?_) (fun hc => ?_)
    · replace h := h.2 hc
      refine lv_aload_n hx hb dX7_record_16 rfl (lv_at hl 0 rfl) ?_
      refine gX7_0 C hM hk0 gw_306 dX7_record_17 ?_
      refine gX6_2 C hM (kX_7_0 hk0) gw_141 dX7_record_20 ?_
      refine gX5_1 C hM (kX_6_2 (kX_7_0 hk0)) gw_62 dX7_record_23 ?_
      refine lv_topi (fun x1 ex1 => ?_)
      replace h := h x1 ex1
      refine lv_istore_n (lv' := [(3, .int x1), (0, .ref (gx_ad L a0)), (1, .int p0), (2, .int p1)]) hx hb dX7_record_26 rfl hl (by decide) rfl (fun ls hl => ?_)
      refine lv_iload_n hx hb dX7_record_27 rfl (lv_at hl 2 rfl) ?_
      refine lv_iload_n hx hb dX7_record_28 rfl (lv_at hl 0 rfl) ?_
      refine lv_icmp_lt (tgt := 37) hx hb dX7_record_29 (by decide) (fun hc => ?_) (fun hc => ?_)
      · replace h := h.1 hc
        refine lv_aload_n hx hb dX7_record_37 rfl (lv_at hl 1 rfl) ?_
        refine gX7_0 C hM hk0 gw_306 dX7_record_38 ?_
        refine gX6_2 C hM (kX_7_0 hk0) gw_141 dX7_record_41 ?_
        refine lv_iload_n hx hb dX7_record_44 rfl (lv_at hl 0 rfl) ?_
        refine lv_iconst (v := (1 : Int32)) hx hb dX7_record_45 (by decide) ?_
        refine lv_isub hx hb dX7_record_46 ?_
        refine lv_iload_n hx hb dX7_record_47 rfl (lv_at hl 2 rfl) ?_
        refine lv_isub hx hb dX7_record_48 ?_
        refine lv_iload_n hx hb dX7_record_49 rfl (lv_at hl 3 rfl) ?_
        refine gq_backi C hM (gq_runV (As := [.int ((x1 - (1 : Int32)) - p0), .int p1]) (rest := []) C hM (kX_lt (kX_6_2 (kX_7_0 hk0)) (by decide)) (cX_5 (kX_6_2 (kX_7_0 hk0))) rfl (c_X5_at l L ((a0 + 1) + 4) (kX_6_2 (kX_7_0 hk0)) ((x1 - (1 : Int32)) - p0) p1 I1 _ h) k_X5_at gw_433 rfl hl.1 rfl (Nat.le_of_ble_eq_true rfl) ⟨⟨rfl, rfl⟩, Nat.le_of_ble_eq_true rfl, Nat.le_of_ble_eq_true rfl⟩ ⟨Nat.zero_le _, Nat.zero_le _⟩ dX7_record_50) (fun r2 I2 H locs h hM => ?_)
        exact gq_iret C hM h dX7_record_53
      · replace h := h.2 hc
        refine gq_ldc (v := (-1000004 : Int32)) C gw_399 dX7_record_32 ?_
        refine lv_goto (tgt := 53) hx hb dX7_record_34 (by decide) ?_
        exact gq_iret C hM h dX7_record_53
    · replace h := h.1 hc
      refine gq_ldc (v := (-1000002 : Int32)) C gw_338 dX7_record_13 ?_
      exact gq_iret C hM h dX7_record_15
theorem k_X7_record : gx_kV yX7_record cX7_record 4 (some .int) 2 := ⟨⟨gw_633, gw_22, by decide, by decide, by decide +kernel⟩, gw_631, gw_632⟩
abbrev rm_X6_jobsFor : Room := { frames := 2, cells := 0, slots := 0, locals := 44 }
set_option maxHeartbeats 4000000 in
set_option maxRecDepth 100000 in
theorem tj_X6_jobsFor_31 (C : gx_C L 282 p s m args meth c RX6 cX6_jobsFor 4 (some .int)) {Q : Int32 → gx_M → Prop} {K4 : Nat → Int32 → Int32 → Int32 → gx_M → Prop} (hK4 : ∀ (v0 : Nat) (v1 : Int32) (v2 : Int32) (v3 : Int32) (hv0 : kX v0 = 6) (I : gx_M) (H : Heap) (locs : List Loc) (ls : Array Slot), gx_S L 282 (cellX L I) s.heap H locs → lv_has ls 4 [(0, .ref (gx_ad L v0)), (1, .int v1), (2, .int v2), (3, .int v3)] → K4 v0 v1 v2 v3 I → W p l e rm_X6_jobsFor s m args below meth c H locs 0 0 (MQ below (va_Qi Q (fun I' t => gx_U L 282 (cellX L I') t) (gx_A L)) args s 0 0 (gx_A L)) (F0 m 4 ls [])) : ∀ (v0 : Nat) (v1 : Int32) (v2 : Int32) (v3 : Int32) (hv0 : kX v0 = 6) (I : gx_M) (H : Heap) (locs : List Loc) (ls : Array Slot), gx_S L 282 (cellX L I) s.heap H locs → lv_has ls 4 [(0, .ref (gx_ad L v0)), (1, .int v1), (2, .int v2), (3, .int v3)] → wj_X6_jobsFor_31 Q K4 v0 v1 v2 v3 I → W p l e rm_X6_jobsFor s m args below meth c H locs 0 0 (MQ below (va_Qi Q (fun I' t => gx_U L 282 (cellX L I') t) (gx_A L)) args s 0 0 (gx_A L)) (F0 m 31 ls []) := by
  have hx := C.1
  have hb := C.2.1
  intro v0 v1 v2 v3 hv0 I H locs ls hM hl h
  unfold wj_X6_jobsFor_31 at h
  obtain ⟨x1, ex1⟩ : ∃ z : Int32, z = v3 + (1 : Int32) := ⟨_, rfl⟩
  replace h := h x1 ex1
  refine lv_iinc (v := x1) (lv' := [(3, .int x1), (0, .ref (gx_ad L v0)), (1, .int v1), (2, .int v2)]) hx hb dX6_jobsFor_31 hl (k := 3) rfl (by rw [ex1]; rfl) (by decide) rfl (fun ls hl => ?_)
  refine lv_goto (tgt := 4) hx hb dX6_jobsFor_34 (by decide) ?_
  exact hK4 v0 v1 v2 x1 (hv0) I _ _ _ hM (lv_sub hl [1, 2, 3, 0] rfl) h
set_option maxHeartbeats 4000000 in
set_option maxRecDepth 100000 in
theorem tl_X6_jobsFor_4 (C : gx_C L 282 p s m args meth c RX6 cX6_jobsFor 4 (some .int)) {Q : Int32 → gx_M → Prop} : ∀ (fu : Nat) (v0 : Nat) (v1 : Int32) (v2 : Int32) (v3 : Int32) (hv0 : kX v0 = 6) (I : gx_M) (H : Heap) (locs : List Loc) (ls : Array Slot), gx_S L 282 (cellX L I) s.heap H locs → lv_has ls 4 [(0, .ref (gx_ad L v0)), (1, .int v1), (2, .int v2), (3, .int v3)] → wl_X6_jobsFor_4 Q fu v0 v1 v2 v3 I → W p l e rm_X6_jobsFor s m args below meth c H locs 0 0 (MQ below (va_Qi Q (fun I' t => gx_U L 282 (cellX L I') t) (gx_A L)) args s 0 0 (gx_A L)) (F0 m 4 ls []) := by
  have hx := C.1
  have hb := C.2.1
  intro fu
  induction fu with
  | zero => intros; rename_i h; exact False.elim h
  | succ fu ih =>
    intro v0 v1 v2 v3 hv0 I H locs ls hM hl h
    rw [wl_X6_jobsFor_4] at h
    refine lv_iload_n hx hb dX6_jobsFor_4 rfl (lv_at hl 3 rfl) ?_
    refine lv_aload_n hx hb dX6_jobsFor_5 rfl (lv_at hl 0 rfl) ?_
    refine gX6_1 C hM hv0 gw_137 dX6_jobsFor_6 ?_
    refine gX5_1 C hM (kX_6_1 hv0) gw_61 dX6_jobsFor_9 ?_
    refine lv_icmp_ge (tgt := 37) hx hb dX6_jobsFor_12 (by decide) (fun hc => ?_) (fun hc => ?_)
    · replace h := h.1 hc
      refine lv_iload_n hx hb dX6_jobsFor_37 rfl (lv_at hl 2 rfl) ?_
      exact gq_iret C hM h dX6_jobsFor_38
    · replace h := h.2 hc
      refine lv_aload_n hx hb dX6_jobsFor_15 rfl (lv_at hl 0 rfl) ?_
      refine gX6_1 C hM hv0 gw_137 dX6_jobsFor_16 ?_
      refine lv_iload_n hx hb dX6_jobsFor_19 rfl (lv_at hl 3 rfl) ?_
      refine lv_iconst (v := (2 : Int32)) hx hb dX6_jobsFor_20 (by decide) ?_
      refine gq_backi C hM (gq_runV (As := [.int v3, .int (2 : Int32)]) (rest := []) C hM (kX_lt (kX_6_1 hv0) (by decide)) (cX_5 (kX_6_1 hv0)) rfl (c_X5_at l L (v0 + 2) (kX_6_1 hv0) v3 (2 : Int32) I _ h) k_X5_at gw_393 rfl hl.1 rfl (Nat.le_of_ble_eq_true rfl) ⟨⟨rfl, rfl⟩, Nat.le_of_ble_eq_true rfl, Nat.le_of_ble_eq_true rfl⟩ ⟨Nat.zero_le _, Nat.zero_le _⟩ dX6_jobsFor_21) (fun r1 I1 H locs h hM => ?_)
      refine lv_iload_n hx hb dX6_jobsFor_24 rfl (lv_at hl 1 rfl) ?_
      refine lv_icmp_ne (tgt := 31) hx hb dX6_jobsFor_25 (by decide) (fun hc => ?_) (fun hc => ?_)
      · replace h := h.2 hc
        exact tj_X6_jobsFor_31 C ih v0 v1 v2 v3 (hv0) I1 _ _ _ hM (lv_sub hl [0, 1, 2, 3] rfl) h
      · replace h := h.1 hc
        obtain ⟨x1, ex1⟩ : ∃ z : Int32, z = v2 + (1 : Int32) := ⟨_, rfl⟩
        replace h := h x1 ex1
        refine lv_iinc (v := x1) (lv' := [(2, .int x1), (0, .ref (gx_ad L v0)), (1, .int v1), (3, .int v3)]) hx hb dX6_jobsFor_28 hl (k := 2) rfl (by rw [ex1]; rfl) (by decide) rfl (fun ls hl => ?_)
        exact tj_X6_jobsFor_31 C ih v0 v1 x1 v3 (hv0) I1 _ _ _ hM (lv_sub hl [1, 2, 0, 3] rfl) h
set_option maxHeartbeats 4000000 in
set_option maxRecDepth 100000 in
theorem c_X6_jobsFor (l : Launch) (L : gx_L) (a0 : Nat) (hk0 : kX a0 = 6) (p0 : Int32) (I : gx_M) (Q : Int32 → gx_M → Prop) (h : wp_X6_jobsFor a0 p0 I Q) : Met l yX6_jobsFor (gx_w yX6_jobsFor cX6_jobsFor 4 (some .int)) rm_X6_jobsFor (va_Pc [.ref (gx_ad L a0), .int p0] (gx_U L 282 (cellX L I))) (va_Qi Q (fun I' t => gx_U L 282 (cellX L I') t) (gx_A L)) 0 0 (gx_A L) := by
  refine gq_enter (by decide) (Nat.le_of_ble_eq_true rfl) (fun p e s m below meth c ls C hM hl => ?_)
  have C : gx_C L 282 p s m _ meth c RX6 cX6_jobsFor 4 (some .int) := C
  have hl : lv_has ls 4 [(0, .ref (gx_ad L a0)), (1, .int p0)] := hl
  have hx := C.1
  have hb := C.2.1
  unfold wp_X6_jobsFor at h
  refine lv_iconst (v := (0 : Int32)) hx hb dX6_jobsFor_0 (by decide) ?_
  refine lv_istore_n (lv' := [(2, .int (0 : Int32)), (0, .ref (gx_ad L a0)), (1, .int p0)]) hx hb dX6_jobsFor_1 rfl hl (by decide) rfl (fun ls hl => ?_)
  refine lv_iconst (v := (0 : Int32)) hx hb dX6_jobsFor_2 (by decide) ?_
  refine lv_istore_n (lv' := [(3, .int (0 : Int32)), (2, .int (0 : Int32)), (0, .ref (gx_ad L a0)), (1, .int p0)]) hx hb dX6_jobsFor_3 rfl hl (by decide) rfl (fun ls hl => ?_)
  obtain ⟨fv, h⟩ := h
  exact tl_X6_jobsFor_4 C fv a0 p0 (0 : Int32) (0 : Int32) (hk0) I _ _ _ hM (lv_sub hl [2, 3, 1, 0] rfl) h
theorem k_X6_jobsFor : gx_kV yX6_jobsFor cX6_jobsFor 4 (some .int) 1 := ⟨⟨gw_392, gw_23, by decide, by decide, by decide +kernel⟩, gw_390, gw_391⟩
abbrev rm_X7_rosette : Room := { frames := 5, cells := 0, slots := 0, locals := 110 }
set_option maxHeartbeats 4000000 in
set_option maxRecDepth 100000 in
theorem c_X7_rosette (l : Launch) (L : gx_L) (a0 : Nat) (hk0 : kX a0 = 7) (p0 : Int32) (p1 : Int32) (I : gx_M) (Q : Int32 → gx_M → Prop) (h : wp_X7_rosette a0 p0 p1 I Q) : Met l yX7_rosette (gx_w yX7_rosette cX7_rosette 4 (some .int)) rm_X7_rosette (va_Pc [.ref (gx_ad L a0), .int p0, .int p1] (gx_U L 282 (cellX L I))) (va_Qi Q (fun I' t => gx_U L 282 (cellX L I') t) (gx_A L)) 0 0 (gx_A L) := by
  refine gq_enter (by decide) (Nat.le_of_ble_eq_true rfl) (fun p e s m below meth c ls C hM hl => ?_)
  have C : gx_C L 282 p s m _ meth c RX7 cX7_rosette 4 (some .int) := C
  have hl : lv_has ls 4 [(0, .ref (gx_ad L a0)), (1, .int p0), (2, .int p1)] := hl
  have hx := C.1
  have hb := C.2.1
  unfold wp_X7_rosette at h
  refine lv_aload_n hx hb dX7_rosette_0 rfl (lv_at hl 0 rfl) ?_
  refine gX7_0 C hM hk0 gw_306 dX7_rosette_1 ?_
  refine lv_iload_n hx hb dX7_rosette_4 rfl (lv_at hl 1 rfl) ?_
  refine gq_backe C hM (gq_runV (As := [.int p0]) (rest := []) C hM (kX_lt (kX_7_0 hk0) (by decide)) (cX_6 (kX_7_0 hk0)) rfl (c_X6_find l L (a0 + 1) (kX_7_0 hk0) p0 I _ h) k_X6_find gw_387 rfl hl.1 rfl (Nat.le_of_ble_eq_true rfl) ⟨⟨rfl, rfl⟩, Nat.le_of_ble_eq_true rfl, Nat.le_of_ble_eq_true rfl⟩ ⟨Nat.zero_le _, Nat.zero_le _⟩ dX7_rosette_5) (fun r1 I1 H locs h hM => ?_)
  obtain ⟨hk1, h⟩ := h
  rcases r1 with _ | b1
  · replace h := h.1 rfl
    refine W.eq (g2 := F0 m 8 ls [.null]) rfl ?_
    refine lv_astore_nN (lv' := [(3, .null), (0, .ref (gx_ad L a0)), (1, .int p0), (2, .int p1)]) hx hb dX7_rosette_8 rfl hl (by decide) rfl (fun ls hl => ?_)
    refine lv_aload_nN hx hb dX7_rosette_9 rfl (lv_at hl 0 rfl) ?_
    refine lv_ifnonnullN hx hb dX7_rosette_10 ?_
    refine gq_ldc (v := (-1000001 : Int32)) C gw_388 dX7_rosette_13 ?_
    exact gq_iret C hM h dX7_rosette_15
  · have hk := hk1 b1 rfl
    replace h := h.2 b1 rfl hk
    have hk2 := hk
    refine W.eq (g2 := F0 m 8 ls [.ref (gx_ad L b1)]) rfl ?_
    refine lv_astore_n (lv' := [(3, .ref (gx_ad L b1)), (0, .ref (gx_ad L a0)), (1, .int p0), (2, .int p1)]) hx hb dX7_rosette_8 rfl hl (by decide) rfl (fun ls hl => ?_)
    refine lv_aload_n hx hb dX7_rosette_9 rfl (lv_at hl 0 rfl) ?_
    refine lv_ifnonnull (tgt := 16) hx hb dX7_rosette_10 (by decide) ?_
    refine lv_aload_n hx hb dX7_rosette_16 rfl (lv_at hl 1 rfl) ?_
    refine gX7_7 C hM hk0 gw_313 dX7_rosette_17 ?_
    refine lv_aload_n hx hb dX7_rosette_20 rfl (lv_at hl 0 rfl) ?_
    refine lv_aload_n hx hb dX7_rosette_21 rfl (lv_at hl 1 rfl) ?_
    refine gX7_0 C hM hk0 gw_306 dX7_rosette_22 ?_
    refine gX6_4 C hM (kX_7_0 hk0) gw_145 dX7_rosette_25 ?_
    refine gq_backv C hM (gq_runV (As := [.ref (gx_ad L b1), .int (I1 (a0 + 1) 4)]) (rest := []) C hM (kX_lt (kX_7_7 hk0) (by decide)) (cX_2 (kX_7_7 hk0)) rfl (c_X2_take l L (a0 + 275) (kX_7_7 hk0) b1 hk2 (I1 (a0 + 1) 4) I1 _ h) k_X2_take gw_444 rfl hl.1 rfl (Nat.le_of_ble_eq_true rfl) ⟨⟨rfl, rfl⟩, Nat.le_of_ble_eq_true rfl, Nat.le_of_ble_eq_true rfl⟩ ⟨Nat.zero_le _, Nat.zero_le _⟩ dX7_rosette_28) (fun I2 H locs h hM => ?_)
    refine lv_iload_n hx hb dX7_rosette_31 rfl (lv_at hl 3 rfl) ?_
    by_cases hs0 : p1 = (0 : Int32)
    · replace h := h.1 hs0
      refine lv_tableIn (tgt := 96) hx hb dX7_rosette_32 (by rw [hs0]; decide) (by rw [hs0]; decide) (by rw [hs0]; rfl) (by decide) ?_
      refine lv_aload_n hx hb dX7_rosette_96 rfl (lv_at hl 0 rfl) ?_
      refine gX4_0 C hM hk2 gw_76 dX7_rosette_97 ?_
      exact gq_iret C hM h dX7_rosette_100
    by_cases hs1 : p1 = (1 : Int32)
    · replace h := h.2.1 hs1
      refine lv_tableIn (tgt := 101) hx hb dX7_rosette_32 (by rw [hs1]; decide) (by rw [hs1]; decide) (by rw [hs1]; rfl) (by decide) ?_
      refine lv_aload_n hx hb dX7_rosette_101 rfl (lv_at hl 0 rfl) ?_
      refine gX4_1 C hM hk2 gw_79 dX7_rosette_102 ?_
      refine lv_if_eq (tgt := 112) hx hb dX7_rosette_105 (by decide) (fun hc => ?_) (fun hc => ?_)
      · replace h := h.1 hc
        refine lv_iconst (v := (0 : Int32)) hx hb dX7_rosette_112 (by decide) ?_
        exact gq_iret C hM h dX7_rosette_113
      · replace h := h.2 hc
        refine lv_iconst (v := (1 : Int32)) hx hb dX7_rosette_108 (by decide) ?_
        refine lv_goto (tgt := 113) hx hb dX7_rosette_109 (by decide) ?_
        exact gq_iret C hM h dX7_rosette_113
    by_cases hs2 : p1 = (2 : Int32)
    · replace h := h.2.2.1 hs2
      refine lv_tableIn (tgt := 114) hx hb dX7_rosette_32 (by rw [hs2]; decide) (by rw [hs2]; decide) (by rw [hs2]; rfl) (by decide) ?_
      refine lv_aload_n hx hb dX7_rosette_114 rfl (lv_at hl 0 rfl) ?_
      refine gX4_2 C hM hk2 gw_82 dX7_rosette_115 ?_
      exact gq_iret C hM h dX7_rosette_118
    by_cases hs3 : p1 = (3 : Int32)
    · replace h := h.2.2.2.1 hs3
      refine lv_tableIn (tgt := 119) hx hb dX7_rosette_32 (by rw [hs3]; decide) (by rw [hs3]; decide) (by rw [hs3]; rfl) (by decide) ?_
      refine lv_aload_n hx hb dX7_rosette_119 rfl (lv_at hl 0 rfl) ?_
      refine gX4_3 C hM hk2 gw_85 dX7_rosette_120 ?_
      exact gq_iret C hM h dX7_rosette_123
    by_cases hs4 : p1 = (4 : Int32)
    · replace h := h.2.2.2.2.1 hs4
      refine lv_tableIn (tgt := 124) hx hb dX7_rosette_32 (by rw [hs4]; decide) (by rw [hs4]; decide) (by rw [hs4]; rfl) (by decide) ?_
      refine lv_aload_n hx hb dX7_rosette_124 rfl (lv_at hl 0 rfl) ?_
      refine gX4_4 C hM hk2 gw_87 dX7_rosette_125 ?_
      exact gq_iret C hM h dX7_rosette_128
    by_cases hs5 : p1 = (5 : Int32)
    · replace h := h.2.2.2.2.2.1 hs5
      refine lv_tableIn (tgt := 129) hx hb dX7_rosette_32 (by rw [hs5]; decide) (by rw [hs5]; decide) (by rw [hs5]; rfl) (by decide) ?_
      refine lv_aload_n hx hb dX7_rosette_129 rfl (lv_at hl 0 rfl) ?_
      refine gX4_5 C hM hk2 gw_90 dX7_rosette_130 ?_
      exact gq_iret C hM h dX7_rosette_133
    by_cases hs6 : p1 = (6 : Int32)
    · replace h := h.2.2.2.2.2.2.1 hs6
      refine lv_tableIn (tgt := 134) hx hb dX7_rosette_32 (by rw [hs6]; decide) (by rw [hs6]; decide) (by rw [hs6]; rfl) (by decide) ?_
      refine lv_aload_n hx hb dX7_rosette_134 rfl (lv_at hl 0 rfl) ?_
      refine gX4_6 C hM hk2 gw_93 dX7_rosette_135 ?_
      exact gq_iret C hM h dX7_rosette_138
    by_cases hs7 : p1 = (7 : Int32)
    · replace h := h.2.2.2.2.2.2.2.1 hs7
      refine lv_tableIn (tgt := 139) hx hb dX7_rosette_32 (by rw [hs7]; decide) (by rw [hs7]; decide) (by rw [hs7]; rfl) (by decide) ?_
      refine lv_aload_n hx hb dX7_rosette_139 rfl (lv_at hl 0 rfl) ?_
      refine gX4_7 C hM hk2 gw_96 dX7_rosette_140 ?_
      exact gq_iret C hM h dX7_rosette_143
    by_cases hs8 : p1 = (8 : Int32)
    · replace h := h.2.2.2.2.2.2.2.2.1 hs8
      refine lv_tableIn (tgt := 144) hx hb dX7_rosette_32 (by rw [hs8]; decide) (by rw [hs8]; decide) (by rw [hs8]; rfl) (by decide) ?_
      refine lv_aload_n hx hb dX7_rosette_144 rfl (lv_at hl 0 rfl) ?_
      refine gX4_8 C hM hk2 gw_99 dX7_rosette_145 ?_
      refine lv_if_eq (tgt := 155) hx hb dX7_rosette_148 (by decide) (fun hc => ?_) (fun hc => ?_)
      · replace h := h.1 hc
        refine lv_iconst (v := (0 : Int32)) hx hb dX7_rosette_155 (by decide) ?_
        exact gq_iret C hM h dX7_rosette_156
      · replace h := h.2 hc
        refine lv_iconst (v := (1 : Int32)) hx hb dX7_rosette_151 (by decide) ?_
        refine lv_goto (tgt := 156) hx hb dX7_rosette_152 (by decide) ?_
        exact gq_iret C hM h dX7_rosette_156
    by_cases hs9 : p1 = (9 : Int32)
    · replace h := h.2.2.2.2.2.2.2.2.2.1 hs9
      refine lv_tableIn (tgt := 157) hx hb dX7_rosette_32 (by rw [hs9]; decide) (by rw [hs9]; decide) (by rw [hs9]; rfl) (by decide) ?_
      refine lv_aload_n hx hb dX7_rosette_157 rfl (lv_at hl 1 rfl) ?_
      refine gX7_7 C hM hk0 gw_313 dX7_rosette_158 ?_
      refine gX2_6 C hM (kX_7_7 hk0) gw_258 dX7_rosette_161 ?_
      exact gq_iret C hM h dX7_rosette_164
    by_cases hs10 : p1 = (10 : Int32)
    · replace h := h.2.2.2.2.2.2.2.2.2.2.1 hs10
      refine lv_tableIn (tgt := 165) hx hb dX7_rosette_32 (by rw [hs10]; decide) (by rw [hs10]; decide) (by rw [hs10]; rfl) (by decide) ?_
      refine lv_aload_n hx hb dX7_rosette_165 rfl (lv_at hl 1 rfl) ?_
      refine gX7_7 C hM hk0 gw_313 dX7_rosette_166 ?_
      refine gX2_7 C hM (kX_7_7 hk0) gw_260 dX7_rosette_169 ?_
      exact gq_iret C hM h dX7_rosette_172
    by_cases hs11 : p1 = (11 : Int32)
    · replace h := h.2.2.2.2.2.2.2.2.2.2.2.1 hs11
      refine lv_tableIn (tgt := 173) hx hb dX7_rosette_32 (by rw [hs11]; decide) (by rw [hs11]; decide) (by rw [hs11]; rfl) (by decide) ?_
      refine lv_aload_n hx hb dX7_rosette_173 rfl (lv_at hl 1 rfl) ?_
      refine gX7_0 C hM hk0 gw_306 dX7_rosette_174 ?_
      refine lv_iload_n hx hb dX7_rosette_177 rfl (lv_at hl 2 rfl) ?_
      refine gq_backi C hM (gq_runV (As := [.int p0]) (rest := []) C hM (kX_lt (kX_7_0 hk0) (by decide)) (cX_6 (kX_7_0 hk0)) rfl (c_X6_jobsFor l L (a0 + 1) (kX_7_0 hk0) p0 I2 _ h) k_X6_jobsFor gw_389 rfl hl.1 rfl (Nat.le_of_ble_eq_true rfl) ⟨⟨rfl, rfl⟩, Nat.le_of_ble_eq_true rfl, Nat.le_of_ble_eq_true rfl⟩ ⟨Nat.zero_le _, Nat.zero_le _⟩ dX7_rosette_178) (fun r2 I3 H locs h hM => ?_)
      exact gq_iret C hM h dX7_rosette_181
    replace h := h.2.2.2.2.2.2.2.2.2.2.2.2 hs0 hs1 hs2 hs3 hs4 hs5 hs6 hs7 hs8 hs9 hs10 hs11
    refine lv_tableOut (tgt := 182) hx hb dX7_rosette_32 (by have q0 := lv_neT (a := 0) hs0 (by decide); have q1 := lv_neT (a := 1) hs1 (by decide); have q2 := lv_neT (a := 2) hs2 (by decide); have q3 := lv_neT (a := 3) hs3 (by decide); have q4 := lv_neT (a := 4) hs4 (by decide); have q5 := lv_neT (a := 5) hs5 (by decide); have q6 := lv_neT (a := 6) hs6 (by decide); have q7 := lv_neT (a := 7) hs7 (by decide); have q8 := lv_neT (a := 8) hs8 (by decide); have q9 := lv_neT (a := 9) hs9 (by decide); have q10 := lv_neT (a := 10) hs10 (by decide); have q11 := lv_neT (a := 11) hs11 (by decide); omega) (by decide) ?_
    refine gq_ldc (v := (-1000002 : Int32)) C gw_338 dX7_rosette_182 ?_
    exact gq_iret C hM h dX7_rosette_184
theorem k_X7_rosette : gx_kV yX7_rosette cX7_rosette 4 (some .int) 2 := ⟨⟨gw_591, gw_22, by decide, by decide, by decide +kernel⟩, gw_589, gw_590⟩
abbrev rm_X3_begin : Room := { frames := 0, cells := 0, slots := 0, locals := 0 }
set_option maxHeartbeats 4000000 in
set_option maxRecDepth 100000 in
theorem tl_X3_begin_2 (C : gx_C L 282 p s m args meth c RX3 cX3_begin 3 none) {Q : gx_M → Prop} : ∀ (fu : Nat) (v0 : Nat) (v1 : Nat) (v2 : Int32) (hv0 : kX v0 = 3) (hv1 : kX v1 = 6) (I : gx_M) (H : Heap) (locs : List Loc) (ls : Array Slot), gx_S L 282 (cellX L I) s.heap H locs → lv_has ls 3 [(0, .ref (gx_ad L v0)), (1, .ref (gx_ad L v1)), (2, .int v2)] → wl_X3_begin_2 Q fu v0 v1 v2 I → W p l e rm_X3_begin s m args below meth c H locs 0 0 (MQ below (va_Qv Q (fun I' t => gx_U L 282 (cellX L I') t) (gx_A L)) args s 0 0 (gx_A L)) (F0 m 2 ls []) := by
  have hx := C.1
  have hb := C.2.1
  intro fu
  induction fu with
  | zero => intros; rename_i h; exact False.elim h
  | succ fu ih =>
    intro v0 v1 v2 hv0 hv1 I H locs ls hM hl h
    rw [wl_X3_begin_2] at h
    refine lv_iload_n hx hb dX3_begin_2 rfl (lv_at hl 2 rfl) ?_
    refine lv_bipush (v := (20 : Int32)) hx hb dX3_begin_3 (by decide) ?_
    refine lv_icmp_ge (tgt := 21) hx hb dX3_begin_5 (by decide) (fun hc => ?_) (fun hc => ?_)
    · replace h := h.1 hc
      refine lv_aload_n hx hb dX3_begin_21 rfl (lv_at hl 0 rfl) ?_
      refine lv_iconst (v := (-1 : Int32)) hx hb dX3_begin_22 (by decide) ?_
      obtain ⟨I1, eI1⟩ : ∃ z : gx_M, z = up I v0 1 (-1 : Int32) := ⟨_, rfl⟩
      replace h := h I1 eI1
      refine pX3_1 C hM hv0 eI1 gw_225 dX3_begin_23 (fun H locs hM => ?_)
      refine lv_aload_n hx hb dX3_begin_26 rfl (lv_at hl 0 rfl) ?_
      refine lv_aload_n hx hb dX3_begin_27 rfl (lv_at hl 1 rfl) ?_
      refine gX6_5 C hM hv1 gw_146 dX3_begin_28 ?_
      obtain ⟨I2, eI2⟩ : ∃ z : gx_M, z = up I1 v0 2 (I1 v1 5) := ⟨_, rfl⟩
      replace h := h I2 eI2
      refine pX3_2 C hM hv0 eI2 gw_227 dX3_begin_31 (fun H locs hM => ?_)
      refine lv_aload_n hx hb dX3_begin_34 rfl (lv_at hl 0 rfl) ?_
      refine lv_iconst (v := (0 : Int32)) hx hb dX3_begin_35 (by decide) ?_
      obtain ⟨I3, eI3⟩ : ∃ z : gx_M, z = up I2 v0 3 (0 : Int32) := ⟨_, rfl⟩
      replace h := h I3 eI3
      refine pX3_3 C hM hv0 eI3 gw_228 dX3_begin_36 (fun H locs hM => ?_)
      exact gq_vret C hM h dX3_begin_39
    · replace h := h.2 hc
      refine lv_aload_n hx hb dX3_begin_8 rfl (lv_at hl 0 rfl) ?_
      refine gX3_0 C hM hv0 gw_224 dX3_begin_9 ?_
      refine lv_iload_n hx hb dX3_begin_12 rfl (lv_at hl 2 rfl) ?_
      refine lv_iconst (v := (0 : Int32)) hx hb dX3_begin_13 (by decide) ?_
      have hi := h.1
      replace h := h.2
      obtain ⟨I4, eI4⟩ : ∃ z : gx_M, z = up I (v0 + 1) v2.toNatClampNeg ((0 : Int32) &&& 1) := ⟨_, rfl⟩
      replace h := h I4 eI4
      refine gzastX C hM (kX_3_0 hv0) hi eI4 dX3_begin_14 (fun H locs hM => ?_)
      obtain ⟨x1, ex1⟩ : ∃ z : Int32, z = v2 + (1 : Int32) := ⟨_, rfl⟩
      replace h := h x1 ex1
      refine lv_iinc (v := x1) (lv' := [(2, .int x1), (0, .ref (gx_ad L v0)), (1, .ref (gx_ad L v1))]) hx hb dX3_begin_15 hl (k := 2) rfl (by rw [ex1]; rfl) (by decide) rfl (fun ls hl => ?_)
      refine lv_goto (tgt := 2) hx hb dX3_begin_18 (by decide) ?_
      exact ih v0 v1 x1 (hv0) (hv1) I4 _ _ _ hM (lv_sub hl [1, 2, 0] rfl) h
set_option maxHeartbeats 4000000 in
set_option maxRecDepth 100000 in
theorem c_X3_begin (l : Launch) (L : gx_L) (a0 : Nat) (hk0 : kX a0 = 3) (p0 : Nat) (hp0 : kX p0 = 6) (I : gx_M) (Q : gx_M → Prop) (h : wp_X3_begin a0 p0 I Q) : Met l yX3_begin (gx_w yX3_begin cX3_begin 3 none) rm_X3_begin (va_Pc [.ref (gx_ad L a0), .ref (gx_ad L p0)] (gx_U L 282 (cellX L I))) (va_Qv Q (fun I' t => gx_U L 282 (cellX L I') t) (gx_A L)) 0 0 (gx_A L) := by
  refine gq_enter (by decide) (Nat.le_of_ble_eq_true rfl) (fun p e s m below meth c ls C hM hl => ?_)
  have C : gx_C L 282 p s m _ meth c RX3 cX3_begin 3 none := C
  have hl : lv_has ls 3 [(0, .ref (gx_ad L a0)), (1, .ref (gx_ad L p0))] := hl
  have hx := C.1
  have hb := C.2.1
  unfold wp_X3_begin at h
  refine lv_iconst (v := (0 : Int32)) hx hb dX3_begin_0 (by decide) ?_
  refine lv_istore_n (lv' := [(2, .int (0 : Int32)), (0, .ref (gx_ad L a0)), (1, .ref (gx_ad L p0))]) hx hb dX3_begin_1 rfl hl (by decide) rfl (fun ls hl => ?_)
  obtain ⟨fv, h⟩ := h
  exact tl_X3_begin_2 C fv a0 p0 (0 : Int32) (hk0) (hp0) I _ _ _ hM (lv_sub hl [1, 2, 0] rfl) h
theorem k_X3_begin : gx_kV yX3_begin cX3_begin 3 none 1 := ⟨⟨gw_415, gw_29, by decide, by decide, by decide +kernel⟩, gw_413, gw_414⟩
abbrev rm_X6_placeOf : Room := { frames := 1, cells := 0, slots := 0, locals := 21 }
set_option maxHeartbeats 4000000 in
set_option maxRecDepth 100000 in
theorem c_X6_placeOf (l : Launch) (L : gx_L) (a0 : Nat) (hk0 : kX a0 = 6) (p0 : Int32) (I : gx_M) (Q : Int32 → gx_M → Prop) (h : wp_X6_placeOf a0 p0 I Q) : Met l yX6_placeOf (gx_w yX6_placeOf cX6_placeOf 3 (some .int)) rm_X6_placeOf (va_Pc [.ref (gx_ad L a0), .int p0] (gx_U L 282 (cellX L I))) (va_Qi Q (fun I' t => gx_U L 282 (cellX L I') t) (gx_A L)) 0 0 (gx_A L) := by
  refine gq_enter (by decide) (Nat.le_of_ble_eq_true rfl) (fun p e s m below meth c ls C hM hl => ?_)
  have C : gx_C L 282 p s m _ meth c RX6 cX6_placeOf 3 (some .int) := C
  have hl : lv_has ls 3 [(0, .ref (gx_ad L a0)), (1, .int p0)] := hl
  have hx := C.1
  have hb := C.2.1
  unfold wp_X6_placeOf at h
  refine lv_aload_n hx hb dX6_placeOf_0 rfl (lv_at hl 0 rfl) ?_
  refine lv_iload_n hx hb dX6_placeOf_1 rfl (lv_at hl 1 rfl) ?_
  refine gq_backe C hM (gq_runV (As := [.int p0]) (rest := []) C hM (kX_lt hk0 (by decide)) (cX_6 hk0) rfl (c_X6_find l L a0 hk0 p0 I _ h) k_X6_find gw_352 rfl hl.1 rfl (Nat.le_of_ble_eq_true rfl) ⟨⟨rfl, rfl⟩, Nat.le_of_ble_eq_true rfl, Nat.le_of_ble_eq_true rfl⟩ ⟨Nat.zero_le _, Nat.zero_le _⟩ dX6_placeOf_2) (fun r1 I1 H locs h hM => ?_)
  obtain ⟨hk1, h⟩ := h
  rcases r1 with _ | b1
  · replace h := h.1 rfl
    refine W.eq (g2 := F0 m 5 ls [.null]) rfl ?_
    refine lv_astore_nN (lv' := [(2, .null), (0, .ref (gx_ad L a0)), (1, .int p0)]) hx hb dX6_placeOf_5 rfl hl (by decide) rfl (fun ls hl => ?_)
    refine lv_aload_nN hx hb dX6_placeOf_6 rfl (lv_at hl 0 rfl) ?_
    refine lv_ifnonnullN hx hb dX6_placeOf_7 ?_
    refine lv_iconst (v := (0 : Int32)) hx hb dX6_placeOf_10 (by decide) ?_
    refine lv_goto (tgt := 18) hx hb dX6_placeOf_11 (by decide) ?_
    exact gq_iret C hM h dX6_placeOf_18
  · have hk := hk1 b1 rfl
    replace h := h.2 b1 rfl hk
    have hk2 := hk
    refine W.eq (g2 := F0 m 5 ls [.ref (gx_ad L b1)]) rfl ?_
    refine lv_astore_n (lv' := [(2, .ref (gx_ad L b1)), (0, .ref (gx_ad L a0)), (1, .int p0)]) hx hb dX6_placeOf_5 rfl hl (by decide) rfl (fun ls hl => ?_)
    refine lv_aload_n hx hb dX6_placeOf_6 rfl (lv_at hl 0 rfl) ?_
    refine lv_ifnonnull (tgt := 14) hx hb dX6_placeOf_7 (by decide) ?_
    refine lv_aload_n hx hb dX6_placeOf_14 rfl (lv_at hl 0 rfl) ?_
    refine gX4_0 C hM hk2 gw_75 dX6_placeOf_15 ?_
    exact gq_iret C hM h dX6_placeOf_18
theorem k_X6_placeOf : gx_kV yX6_placeOf cX6_placeOf 3 (some .int) 1 := ⟨⟨gw_351, gw_23, by decide, by decide, by decide +kernel⟩, gw_349, gw_350⟩
abbrev rm_X3_distance : Room := { frames := 2, cells := 0, slots := 0, locals := 44 }
set_option maxHeartbeats 4000000 in
set_option maxRecDepth 100000 in
theorem c_X3_distance (l : Launch) (L : gx_L) (a0 : Nat) (hk0 : kX a0 = 3) (p0 : Nat) (hp0 : kX p0 = 6) (p1 : Int32) (I : gx_M) (Q : Int32 → gx_M → Prop) (h : wp_X3_distance a0 p0 p1 I Q) : Met l yX3_distance (gx_w yX3_distance cX3_distance 3 (some .int)) rm_X3_distance (va_Pc [.ref (gx_ad L a0), .ref (gx_ad L p0), .int p1] (gx_U L 282 (cellX L I))) (va_Qi Q (fun I' t => gx_U L 282 (cellX L I') t) (gx_A L)) 0 0 (gx_A L) := by
  refine gq_enter (by decide) (Nat.le_of_ble_eq_true rfl) (fun p e s m below meth c ls C hM hl => ?_)
  have C : gx_C L 282 p s m _ meth c RX3 cX3_distance 3 (some .int) := C
  have hl : lv_has ls 3 [(0, .ref (gx_ad L a0)), (1, .ref (gx_ad L p0)), (2, .int p1)] := hl
  have hx := C.1
  have hb := C.2.1
  unfold wp_X3_distance at h
  refine lv_aload_n hx hb dX3_distance_0 rfl (lv_at hl 1 rfl) ?_
  refine lv_aload_n hx hb dX3_distance_1 rfl (lv_at hl 1 rfl) ?_
  refine gX6_1 C hM hp0 gw_138 dX3_distance_2 ?_
  refine lv_iload_n hx hb dX3_distance_5 rfl (lv_at hl 2 rfl) ?_
  refine lv_iconst (v := (2 : Int32)) hx hb dX3_distance_6 (by decide) ?_
  refine gq_backi C hM (gq_runV (As := [.int p1, .int (2 : Int32)]) (rest := [.ref (gx_ad L p0)]) C hM (kX_lt (kX_6_1 hp0) (by decide)) (cX_5 (kX_6_1 hp0)) rfl (c_X5_at l L (p0 + 2) (kX_6_1 hp0) p1 (2 : Int32) I _ h) k_X5_at gw_424 rfl hl.1 rfl (Nat.le_of_ble_eq_true rfl) ⟨⟨rfl, rfl⟩, Nat.le_of_ble_eq_true rfl, Nat.le_of_ble_eq_true rfl⟩ ⟨Nat.zero_le _, Nat.zero_le _⟩ dX3_distance_7) (fun r1 I1 H locs h hM => ?_)
  refine gq_backi C hM (gq_runV (As := [.int r1]) (rest := []) C hM (kX_lt hp0 (by decide)) (cX_6 hp0) rfl (c_X6_placeOf l L p0 hp0 r1 I1 _ h) k_X6_placeOf gw_429 rfl hl.1 rfl (Nat.le_of_ble_eq_true rfl) ⟨⟨rfl, rfl⟩, Nat.le_of_ble_eq_true rfl, Nat.le_of_ble_eq_true rfl⟩ ⟨Nat.zero_le _, Nat.zero_le _⟩ dX3_distance_10) (fun r2 I2 H locs h hM => ?_)
  refine lv_aload_n hx hb dX3_distance_13 rfl (lv_at hl 0 rfl) ?_
  refine gX3_2 C hM hk0 gw_227 dX3_distance_14 ?_
  refine lv_isub hx hb dX3_distance_17 ?_
  refine gq_abs C hl.1 gw_430 gw_431 gw_25 gw_432 (Nat.le_of_ble_eq_true rfl) (Nat.le_of_ble_eq_true rfl) (Nat.zero_le _) (Nat.zero_le _) dX3_distance_18 ?_
  exact gq_iret C hM h dX3_distance_21
theorem k_X3_distance : gx_kV yX3_distance cX3_distance 3 (some .int) 2 := ⟨⟨gw_428, gw_29, by decide, by decide, by decide +kernel⟩, gw_427, gw_3⟩
abbrev rm_X3_isAhead : Room := { frames := 3, cells := 0, slots := 0, locals := 66 }
set_option maxHeartbeats 4000000 in
set_option maxRecDepth 100000 in
theorem c_X3_isAhead (l : Launch) (L : gx_L) (a0 : Nat) (hk0 : kX a0 = 3) (p0 : Nat) (hp0 : kX p0 = 6) (p1 : Int32) (p2 : Int32) (I : gx_M) (Q : Int32 → gx_M → Prop) (h : wp_X3_isAhead a0 p0 p1 p2 I Q) : Met l yX3_isAhead (gx_w yX3_isAhead cX3_isAhead 7 (some .boolean)) rm_X3_isAhead (va_Pc [.ref (gx_ad L a0), .ref (gx_ad L p0), .int p1, .int p2] (gx_U L 282 (cellX L I))) (va_Qi (fun r I' => r &&& 1 = r ∧ Q r I') (fun I' t => gx_U L 282 (cellX L I') t) (gx_A L)) 0 0 (gx_A L) := by
  refine gq_enter (by decide) (Nat.le_of_ble_eq_true rfl) (fun p e s m below meth c ls C hM hl => ?_)
  have C : gx_C L 282 p s m _ meth c RX3 cX3_isAhead 7 (some .boolean) := C
  have hl : lv_has ls 7 [(0, .ref (gx_ad L a0)), (1, .ref (gx_ad L p0)), (2, .int p1), (3, .int p2)] := hl
  have hx := C.1
  have hb := C.2.1
  unfold wp_X3_isAhead at h
  refine lv_aload_n hx hb dX3_isAhead_0 rfl (lv_at hl 1 rfl) ?_
  refine gX6_1 C hM hp0 gw_138 dX3_isAhead_1 ?_
  refine lv_astore (lv' := [(4, .ref (gx_ad L (p0 + 2))), (0, .ref (gx_ad L a0)), (1, .ref (gx_ad L p0)), (2, .int p1), (3, .int p2)]) hx hb dX3_isAhead_4 hl (by decide) rfl (fun ls hl => ?_)
  refine lv_aload hx hb dX3_isAhead_6 (lv_at hl 0 rfl) ?_
  refine lv_iload_n hx hb dX3_isAhead_8 rfl (lv_at hl 3 rfl) ?_
  refine lv_iconst (v := (3 : Int32)) hx hb dX3_isAhead_9 (by decide) ?_
  refine gq_backi C hM (gq_runV (As := [.int p1, .int (3 : Int32)]) (rest := []) C hM (kX_lt (kX_6_1 hp0) (by decide)) (cX_5 (kX_6_1 hp0)) rfl (c_X5_at l L (p0 + 2) (kX_6_1 hp0) p1 (3 : Int32) I _ h) k_X5_at gw_424 rfl hl.1 rfl (Nat.le_of_ble_eq_true rfl) ⟨⟨rfl, rfl⟩, Nat.le_of_ble_eq_true rfl, Nat.le_of_ble_eq_true rfl⟩ ⟨Nat.zero_le _, Nat.zero_le _⟩ dX3_isAhead_10) (fun r1 I1 H locs h hM => ?_)
  refine lv_aload hx hb dX3_isAhead_13 (lv_at hl 0 rfl) ?_
  refine lv_iload_n hx hb dX3_isAhead_15 rfl (lv_at hl 4 rfl) ?_
  refine lv_iconst (v := (3 : Int32)) hx hb dX3_isAhead_16 (by decide) ?_
  refine gq_backi C hM (gq_runV (As := [.int p2, .int (3 : Int32)]) (rest := [.int r1]) C hM (kX_lt (kX_6_1 hp0) (by decide)) (cX_5 (kX_6_1 hp0)) rfl (c_X5_at l L (p0 + 2) (kX_6_1 hp0) p2 (3 : Int32) I1 _ h) k_X5_at gw_424 rfl hl.1 rfl (Nat.le_of_ble_eq_true rfl) ⟨⟨rfl, rfl⟩, Nat.le_of_ble_eq_true rfl, Nat.le_of_ble_eq_true rfl⟩ ⟨Nat.zero_le _, Nat.zero_le _⟩ dX3_isAhead_17) (fun r2 I2 H locs h hM => ?_)
  refine lv_isub hx hb dX3_isAhead_20 ?_
  refine lv_topi (fun x1 ex1 => ?_)
  replace h := h x1 ex1
  refine lv_istore (lv' := [(5, .int x1), (4, .ref (gx_ad L (p0 + 2))), (0, .ref (gx_ad L a0)), (1, .ref (gx_ad L p0)), (2, .int p1), (3, .int p2)]) hx hb dX3_isAhead_21 hl (by decide) rfl (fun ls hl => ?_)
  refine lv_iload hx hb dX3_isAhead_23 (lv_at hl 0 rfl) ?_
  refine lv_if_eq (tgt := 39) hx hb dX3_isAhead_25 (by decide) (fun hc => ?_) (fun hc => ?_)
  · replace h := h.1 hc
    refine lv_aload_n hx hb dX3_isAhead_39 rfl (lv_at hl 2 rfl) ?_
    refine lv_aload_n hx hb dX3_isAhead_40 rfl (lv_at hl 3 rfl) ?_
    refine lv_iload_n hx hb dX3_isAhead_41 rfl (lv_at hl 4 rfl) ?_
    refine gq_backi C hM (gq_runV (As := [.ref (gx_ad L p0), .int p1]) (rest := []) C hM (kX_lt hk0 (by decide)) (cX_3 hk0) rfl (c_X3_distance l L a0 hk0 p0 hp0 p1 I2 _ h) k_X3_distance gw_425 rfl hl.1 rfl (Nat.le_of_ble_eq_true rfl) ⟨⟨rfl, rfl⟩, Nat.le_of_ble_eq_true rfl, Nat.le_of_ble_eq_true rfl⟩ ⟨Nat.zero_le _, Nat.zero_le _⟩ dX3_isAhead_42) (fun r3 I3 H locs h hM => ?_)
    refine lv_aload_n hx hb dX3_isAhead_45 rfl (lv_at hl 2 rfl) ?_
    refine lv_aload_n hx hb dX3_isAhead_46 rfl (lv_at hl 3 rfl) ?_
    refine lv_iload_n hx hb dX3_isAhead_47 rfl (lv_at hl 5 rfl) ?_
    refine gq_backi C hM (gq_runV (As := [.ref (gx_ad L p0), .int p2]) (rest := [.int r3]) C hM (kX_lt hk0 (by decide)) (cX_3 hk0) rfl (c_X3_distance l L a0 hk0 p0 hp0 p2 I3 _ h) k_X3_distance gw_425 rfl hl.1 rfl (Nat.le_of_ble_eq_true rfl) ⟨⟨rfl, rfl⟩, Nat.le_of_ble_eq_true rfl, Nat.le_of_ble_eq_true rfl⟩ ⟨Nat.zero_le _, Nat.zero_le _⟩ dX3_isAhead_48) (fun r4 I4 H locs h hM => ?_)
    refine lv_isub hx hb dX3_isAhead_51 ?_
    refine lv_topi (fun x2 ex2 => ?_)
    replace h := h x2 ex2
    refine lv_istore (lv' := [(6, .int x2), (5, .int x1), (4, .ref (gx_ad L (p0 + 2))), (0, .ref (gx_ad L a0)), (1, .ref (gx_ad L p0)), (2, .int p1), (3, .int p2)]) hx hb dX3_isAhead_52 hl (by decide) rfl (fun ls hl => ?_)
    refine lv_iload hx hb dX3_isAhead_54 (lv_at hl 0 rfl) ?_
    refine lv_if_eq (tgt := 70) hx hb dX3_isAhead_56 (by decide) (fun hc => ?_) (fun hc => ?_)
    · replace h := h.1 hc
      refine lv_aload hx hb dX3_isAhead_70 (lv_at hl 2 rfl) ?_
      refine lv_iload_n hx hb dX3_isAhead_72 rfl (lv_at hl 5 rfl) ?_
      refine lv_iconst (v := (0 : Int32)) hx hb dX3_isAhead_73 (by decide) ?_
      refine gq_backi C hM (gq_runV (As := [.int p1, .int (0 : Int32)]) (rest := []) C hM (kX_lt (kX_6_1 hp0) (by decide)) (cX_5 (kX_6_1 hp0)) rfl (c_X5_at l L (p0 + 2) (kX_6_1 hp0) p1 (0 : Int32) I4 _ h) k_X5_at gw_424 rfl hl.1 rfl (Nat.le_of_ble_eq_true rfl) ⟨⟨rfl, rfl⟩, Nat.le_of_ble_eq_true rfl, Nat.le_of_ble_eq_true rfl⟩ ⟨Nat.zero_le _, Nat.zero_le _⟩ dX3_isAhead_74) (fun r5 I5 H locs h hM => ?_)
      refine lv_aload hx hb dX3_isAhead_77 (lv_at hl 2 rfl) ?_
      refine lv_iload_n hx hb dX3_isAhead_79 rfl (lv_at hl 6 rfl) ?_
      refine lv_iconst (v := (0 : Int32)) hx hb dX3_isAhead_80 (by decide) ?_
      refine gq_backi C hM (gq_runV (As := [.int p2, .int (0 : Int32)]) (rest := [.int r5]) C hM (kX_lt (kX_6_1 hp0) (by decide)) (cX_5 (kX_6_1 hp0)) rfl (c_X5_at l L (p0 + 2) (kX_6_1 hp0) p2 (0 : Int32) I5 _ h) k_X5_at gw_424 rfl hl.1 rfl (Nat.le_of_ble_eq_true rfl) ⟨⟨rfl, rfl⟩, Nat.le_of_ble_eq_true rfl, Nat.le_of_ble_eq_true rfl⟩ ⟨Nat.zero_le _, Nat.zero_le _⟩ dX3_isAhead_81) (fun r6 I6 H locs h hM => ?_)
      refine lv_icmp_ge (tgt := 91) hx hb dX3_isAhead_84 (by decide) (fun hc => ?_) (fun hc => ?_)
      · replace h := h.1 hc
        refine lv_iconst (v := (0 : Int32)) hx hb dX3_isAhead_91 (by decide) ?_
        exact gq_zret C hM ⟨rfl, h⟩ (rfl) dX3_isAhead_92
      · replace h := h.2 hc
        refine lv_iconst (v := (1 : Int32)) hx hb dX3_isAhead_87 (by decide) ?_
        refine lv_goto (tgt := 92) hx hb dX3_isAhead_88 (by decide) ?_
        exact gq_zret C hM ⟨rfl, h⟩ (rfl) dX3_isAhead_92
    · replace h := h.2 hc
      refine lv_iload hx hb dX3_isAhead_59 (lv_at hl 0 rfl) ?_
      refine lv_if_ge (tgt := 68) hx hb dX3_isAhead_61 (by decide) (fun hc => ?_) (fun hc => ?_)
      · replace h := h.1 hc
        refine lv_iconst (v := (0 : Int32)) hx hb dX3_isAhead_68 (by decide) ?_
        exact gq_zret C hM ⟨rfl, h⟩ (rfl) dX3_isAhead_69
      · replace h := h.2 hc
        refine lv_iconst (v := (1 : Int32)) hx hb dX3_isAhead_64 (by decide) ?_
        refine lv_goto (tgt := 69) hx hb dX3_isAhead_65 (by decide) ?_
        exact gq_zret C hM ⟨rfl, h⟩ (rfl) dX3_isAhead_69
  · replace h := h.2 hc
    refine lv_iload hx hb dX3_isAhead_28 (lv_at hl 0 rfl) ?_
    refine lv_if_le (tgt := 37) hx hb dX3_isAhead_30 (by decide) (fun hc => ?_) (fun hc => ?_)
    · replace h := h.1 hc
      refine lv_iconst (v := (0 : Int32)) hx hb dX3_isAhead_37 (by decide) ?_
      exact gq_zret C hM ⟨rfl, h⟩ (rfl) dX3_isAhead_38
    · replace h := h.2 hc
      refine lv_iconst (v := (1 : Int32)) hx hb dX3_isAhead_33 (by decide) ?_
      refine lv_goto (tgt := 38) hx hb dX3_isAhead_34 (by decide) ?_
      exact gq_zret C hM ⟨rfl, h⟩ (rfl) dX3_isAhead_38
theorem k_X3_isAhead : gx_kV yX3_isAhead cX3_isAhead 7 (some .boolean) 3 := ⟨⟨gw_423, gw_29, by decide, by decide, by decide +kernel⟩, gw_422, gw_2⟩
abbrev rm_X3_goOn : Room := { frames := 4, cells := 0, slots := 0, locals := 92 }
set_option maxHeartbeats 4000000 in
set_option maxRecDepth 100000 in
theorem tj_X3_goOn_58 (C : gx_C L 282 p s m args meth c RX3 cX3_goOn 3 none) {Q : gx_M → Prop} {K7 : Nat → Nat → Int32 → gx_M → Prop} (hK7 : ∀ (v0 : Nat) (v1 : Nat) (v2 : Int32) (hv0 : kX v0 = 3) (hv1 : kX v1 = 6) (I : gx_M) (H : Heap) (locs : List Loc) (ls : Array Slot), gx_S L 282 (cellX L I) s.heap H locs → lv_has ls 3 [(0, .ref (gx_ad L v0)), (1, .ref (gx_ad L v1)), (2, .int v2)] → K7 v0 v1 v2 I → W p l e rm_X3_goOn s m args below meth c H locs 0 0 (MQ below (va_Qv Q (fun I' t => gx_U L 282 (cellX L I') t) (gx_A L)) args s 0 0 (gx_A L)) (F0 m 7 ls [])) : ∀ (v0 : Nat) (v1 : Nat) (v2 : Int32) (hv0 : kX v0 = 3) (hv1 : kX v1 = 6) (I : gx_M) (H : Heap) (locs : List Loc) (ls : Array Slot), gx_S L 282 (cellX L I) s.heap H locs → lv_has ls 3 [(0, .ref (gx_ad L v0)), (1, .ref (gx_ad L v1)), (2, .int v2)] → wj_X3_goOn_58 Q K7 v0 v1 v2 I → W p l e rm_X3_goOn s m args below meth c H locs 0 0 (MQ below (va_Qv Q (fun I' t => gx_U L 282 (cellX L I') t) (gx_A L)) args s 0 0 (gx_A L)) (F0 m 58 ls []) := by
  have hx := C.1
  have hb := C.2.1
  intro v0 v1 v2 hv0 hv1 I H locs ls hM hl h
  unfold wj_X3_goOn_58 at h
  obtain ⟨x1, ex1⟩ : ∃ z : Int32, z = v2 + (1 : Int32) := ⟨_, rfl⟩
  replace h := h x1 ex1
  refine lv_iinc (v := x1) (lv' := [(2, .int x1), (0, .ref (gx_ad L v0)), (1, .ref (gx_ad L v1))]) hx hb dX3_goOn_58 hl (k := 2) rfl (by rw [ex1]; rfl) (by decide) rfl (fun ls hl => ?_)
  refine lv_goto (tgt := 7) hx hb dX3_goOn_61 (by decide) ?_
  exact hK7 v0 v1 x1 (hv0) (hv1) I _ _ _ hM (lv_sub hl [1, 2, 0] rfl) h
set_option maxHeartbeats 4000000 in
set_option maxRecDepth 100000 in
theorem tj_X3_goOn_53 (C : gx_C L 282 p s m args meth c RX3 cX3_goOn 3 none) {Q : gx_M → Prop} {K7 : Nat → Nat → Int32 → gx_M → Prop} (hK7 : ∀ (v0 : Nat) (v1 : Nat) (v2 : Int32) (hv0 : kX v0 = 3) (hv1 : kX v1 = 6) (I : gx_M) (H : Heap) (locs : List Loc) (ls : Array Slot), gx_S L 282 (cellX L I) s.heap H locs → lv_has ls 3 [(0, .ref (gx_ad L v0)), (1, .ref (gx_ad L v1)), (2, .int v2)] → K7 v0 v1 v2 I → W p l e rm_X3_goOn s m args below meth c H locs 0 0 (MQ below (va_Qv Q (fun I' t => gx_U L 282 (cellX L I') t) (gx_A L)) args s 0 0 (gx_A L)) (F0 m 7 ls [])) : ∀ (v0 : Nat) (v1 : Nat) (v2 : Int32) (hv0 : kX v0 = 3) (hv1 : kX v1 = 6) (I : gx_M) (H : Heap) (locs : List Loc) (ls : Array Slot), gx_S L 282 (cellX L I) s.heap H locs → lv_has ls 3 [(0, .ref (gx_ad L v0)), (1, .ref (gx_ad L v1)), (2, .int v2)] → wj_X3_goOn_53 Q K7 v0 v1 v2 I → W p l e rm_X3_goOn s m args below meth c H locs 0 0 (MQ below (va_Qv Q (fun I' t => gx_U L 282 (cellX L I') t) (gx_A L)) args s 0 0 (gx_A L)) (F0 m 53 ls []) := by
  have hx := C.1
  have hb := C.2.1
  intro v0 v1 v2 hv0 hv1 I H locs ls hM hl h
  unfold wj_X3_goOn_53 at h
  refine lv_aload_n hx hb dX3_goOn_53 rfl (lv_at hl 0 rfl) ?_
  refine lv_iload_n hx hb dX3_goOn_54 rfl (lv_at hl 2 rfl) ?_
  obtain ⟨I1, eI1⟩ : ∃ z : gx_M, z = up I v0 1 v2 := ⟨_, rfl⟩
  replace h := h I1 eI1
  refine pX3_1 C hM hv0 eI1 gw_225 dX3_goOn_55 (fun H locs hM => ?_)
  exact tj_X3_goOn_58 C hK7 v0 v1 v2 (hv0) (hv1) I1 _ _ _ hM (lv_sub hl [0, 1, 2] rfl) h
set_option maxHeartbeats 4000000 in
set_option maxRecDepth 100000 in
theorem tj_X3_goOn_64 (C : gx_C L 282 p s m args meth c RX3 cX3_goOn 3 none) {Q : gx_M → Prop} : ∀ (v0 : Nat) (v1 : Nat) (hv0 : kX v0 = 3) (hv1 : kX v1 = 6) (I : gx_M) (H : Heap) (locs : List Loc) (ls : Array Slot), gx_S L 282 (cellX L I) s.heap H locs → lv_has ls 3 [(0, .ref (gx_ad L v0)), (1, .ref (gx_ad L v1))] → wj_X3_goOn_64 Q v0 v1 I → W p l e rm_X3_goOn s m args below meth c H locs 0 0 (MQ below (va_Qv Q (fun I' t => gx_U L 282 (cellX L I') t) (gx_A L)) args s 0 0 (gx_A L)) (F0 m 64 ls []) := by
  have hx := C.1
  have hb := C.2.1
  intro v0 v1 hv0 hv1 I H locs ls hM hl h
  unfold wj_X3_goOn_64 at h
  refine lv_aload_n hx hb dX3_goOn_64 rfl (lv_at hl 0 rfl) ?_
  refine gX3_1 C hM hv0 gw_225 dX3_goOn_65 ?_
  refine lv_if_lt (tgt := 121) hx hb dX3_goOn_68 (by decide) (fun hc => ?_) (fun hc => ?_)
  · replace h := h.1 hc
    exact gq_vret C hM h dX3_goOn_121
  · replace h := h.2 hc
    refine lv_aload_n hx hb dX3_goOn_71 rfl (lv_at hl 0 rfl) ?_
    refine gX3_0 C hM hv0 gw_224 dX3_goOn_72 ?_
    refine lv_aload_n hx hb dX3_goOn_75 rfl (lv_at hl 0 rfl) ?_
    refine gX3_1 C hM hv0 gw_225 dX3_goOn_76 ?_
    refine lv_iconst (v := (1 : Int32)) hx hb dX3_goOn_79 (by decide) ?_
    have hi := h.1
    replace h := h.2
    obtain ⟨I1, eI1⟩ : ∃ z : gx_M, z = up I (v0 + 1) (I v0 1).toNatClampNeg ((1 : Int32) &&& 1) := ⟨_, rfl⟩
    replace h := h I1 eI1
    refine gzastX C hM (kX_3_0 hv0) hi eI1 dX3_goOn_80 (fun H locs hM => ?_)
    refine lv_aload_n hx hb dX3_goOn_81 rfl (lv_at hl 1 rfl) ?_
    refine lv_aload_n hx hb dX3_goOn_82 rfl (lv_at hl 1 rfl) ?_
    refine gX6_1 C hM hv1 gw_138 dX3_goOn_83 ?_
    refine lv_aload_n hx hb dX3_goOn_86 rfl (lv_at hl 0 rfl) ?_
    refine gX3_1 C hM hv0 gw_225 dX3_goOn_87 ?_
    refine lv_iconst (v := (2 : Int32)) hx hb dX3_goOn_90 (by decide) ?_
    refine gq_backi C hM (gq_runV (As := [.int (I1 v0 1), .int (2 : Int32)]) (rest := [.ref (gx_ad L v1)]) C hM (kX_lt (kX_6_1 hv1) (by decide)) (cX_5 (kX_6_1 hv1)) rfl (c_X5_at l L (v1 + 2) (kX_6_1 hv1) (I1 v0 1) (2 : Int32) I1 _ h) k_X5_at gw_424 rfl hl.1 rfl (Nat.le_of_ble_eq_true rfl) ⟨⟨rfl, rfl⟩, Nat.le_of_ble_eq_true rfl, Nat.le_of_ble_eq_true rfl⟩ ⟨Nat.zero_le _, Nat.zero_le _⟩ dX3_goOn_91) (fun r1 I2 H locs h hM => ?_)
    refine gq_backi C hM (gq_runV (As := [.int r1]) (rest := []) C hM (kX_lt hv1 (by decide)) (cX_6 hv1) rfl (c_X6_placeOf l L v1 hv1 r1 I2 _ h) k_X6_placeOf gw_429 rfl hl.1 rfl (Nat.le_of_ble_eq_true rfl) ⟨⟨rfl, rfl⟩, Nat.le_of_ble_eq_true rfl, Nat.le_of_ble_eq_true rfl⟩ ⟨Nat.zero_le _, Nat.zero_le _⟩ dX3_goOn_94) (fun r2 I3 H locs h hM => ?_)
    refine lv_istore_n (lv' := [(2, .int r2), (0, .ref (gx_ad L v0)), (1, .ref (gx_ad L v1))]) hx hb dX3_goOn_97 rfl hl (by decide) rfl (fun ls hl => ?_)
    refine lv_aload_n hx hb dX3_goOn_98 rfl (lv_at hl 1 rfl) ?_
    refine lv_dup hx hb dX3_goOn_99 rfl ?_
    refine gX3_3 C hM hv0 gw_228 dX3_goOn_100 ?_
    refine lv_iload_n hx hb dX3_goOn_103 rfl (lv_at hl 0 rfl) ?_
    refine lv_aload_n hx hb dX3_goOn_104 rfl (lv_at hl 1 rfl) ?_
    refine gX3_2 C hM hv0 gw_227 dX3_goOn_105 ?_
    refine lv_isub hx hb dX3_goOn_108 ?_
    refine gq_abs C hl.1 gw_430 gw_431 gw_25 gw_432 (Nat.le_of_ble_eq_true rfl) (Nat.le_of_ble_eq_true rfl) (Nat.zero_le _) (Nat.zero_le _) dX3_goOn_109 ?_
    refine lv_iadd hx hb dX3_goOn_112 ?_
    obtain ⟨I4, eI4⟩ : ∃ z : gx_M, z = up I3 v0 3 ((I3 v0 3) + (if 0 ≤ (r2 - (I3 v0 2)) then (r2 - (I3 v0 2)) else 0 - (r2 - (I3 v0 2)))) := ⟨_, rfl⟩
    replace h := h I4 eI4
    refine pX3_3 C hM hv0 eI4 gw_228 dX3_goOn_113 (fun H locs hM => ?_)
    refine lv_aload_n hx hb dX3_goOn_116 rfl (lv_at hl 1 rfl) ?_
    refine lv_iload_n hx hb dX3_goOn_117 rfl (lv_at hl 0 rfl) ?_
    obtain ⟨I5, eI5⟩ : ∃ z : gx_M, z = up I4 v0 2 r2 := ⟨_, rfl⟩
    replace h := h I5 eI5
    refine pX3_2 C hM hv0 eI5 gw_227 dX3_goOn_118 (fun H locs hM => ?_)
    exact gq_vret C hM h dX3_goOn_121
set_option maxHeartbeats 4000000 in
set_option maxRecDepth 100000 in
theorem tl_X3_goOn_7 (C : gx_C L 282 p s m args meth c RX3 cX3_goOn 3 none) {Q : gx_M → Prop} : ∀ (fu : Nat) (v0 : Nat) (v1 : Nat) (v2 : Int32) (hv0 : kX v0 = 3) (hv1 : kX v1 = 6) (I : gx_M) (H : Heap) (locs : List Loc) (ls : Array Slot), gx_S L 282 (cellX L I) s.heap H locs → lv_has ls 3 [(0, .ref (gx_ad L v0)), (1, .ref (gx_ad L v1)), (2, .int v2)] → wl_X3_goOn_7 Q fu v0 v1 v2 I → W p l e rm_X3_goOn s m args below meth c H locs 0 0 (MQ below (va_Qv Q (fun I' t => gx_U L 282 (cellX L I') t) (gx_A L)) args s 0 0 (gx_A L)) (F0 m 7 ls []) := by
  have hx := C.1
  have hb := C.2.1
  intro fu
  induction fu with
  | zero => intros; rename_i h; exact False.elim h
  | succ fu ih =>
    intro v0 v1 v2 hv0 hv1 I H locs ls hM hl h
    rw [wl_X3_goOn_7] at h
    refine lv_iload_n hx hb dX3_goOn_7 rfl (lv_at hl 2 rfl) ?_
    refine lv_aload_n hx hb dX3_goOn_8 rfl (lv_at hl 1 rfl) ?_
    refine gX6_1 C hM hv1 gw_138 dX3_goOn_9 ?_
    refine gX5_1 C hM (kX_6_1 hv1) gw_60 dX3_goOn_12 ?_
    refine lv_icmp_ge (tgt := 64) hx hb dX3_goOn_15 (by decide) (fun hc => ?_) (fun hc => ?_)
    · replace h := h.1 hc
      exact tj_X3_goOn_64 C v0 v1 (hv0) (hv1) I _ _ _ hM (lv_sub hl [0, 1] rfl) h
    · replace h := h.2 hc
      refine lv_iload_n hx hb dX3_goOn_18 rfl (lv_at hl 2 rfl) ?_
      refine lv_bipush (v := (20 : Int32)) hx hb dX3_goOn_19 (by decide) ?_
      refine lv_icmp_ge (tgt := 64) hx hb dX3_goOn_21 (by decide) (fun hc => ?_) (fun hc => ?_)
      · replace h := h.1 hc
        exact tj_X3_goOn_64 C v0 v1 (hv0) (hv1) I _ _ _ hM (lv_sub hl [0, 1] rfl) h
      · replace h := h.2 hc
        refine lv_aload_n hx hb dX3_goOn_24 rfl (lv_at hl 0 rfl) ?_
        refine gX3_0 C hM hv0 gw_224 dX3_goOn_25 ?_
        refine lv_iload_n hx hb dX3_goOn_28 rfl (lv_at hl 2 rfl) ?_
        refine gzaldX C hM (kX_3_0 hv0) h.1 dX3_goOn_29 ?_
        replace h := h.2
        refine lv_if_ne (tgt := 58) hx hb dX3_goOn_30 (by decide) (fun hc => ?_) (fun hc => ?_)
        · replace h := h.2 hc
          exact tj_X3_goOn_58 C ih v0 v1 v2 (hv0) (hv1) I _ _ _ hM (lv_sub hl [0, 1, 2] rfl) h
        · replace h := h.1 hc
          refine lv_aload_n hx hb dX3_goOn_33 rfl (lv_at hl 0 rfl) ?_
          refine gX3_1 C hM hv0 gw_225 dX3_goOn_34 ?_
          refine lv_if_lt (tgt := 53) hx hb dX3_goOn_37 (by decide) (fun hc => ?_) (fun hc => ?_)
          · replace h := h.1 hc
            exact tj_X3_goOn_53 C ih v0 v1 v2 (hv0) (hv1) I _ _ _ hM (lv_sub hl [0, 1, 2] rfl) h
          · replace h := h.2 hc
            refine lv_aload_n hx hb dX3_goOn_40 rfl (lv_at hl 0 rfl) ?_
            refine lv_aload_n hx hb dX3_goOn_41 rfl (lv_at hl 1 rfl) ?_
            refine lv_iload_n hx hb dX3_goOn_42 rfl (lv_at hl 2 rfl) ?_
            refine lv_aload_n hx hb dX3_goOn_43 rfl (lv_at hl 0 rfl) ?_
            refine gX3_1 C hM hv0 gw_225 dX3_goOn_44 ?_
            refine gq_backi C hM (gq_runV (As := [.ref (gx_ad L v1), .int v2, .int (I v0 1)]) (rest := []) C hM (kX_lt hv0 (by decide)) (cX_3 hv0) rfl (c_X3_isAhead l L v0 hv0 v1 hv1 v2 (I v0 1) I _ h) k_X3_isAhead gw_420 rfl hl.1 rfl (Nat.le_of_ble_eq_true rfl) ⟨⟨rfl, rfl⟩, Nat.le_of_ble_eq_true rfl, Nat.le_of_ble_eq_true rfl⟩ ⟨Nat.zero_le _, Nat.zero_le _⟩ dX3_goOn_47) (fun r1 I1 H locs h hM => ?_)
            obtain ⟨hz1, h⟩ := h
            refine lv_if_eq (tgt := 58) hx hb dX3_goOn_50 (by decide) (fun hc => ?_) (fun hc => ?_)
            · replace h := h.1 hc
              exact tj_X3_goOn_58 C ih v0 v1 v2 (hv0) (hv1) I1 _ _ _ hM (lv_sub hl [0, 1, 2] rfl) h
            · replace h := h.2 hc
              exact tj_X3_goOn_53 C ih v0 v1 v2 (hv0) (hv1) I1 _ _ _ hM (lv_sub hl [0, 1, 2] rfl) h
set_option maxHeartbeats 4000000 in
set_option maxRecDepth 100000 in
theorem c_X3_goOn (l : Launch) (L : gx_L) (a0 : Nat) (hk0 : kX a0 = 3) (p0 : Nat) (hp0 : kX p0 = 6) (I : gx_M) (Q : gx_M → Prop) (h : wp_X3_goOn a0 p0 I Q) : Met l yX3_goOn (gx_w yX3_goOn cX3_goOn 3 none) rm_X3_goOn (va_Pc [.ref (gx_ad L a0), .ref (gx_ad L p0)] (gx_U L 282 (cellX L I))) (va_Qv Q (fun I' t => gx_U L 282 (cellX L I') t) (gx_A L)) 0 0 (gx_A L) := by
  refine gq_enter (by decide) (Nat.le_of_ble_eq_true rfl) (fun p e s m below meth c ls C hM hl => ?_)
  have C : gx_C L 282 p s m _ meth c RX3 cX3_goOn 3 none := C
  have hl : lv_has ls 3 [(0, .ref (gx_ad L a0)), (1, .ref (gx_ad L p0))] := hl
  have hx := C.1
  have hb := C.2.1
  unfold wp_X3_goOn at h
  refine lv_aload_n hx hb dX3_goOn_0 rfl (lv_at hl 0 rfl) ?_
  refine lv_iconst (v := (-1 : Int32)) hx hb dX3_goOn_1 (by decide) ?_
  obtain ⟨I1, eI1⟩ : ∃ z : gx_M, z = up I a0 1 (-1 : Int32) := ⟨_, rfl⟩
  replace h := h I1 eI1
  refine pX3_1 C hM hk0 eI1 gw_225 dX3_goOn_2 (fun H locs hM => ?_)
  refine lv_iconst (v := (0 : Int32)) hx hb dX3_goOn_5 (by decide) ?_
  refine lv_istore_n (lv' := [(2, .int (0 : Int32)), (0, .ref (gx_ad L a0)), (1, .ref (gx_ad L p0))]) hx hb dX3_goOn_6 rfl hl (by decide) rfl (fun ls hl => ?_)
  obtain ⟨fv, h⟩ := h
  exact tl_X3_goOn_7 C fv a0 p0 (0 : Int32) (hk0) (hp0) I1 _ _ _ hM (lv_sub hl [1, 2, 0] rfl) h
theorem k_X3_goOn : gx_kV yX3_goOn cX3_goOn 3 none 1 := ⟨⟨gw_419, gw_29, by decide, by decide, by decide +kernel⟩, gw_417, gw_418⟩
abbrev rm_X7_job : Room := { frames := 5, cells := 0, slots := 0, locals := 114 }
set_option maxHeartbeats 4000000 in
set_option maxRecDepth 100000 in
theorem tl_X7_job_46 (C : gx_C L 282 p s m args meth c RX7 cX7_job 4 (some .int)) {Q : Int32 → gx_M → Prop} : ∀ (fu : Nat) (v0 : Nat) (v1 : Int32) (v2 : Int32) (v3 : Int32) (hv0 : kX v0 = 7) (I : gx_M) (H : Heap) (locs : List Loc) (ls : Array Slot), gx_S L 282 (cellX L I) s.heap H locs → lv_has ls 4 [(0, .ref (gx_ad L v0)), (1, .int v1), (2, .int v2), (3, .int v3)] → wl_X7_job_46 Q fu v0 v1 v2 v3 I → W p l e rm_X7_job s m args below meth c H locs 0 0 (MQ below (va_Qi Q (fun I' t => gx_U L 282 (cellX L I') t) (gx_A L)) args s 0 0 (gx_A L)) (F0 m 46 ls []) := by
  have hx := C.1
  have hb := C.2.1
  intro fu
  induction fu with
  | zero => intros; rename_i h; exact False.elim h
  | succ fu ih =>
    intro v0 v1 v2 v3 hv0 I H locs ls hM hl h
    rw [wl_X7_job_46] at h
    refine lv_iload_n hx hb dX7_job_46 rfl (lv_at hl 3 rfl) ?_
    refine lv_iload_n hx hb dX7_job_47 rfl (lv_at hl 1 rfl) ?_
    refine lv_icmp_gt (tgt := 68) hx hb dX7_job_48 (by decide) (fun hc => ?_) (fun hc => ?_)
    · replace h := h.1 hc
      refine lv_iload_n hx hb dX7_job_68 rfl (lv_at hl 2 rfl) ?_
      refine lv_iconst (v := (4 : Int32)) hx hb dX7_job_69 (by decide) ?_
      refine lv_icmp_ne (tgt := 83) hx hb dX7_job_70 (by decide) (fun hc => ?_) (fun hc => ?_)
      · replace h := h.2 hc
        refine lv_aload_n hx hb dX7_job_83 rfl (lv_at hl 0 rfl) ?_
        refine gX7_0 C hM hv0 gw_306 dX7_job_84 ?_
        refine gX6_1 C hM (kX_7_0 hv0) gw_139 dX7_job_87 ?_
        refine lv_aload_n hx hb dX7_job_90 rfl (lv_at hl 0 rfl) ?_
        refine gX7_6 C hM hv0 gw_312 dX7_job_91 ?_
        refine gX3_1 C hM (kX_7_6 hv0) gw_226 dX7_job_94 ?_
        refine lv_iload_n hx hb dX7_job_97 rfl (lv_at hl 2 rfl) ?_
        refine gq_backi C hM (gq_runV (As := [.int (I (v0 + 273) 1), .int v2]) (rest := []) C hM (kX_lt (kX_6_1 (kX_7_0 hv0)) (by decide)) (cX_5 (kX_6_1 (kX_7_0 hv0))) rfl (c_X5_at l L ((v0 + 1) + 2) (kX_6_1 (kX_7_0 hv0)) (I (v0 + 273) 1) v2 I _ h) k_X5_at gw_433 rfl hl.1 rfl (Nat.le_of_ble_eq_true rfl) ⟨⟨rfl, rfl⟩, Nat.le_of_ble_eq_true rfl, Nat.le_of_ble_eq_true rfl⟩ ⟨Nat.zero_le _, Nat.zero_le _⟩ dX7_job_98) (fun r1 I1 H locs h hM => ?_)
        exact gq_iret C hM h dX7_job_101
      · replace h := h.1 hc
        refine lv_aload_n hx hb dX7_job_73 rfl (lv_at hl 0 rfl) ?_
        refine gX7_6 C hM hv0 gw_312 dX7_job_74 ?_
        refine gX3_3 C hM (kX_7_6 hv0) gw_229 dX7_job_77 ?_
        refine lv_goto (tgt := 101) hx hb dX7_job_80 (by decide) ?_
        exact gq_iret C hM h dX7_job_101
    · replace h := h.2 hc
      refine lv_aload_n hx hb dX7_job_51 rfl (lv_at hl 0 rfl) ?_
      refine gX7_6 C hM hv0 gw_312 dX7_job_52 ?_
      refine lv_aload_n hx hb dX7_job_55 rfl (lv_at hl 0 rfl) ?_
      refine gX7_0 C hM hv0 gw_306 dX7_job_56 ?_
      refine gq_backv C hM (gq_runV (As := [.ref (gx_ad L (v0 + 1))]) (rest := []) C hM (kX_lt (kX_7_6 hv0) (by decide)) (cX_3 (kX_7_6 hv0)) rfl (c_X3_goOn l L (v0 + 273) (kX_7_6 hv0) (v0 + 1) (kX_7_0 hv0) I _ h) k_X3_goOn gw_416 rfl hl.1 rfl (Nat.le_of_ble_eq_true rfl) ⟨⟨rfl, rfl⟩, Nat.le_of_ble_eq_true rfl, Nat.le_of_ble_eq_true rfl⟩ ⟨Nat.zero_le _, Nat.zero_le _⟩ dX7_job_59) (fun I2 H locs h hM => ?_)
      obtain ⟨x1, ex1⟩ : ∃ z : Int32, z = v3 + (1 : Int32) := ⟨_, rfl⟩
      replace h := h x1 ex1
      refine lv_iinc (v := x1) (lv' := [(3, .int x1), (0, .ref (gx_ad L v0)), (1, .int v1), (2, .int v2)]) hx hb dX7_job_62 hl (k := 3) rfl (by rw [ex1]; rfl) (by decide) rfl (fun ls hl => ?_)
      refine lv_goto (tgt := 46) hx hb dX7_job_65 (by decide) ?_
      exact ih v0 v1 v2 x1 (hv0) I2 _ _ _ hM (lv_sub hl [1, 2, 3, 0] rfl) h
set_option maxHeartbeats 4000000 in
set_option maxRecDepth 100000 in
theorem c_X7_job (l : Launch) (L : gx_L) (a0 : Nat) (hk0 : kX a0 = 7) (p0 : Int32) (p1 : Int32) (I : gx_M) (Q : Int32 → gx_M → Prop) (h : wp_X7_job a0 p0 p1 I Q) : Met l yX7_job (gx_w yX7_job cX7_job 4 (some .int)) rm_X7_job (va_Pc [.ref (gx_ad L a0), .int p0, .int p1] (gx_U L 282 (cellX L I))) (va_Qi Q (fun I' t => gx_U L 282 (cellX L I') t) (gx_A L)) 0 0 (gx_A L) := by
  refine gq_enter (by decide) (Nat.le_of_ble_eq_true rfl) (fun p e s m below meth c ls C hM hl => ?_)
  have C : gx_C L 282 p s m _ meth c RX7 cX7_job 4 (some .int) := C
  have hl : lv_has ls 4 [(0, .ref (gx_ad L a0)), (1, .int p0), (2, .int p1)] := hl
  have hx := C.1
  have hb := C.2.1
  unfold wp_X7_job at h
  refine lv_iload_n hx hb dX7_job_0 rfl (lv_at hl 1 rfl) ?_
  refine lv_if_lt (tgt := 13) hx hb dX7_job_1 (by decide) (fun hc => ?_) (fun hc => ?_)
  · replace h := h.1 hc
    refine gq_ldc (v := (-1000002 : Int32)) C gw_338 dX7_job_13 ?_
    exact gq_iret C hM h dX7_job_15
  · replace h := h.2 hc
    refine lv_iload_n hx hb dX7_job_4 rfl (lv_at hl 2 rfl) ?_
    refine lv_iconst (v := (0 : Int32)) hx hb dX7_job_5 (by decide) ?_
    refine lv_iconst (v := (4 : Int32)) hx hb dX7_job_6 (by decide) ?_
    refine gq_backi C hM (gq_runS (As := [.int p1, .int (0 : Int32), .int (4 : Int32)]) (rest := []) C hM (c_X7_isWithin l L p1 (0 : Int32) (4 : Int32) I _ h) k_X7_isWithin gw_335 rfl hl.1 rfl (Nat.le_of_ble_eq_true rfl) ⟨⟨rfl, rfl⟩, Nat.le_of_ble_eq_true rfl, Nat.le_of_ble_eq_true rfl⟩ ⟨Nat.zero_le _, Nat.zero_le _⟩ dX7_job_7) (fun r1 I1 H locs h hM => ?_)
    obtain ⟨hz1, h⟩ := h
    refine lv_if_ne (tgt := 16) hx hb dX7_job_10 (by decide) (fun hc => ?_) (fun hc => ?_)
    · replace h := h.2 hc
      refine lv_iload_n hx hb dX7_job_16 rfl (lv_at hl 1 rfl) ?_
      refine lv_aload_n hx hb dX7_job_17 rfl (lv_at hl 0 rfl) ?_
      refine gX7_0 C hM hk0 gw_306 dX7_job_18 ?_
      refine gX6_1 C hM (kX_7_0 hk0) gw_139 dX7_job_21 ?_
      refine gX5_1 C hM (kX_6_1 (kX_7_0 hk0)) gw_62 dX7_job_24 ?_
      refine lv_icmp_lt (tgt := 33) hx hb dX7_job_27 (by decide) (fun hc => ?_) (fun hc => ?_)
      · replace h := h.1 hc
        refine lv_aload_n hx hb dX7_job_33 rfl (lv_at hl 0 rfl) ?_
        refine gX7_6 C hM hk0 gw_312 dX7_job_34 ?_
        refine lv_aload_n hx hb dX7_job_37 rfl (lv_at hl 0 rfl) ?_
        refine gX7_0 C hM hk0 gw_306 dX7_job_38 ?_
        refine gq_backv C hM (gq_runV (As := [.ref (gx_ad L (a0 + 1))]) (rest := []) C hM (kX_lt (kX_7_6 hk0) (by decide)) (cX_3 (kX_7_6 hk0)) rfl (c_X3_begin l L (a0 + 273) (kX_7_6 hk0) (a0 + 1) (kX_7_0 hk0) I1 _ h) k_X3_begin gw_412 rfl hl.1 rfl (Nat.le_of_ble_eq_true rfl) ⟨⟨rfl, rfl⟩, Nat.le_of_ble_eq_true rfl, Nat.le_of_ble_eq_true rfl⟩ ⟨Nat.zero_le _, Nat.zero_le _⟩ dX7_job_41) (fun I2 H locs h hM => ?_)
        refine lv_iconst (v := (0 : Int32)) hx hb dX7_job_44 (by decide) ?_
        refine lv_istore_n (lv' := [(3, .int (0 : Int32)), (0, .ref (gx_ad L a0)), (1, .int p0), (2, .int p1)]) hx hb dX7_job_45 rfl hl (by decide) rfl (fun ls hl => ?_)
        obtain ⟨fv, h⟩ := h
        exact tl_X7_job_46 C fv a0 p0 p1 (0 : Int32) (hk0) I2 _ _ _ hM (lv_sub hl [1, 2, 3, 0] rfl) h
      · replace h := h.2 hc
        refine gq_ldc (v := (-1000004 : Int32)) C gw_399 dX7_job_30 ?_
        exact gq_iret C hM h dX7_job_32
    · replace h := h.1 hc
      refine gq_ldc (v := (-1000002 : Int32)) C gw_338 dX7_job_13 ?_
      exact gq_iret C hM h dX7_job_15
theorem k_X7_job : gx_kV yX7_job cX7_job 4 (some .int) 2 := ⟨⟨gw_627, gw_22, by decide, by decide, by decide +kernel⟩, gw_625, gw_626⟩
abbrev rm_X7_neighbour : Room := { frames := 2, cells := 0, slots := 0, locals := 43 }
set_option maxHeartbeats 4000000 in
set_option maxRecDepth 100000 in
theorem tj_X7_neighbour_87 (C : gx_C L 282 p s m args meth c RX7 cX7_neighbour 7 (some .int)) {Q : Int32 → gx_M → Prop} {K25 : Nat → Int32 → Int32 → Int32 → Int32 → Int32 → gx_M → Prop} (hK25 : ∀ (v0 : Nat) (v1 : Int32) (v2 : Int32) (v3 : Int32) (v4 : Int32) (v5 : Int32) (hv0 : kX v0 = 7) (I : gx_M) (H : Heap) (locs : List Loc) (ls : Array Slot), gx_S L 282 (cellX L I) s.heap H locs → lv_has ls 7 [(0, .ref (gx_ad L v0)), (1, .int v1), (2, .int v2), (3, .int v3), (4, .int v4), (5, .int v5)] → K25 v0 v1 v2 v3 v4 v5 I → W p l e rm_X7_neighbour s m args below meth c H locs 0 0 (MQ below (va_Qi Q (fun I' t => gx_U L 282 (cellX L I') t) (gx_A L)) args s 0 0 (gx_A L)) (F0 m 25 ls [])) : ∀ (v0 : Nat) (v1 : Int32) (v2 : Int32) (v3 : Int32) (v4 : Int32) (v5 : Int32) (hv0 : kX v0 = 7) (I : gx_M) (H : Heap) (locs : List Loc) (ls : Array Slot), gx_S L 282 (cellX L I) s.heap H locs → lv_has ls 7 [(0, .ref (gx_ad L v0)), (1, .int v1), (2, .int v2), (3, .int v3), (4, .int v4), (5, .int v5)] → wj_X7_neighbour_87 Q K25 v0 v1 v2 v3 v4 v5 I → W p l e rm_X7_neighbour s m args below meth c H locs 0 0 (MQ below (va_Qi Q (fun I' t => gx_U L 282 (cellX L I') t) (gx_A L)) args s 0 0 (gx_A L)) (F0 m 87 ls []) := by
  have hx := C.1
  have hb := C.2.1
  intro v0 v1 v2 v3 v4 v5 hv0 I H locs ls hM hl h
  unfold wj_X7_neighbour_87 at h
  obtain ⟨x1, ex1⟩ : ∃ z : Int32, z = v5 + (1 : Int32) := ⟨_, rfl⟩
  replace h := h x1 ex1
  refine lv_iinc (v := x1) (lv' := [(5, .int x1), (0, .ref (gx_ad L v0)), (1, .int v1), (2, .int v2), (3, .int v3), (4, .int v4)]) hx hb dX7_neighbour_87 hl (k := 5) rfl (by rw [ex1]; rfl) (by decide) rfl (fun ls hl => ?_)
  refine lv_goto (tgt := 25) hx hb dX7_neighbour_90 (by decide) ?_
  exact hK25 v0 v1 v2 v3 v4 x1 (hv0) I _ _ _ hM (lv_sub hl [1, 2, 3, 4, 5, 0] rfl) h
set_option maxHeartbeats 4000000 in
set_option maxRecDepth 100000 in
theorem tj_X7_neighbour_66 (C : gx_C L 282 p s m args meth c RX7 cX7_neighbour 7 (some .int)) {Q : Int32 → gx_M → Prop} {K25 : Nat → Int32 → Int32 → Int32 → Int32 → Int32 → gx_M → Prop} (hK25 : ∀ (v0 : Nat) (v1 : Int32) (v2 : Int32) (v3 : Int32) (v4 : Int32) (v5 : Int32) (hv0 : kX v0 = 7) (I : gx_M) (H : Heap) (locs : List Loc) (ls : Array Slot), gx_S L 282 (cellX L I) s.heap H locs → lv_has ls 7 [(0, .ref (gx_ad L v0)), (1, .int v1), (2, .int v2), (3, .int v3), (4, .int v4), (5, .int v5)] → K25 v0 v1 v2 v3 v4 v5 I → W p l e rm_X7_neighbour s m args below meth c H locs 0 0 (MQ below (va_Qi Q (fun I' t => gx_U L 282 (cellX L I') t) (gx_A L)) args s 0 0 (gx_A L)) (F0 m 25 ls [])) : ∀ (v0 : Nat) (v1 : Int32) (v2 : Int32) (v3 : Int32) (v4 : Int32) (v5 : Int32) (u0 : Int32) (hv0 : kX v0 = 7) (I : gx_M) (H : Heap) (locs : List Loc) (ls : Array Slot), gx_S L 282 (cellX L I) s.heap H locs → lv_has ls 7 [(0, .ref (gx_ad L v0)), (1, .int v1), (2, .int v2), (3, .int v3), (4, .int v4), (5, .int v5)] → wj_X7_neighbour_66 Q K25 v0 v1 v2 v3 v4 v5 u0 I → W p l e rm_X7_neighbour s m args below meth c H locs 0 0 (MQ below (va_Qi Q (fun I' t => gx_U L 282 (cellX L I') t) (gx_A L)) args s 0 0 (gx_A L)) (F0 m 66 ls [.int u0]) := by
  have hx := C.1
  have hb := C.2.1
  intro v0 v1 v2 v3 v4 v5 u0 hv0 I H locs ls hM hl h
  unfold wj_X7_neighbour_66 at h
  refine lv_istore (lv' := [(6, .int u0), (0, .ref (gx_ad L v0)), (1, .int v1), (2, .int v2), (3, .int v3), (4, .int v4), (5, .int v5)]) hx hb dX7_neighbour_66 hl (by decide) rfl (fun ls hl => ?_)
  refine lv_iload hx hb dX7_neighbour_68 (lv_at hl 0 rfl) ?_
  refine lv_if_le (tgt := 87) hx hb dX7_neighbour_70 (by decide) (fun hc => ?_) (fun hc => ?_)
  · replace h := h.1 hc
    exact tj_X7_neighbour_87 C hK25 v0 v1 v2 v3 v4 v5 (hv0) I _ _ _ hM (lv_sub hl [1, 2, 3, 4, 5, 6] rfl) h
  · replace h := h.2 hc
    refine lv_iload hx hb dX7_neighbour_73 (lv_at hl 0 rfl) ?_
    refine lv_iload hx hb dX7_neighbour_75 (lv_at hl 5 rfl) ?_
    refine lv_icmp_ge (tgt := 87) hx hb dX7_neighbour_77 (by decide) (fun hc => ?_) (fun hc => ?_)
    · replace h := h.1 hc
      exact tj_X7_neighbour_87 C hK25 v0 v1 v2 v3 v4 v5 (hv0) I _ _ _ hM (lv_sub hl [1, 2, 3, 4, 5, 6] rfl) h
    · replace h := h.2 hc
      refine lv_iload hx hb dX7_neighbour_80 (lv_at hl 6 rfl) ?_
      refine lv_istore_n (lv' := [(3, .int v5), (6, .int u0), (0, .ref (gx_ad L v0)), (1, .int v1), (2, .int v2), (4, .int v4), (5, .int v5)]) hx hb dX7_neighbour_82 rfl hl (by decide) rfl (fun ls hl => ?_)
      refine lv_iload hx hb dX7_neighbour_83 (lv_at hl 1 rfl) ?_
      refine lv_istore (lv' := [(4, .int u0), (3, .int v5), (6, .int u0), (0, .ref (gx_ad L v0)), (1, .int v1), (2, .int v2), (5, .int v5)]) hx hb dX7_neighbour_85 hl (by decide) rfl (fun ls hl => ?_)
      exact tj_X7_neighbour_87 C hK25 v0 v1 v2 v5 u0 v5 (hv0) I _ _ _ hM (lv_sub hl [3, 4, 5, 1, 0, 6] rfl) h
set_option maxHeartbeats 4000000 in
set_option maxRecDepth 100000 in
theorem tl_X7_neighbour_25 (C : gx_C L 282 p s m args meth c RX7 cX7_neighbour 7 (some .int)) {Q : Int32 → gx_M → Prop} : ∀ (fu : Nat) (v0 : Nat) (v1 : Int32) (v2 : Int32) (v3 : Int32) (v4 : Int32) (v5 : Int32) (hv0 : kX v0 = 7) (I : gx_M) (H : Heap) (locs : List Loc) (ls : Array Slot), gx_S L 282 (cellX L I) s.heap H locs → lv_has ls 7 [(0, .ref (gx_ad L v0)), (1, .int v1), (2, .int v2), (3, .int v3), (4, .int v4), (5, .int v5)] → wl_X7_neighbour_25 Q fu v0 v1 v2 v3 v4 v5 I → W p l e rm_X7_neighbour s m args below meth c H locs 0 0 (MQ below (va_Qi Q (fun I' t => gx_U L 282 (cellX L I') t) (gx_A L)) args s 0 0 (gx_A L)) (F0 m 25 ls []) := by
  have hx := C.1
  have hb := C.2.1
  intro fu
  induction fu with
  | zero => intros; rename_i h; exact False.elim h
  | succ fu ih =>
    intro v0 v1 v2 v3 v4 v5 hv0 I H locs ls hM hl h
    rw [wl_X7_neighbour_25] at h
    refine lv_iload hx hb dX7_neighbour_25 (lv_at hl 5 rfl) ?_
    refine lv_aload_n hx hb dX7_neighbour_27 rfl (lv_at hl 0 rfl) ?_
    refine gX7_0 C hM hv0 gw_306 dX7_neighbour_28 ?_
    refine gX6_3 C hM (kX_7_0 hv0) gw_143 dX7_neighbour_31 ?_
    refine lv_icmp_ge (tgt := 93) hx hb dX7_neighbour_34 (by decide) (fun hc => ?_) (fun hc => ?_)
    · replace h := h.1 hc
      refine lv_iload_n hx hb dX7_neighbour_93 rfl (lv_at hl 3 rfl) ?_
      exact gq_iret C hM h dX7_neighbour_94
    · replace h := h.2 hc
      refine lv_iload_n hx hb dX7_neighbour_37 rfl (lv_at hl 2 rfl) ?_
      refine lv_if_eq (tgt := 55) hx hb dX7_neighbour_38 (by decide) (fun hc => ?_) (fun hc => ?_)
      · replace h := h.1 hc
        refine lv_iload_n hx hb dX7_neighbour_55 rfl (lv_at hl 1 rfl) ?_
        refine lv_aload_n hx hb dX7_neighbour_56 rfl (lv_at hl 0 rfl) ?_
        refine gX7_0 C hM hv0 gw_306 dX7_neighbour_57 ?_
        refine lv_iload hx hb dX7_neighbour_60 (lv_at hl 5 rfl) ?_
        refine gq_backi C hM (gq_runV (As := [.int v5]) (rest := [.int v1]) C hM (kX_lt (kX_7_0 hv0) (by decide)) (cX_6 (kX_7_0 hv0)) rfl (c_X6_placeOf l L (v0 + 1) (kX_7_0 hv0) v5 I _ h) k_X6_placeOf gw_600 rfl hl.1 rfl (Nat.le_of_ble_eq_true rfl) ⟨⟨rfl, rfl⟩, Nat.le_of_ble_eq_true rfl, Nat.le_of_ble_eq_true rfl⟩ ⟨Nat.zero_le _, Nat.zero_le _⟩ dX7_neighbour_62) (fun r1 I1 H locs h hM => ?_)
        refine lv_isub hx hb dX7_neighbour_65 ?_
        exact tj_X7_neighbour_66 C ih v0 v1 v2 v3 v4 v5 (v1 - r1) (hv0) I1 _ _ _ hM (lv_sub hl [0, 1, 2, 3, 4, 5] rfl) h
      · replace h := h.2 hc
        refine lv_aload_n hx hb dX7_neighbour_41 rfl (lv_at hl 0 rfl) ?_
        refine gX7_0 C hM hv0 gw_306 dX7_neighbour_42 ?_
        refine lv_iload hx hb dX7_neighbour_45 (lv_at hl 5 rfl) ?_
        refine gq_backi C hM (gq_runV (As := [.int v5]) (rest := []) C hM (kX_lt (kX_7_0 hv0) (by decide)) (cX_6 (kX_7_0 hv0)) rfl (c_X6_placeOf l L (v0 + 1) (kX_7_0 hv0) v5 I _ h) k_X6_placeOf gw_600 rfl hl.1 rfl (Nat.le_of_ble_eq_true rfl) ⟨⟨rfl, rfl⟩, Nat.le_of_ble_eq_true rfl, Nat.le_of_ble_eq_true rfl⟩ ⟨Nat.zero_le _, Nat.zero_le _⟩ dX7_neighbour_47) (fun r2 I2 H locs h hM => ?_)
        refine lv_iload_n hx hb dX7_neighbour_50 rfl (lv_at hl 1 rfl) ?_
        refine lv_isub hx hb dX7_neighbour_51 ?_
        refine lv_goto (tgt := 66) hx hb dX7_neighbour_52 (by decide) ?_
        exact tj_X7_neighbour_66 C ih v0 v1 v2 v3 v4 v5 (r2 - v1) (hv0) I2 _ _ _ hM (lv_sub hl [0, 1, 2, 3, 4, 5] rfl) h
set_option maxHeartbeats 4000000 in
set_option maxRecDepth 100000 in
theorem c_X7_neighbour (l : Launch) (L : gx_L) (a0 : Nat) (hk0 : kX a0 = 7) (p0 : Int32) (p1 : Int32) (I : gx_M) (Q : Int32 → gx_M → Prop) (h : wp_X7_neighbour a0 p0 p1 I Q) : Met l yX7_neighbour (gx_w yX7_neighbour cX7_neighbour 7 (some .int)) rm_X7_neighbour (va_Pc [.ref (gx_ad L a0), .int p0, .int p1] (gx_U L 282 (cellX L I))) (va_Qi Q (fun I' t => gx_U L 282 (cellX L I') t) (gx_A L)) 0 0 (gx_A L) := by
  refine gq_enter (by decide) (Nat.le_of_ble_eq_true rfl) (fun p e s m below meth c ls C hM hl => ?_)
  have C : gx_C L 282 p s m _ meth c RX7 cX7_neighbour 7 (some .int) := C
  have hl : lv_has ls 7 [(0, .ref (gx_ad L a0)), (1, .int p0), (2, .int p1)] := hl
  have hx := C.1
  have hb := C.2.1
  unfold wp_X7_neighbour at h
  refine lv_iload_n hx hb dX7_neighbour_0 rfl (lv_at hl 1 rfl) ?_
  refine lv_iconst (v := (0 : Int32)) hx hb dX7_neighbour_1 (by decide) ?_
  refine lv_sipush (v := (1000 : Int32)) hx hb dX7_neighbour_2 (by decide) ?_
  refine gq_backi C hM (gq_runS (As := [.int p0, .int (0 : Int32), .int (1000 : Int32)]) (rest := []) C hM (c_X7_isWithin l L p0 (0 : Int32) (1000 : Int32) I _ h) k_X7_isWithin gw_335 rfl hl.1 rfl (Nat.le_of_ble_eq_true rfl) ⟨⟨rfl, rfl⟩, Nat.le_of_ble_eq_true rfl, Nat.le_of_ble_eq_true rfl⟩ ⟨Nat.zero_le _, Nat.zero_le _⟩ dX7_neighbour_5) (fun r1 I1 H locs h hM => ?_)
  obtain ⟨hz1, h⟩ := h
  refine lv_if_ne (tgt := 14) hx hb dX7_neighbour_8 (by decide) (fun hc => ?_) (fun hc => ?_)
  · replace h := h.2 hc
    refine gq_ldc (v := (-1000004 : Int32)) C gw_399 dX7_neighbour_14 ?_
    refine lv_istore_n (lv' := [(3, .int (-1000004 : Int32)), (0, .ref (gx_ad L a0)), (1, .int p0), (2, .int p1)]) hx hb dX7_neighbour_16 rfl hl (by decide) rfl (fun ls hl => ?_)
    refine lv_sipush (v := (1001 : Int32)) hx hb dX7_neighbour_17 (by decide) ?_
    refine lv_istore (lv' := [(4, .int (1001 : Int32)), (3, .int (-1000004 : Int32)), (0, .ref (gx_ad L a0)), (1, .int p0), (2, .int p1)]) hx hb dX7_neighbour_20 hl (by decide) rfl (fun ls hl => ?_)
    refine lv_iconst (v := (0 : Int32)) hx hb dX7_neighbour_22 (by decide) ?_
    refine lv_istore (lv' := [(5, .int (0 : Int32)), (4, .int (1001 : Int32)), (3, .int (-1000004 : Int32)), (0, .ref (gx_ad L a0)), (1, .int p0), (2, .int p1)]) hx hb dX7_neighbour_23 hl (by decide) rfl (fun ls hl => ?_)
    obtain ⟨fv, h⟩ := h
    exact tl_X7_neighbour_25 C fv a0 p0 p1 (-1000004 : Int32) (1001 : Int32) (0 : Int32) (hk0) I1 _ _ _ hM (lv_sub hl [3, 4, 5, 2, 1, 0] rfl) h
  · replace h := h.1 hc
    refine gq_ldc (v := (-1000002 : Int32)) C gw_338 dX7_neighbour_11 ?_
    exact gq_iret C hM h dX7_neighbour_13
theorem k_X7_neighbour : gx_kV yX7_neighbour cX7_neighbour 7 (some .int) 2 := ⟨⟨gw_599, gw_22, by decide, by decide, by decide +kernel⟩, gw_597, gw_598⟩
abbrev rm_X7_setLeads : Room := { frames := 4, cells := 0, slots := 0, locals := 90 }
set_option maxHeartbeats 4000000 in
set_option maxRecDepth 100000 in
theorem c_X7_setLeads (l : Launch) (L : gx_L) (a0 : Nat) (hk0 : kX a0 = 7) (p0 : Int32) (p1 : Int32) (I : gx_M) (Q : Int32 → gx_M → Prop) (h : wp_X7_setLeads a0 p0 p1 I Q) : Met l yX7_setLeads (gx_w yX7_setLeads cX7_setLeads 5 (some .int)) rm_X7_setLeads (va_Pc [.ref (gx_ad L a0), .int p0, .int p1] (gx_U L 282 (cellX L I))) (va_Qi Q (fun I' t => gx_U L 282 (cellX L I') t) (gx_A L)) 0 0 (gx_A L) := by
  refine gq_enter (by decide) (Nat.le_of_ble_eq_true rfl) (fun p e s m below meth c ls C hM hl => ?_)
  have C : gx_C L 282 p s m _ meth c RX7 cX7_setLeads 5 (some .int) := C
  have hl : lv_has ls 5 [(0, .ref (gx_ad L a0)), (1, .int p0), (2, .int p1)] := hl
  have hx := C.1
  have hb := C.2.1
  unfold wp_X7_setLeads at h
  refine lv_aload_n hx hb dX7_setLeads_0 rfl (lv_at hl 0 rfl) ?_
  refine gX7_0 C hM hk0 gw_306 dX7_setLeads_1 ?_
  refine lv_iload_n hx hb dX7_setLeads_4 rfl (lv_at hl 1 rfl) ?_
  refine gq_backe C hM (gq_runV (As := [.int p0]) (rest := []) C hM (kX_lt (kX_7_0 hk0) (by decide)) (cX_6 (kX_7_0 hk0)) rfl (c_X6_find l L (a0 + 1) (kX_7_0 hk0) p0 I _ h) k_X6_find gw_387 rfl hl.1 rfl (Nat.le_of_ble_eq_true rfl) ⟨⟨rfl, rfl⟩, Nat.le_of_ble_eq_true rfl, Nat.le_of_ble_eq_true rfl⟩ ⟨Nat.zero_le _, Nat.zero_le _⟩ dX7_setLeads_5) (fun r1 I1 H locs h hM => ?_)
  obtain ⟨hk1, h⟩ := h
  rcases r1 with _ | b1
  · replace h := h.1 rfl
    refine W.eq (g2 := F0 m 8 ls [.null]) rfl ?_
    refine lv_astore_nN (lv' := [(3, .null), (0, .ref (gx_ad L a0)), (1, .int p0), (2, .int p1)]) hx hb dX7_setLeads_8 rfl hl (by decide) rfl (fun ls hl => ?_)
    refine lv_aload_nN hx hb dX7_setLeads_9 rfl (lv_at hl 0 rfl) ?_
    refine lv_ifnonnullN hx hb dX7_setLeads_10 ?_
    refine gq_ldc (v := (-1000001 : Int32)) C gw_388 dX7_setLeads_13 ?_
    exact gq_iret C hM h dX7_setLeads_15
  · have hk := hk1 b1 rfl
    replace h := h.2 b1 rfl hk
    have hk2 := hk
    refine W.eq (g2 := F0 m 8 ls [.ref (gx_ad L b1)]) rfl ?_
    refine lv_astore_n (lv' := [(3, .ref (gx_ad L b1)), (0, .ref (gx_ad L a0)), (1, .int p0), (2, .int p1)]) hx hb dX7_setLeads_8 rfl hl (by decide) rfl (fun ls hl => ?_)
    refine lv_aload_n hx hb dX7_setLeads_9 rfl (lv_at hl 0 rfl) ?_
    refine lv_ifnonnull (tgt := 16) hx hb dX7_setLeads_10 (by decide) ?_
    refine lv_iload_n hx hb dX7_setLeads_16 rfl (lv_at hl 3 rfl) ?_
    refine lv_iconst (v := (0 : Int32)) hx hb dX7_setLeads_17 (by decide) ?_
    refine lv_sipush (v := (20000 : Int32)) hx hb dX7_setLeads_18 (by decide) ?_
    refine gq_backi C hM (gq_runS (As := [.int p1, .int (0 : Int32), .int (20000 : Int32)]) (rest := []) C hM (c_X7_isWithin l L p1 (0 : Int32) (20000 : Int32) I1 _ h) k_X7_isWithin gw_335 rfl hl.1 rfl (Nat.le_of_ble_eq_true rfl) ⟨⟨rfl, rfl⟩, Nat.le_of_ble_eq_true rfl, Nat.le_of_ble_eq_true rfl⟩ ⟨Nat.zero_le _, Nat.zero_le _⟩ dX7_setLeads_21) (fun r2 I2 H locs h hM => ?_)
    obtain ⟨hz1, h⟩ := h
    refine lv_if_ne (tgt := 30) hx hb dX7_setLeads_24 (by decide) (fun hc => ?_) (fun hc => ?_)
    · replace h := h.2 hc
      refine lv_aload_n hx hb dX7_setLeads_30 rfl (lv_at hl 0 rfl) ?_
      refine gX4_4 C hM hk2 gw_87 dX7_setLeads_31 ?_
      refine lv_topi (fun x1 ex1 => ?_)
      replace h := h x1 ex1
      refine lv_istore (lv' := [(4, .int x1), (3, .ref (gx_ad L b1)), (0, .ref (gx_ad L a0)), (1, .int p0), (2, .int p1)]) hx hb dX7_setLeads_34 hl (by decide) rfl (fun ls hl => ?_)
      refine lv_iload hx hb dX7_setLeads_36 (lv_at hl 0 rfl) ?_
      refine lv_iload_n hx hb dX7_setLeads_38 rfl (lv_at hl 4 rfl) ?_
      refine lv_icmp_ne (tgt := 45) hx hb dX7_setLeads_39 (by decide) (fun hc => ?_) (fun hc => ?_)
      · replace h := h.2 hc
        refine lv_aload_n hx hb dX7_setLeads_45 rfl (lv_at hl 2 rfl) ?_
        refine gX7_3 C hM hk0 gw_309 dX7_setLeads_46 ?_
        refine lv_aload_n hx hb dX7_setLeads_49 rfl (lv_at hl 2 rfl) ?_
        refine gX7_0 C hM hk0 gw_306 dX7_setLeads_50 ?_
        refine gq_backv C hM (gq_runV (As := [.ref (gx_ad L (a0 + 1))]) (rest := []) C hM (kX_lt (kX_7_3 hk0) (by decide)) (cX_0 (kX_7_3 hk0)) rfl (c_X0_add l L (a0 + 77) (kX_7_3 hk0) (a0 + 1) (kX_7_0 hk0) I2 _ h) k_X0_add gw_356 rfl hl.1 rfl (Nat.le_of_ble_eq_true rfl) ⟨⟨rfl, rfl⟩, Nat.le_of_ble_eq_true rfl, Nat.le_of_ble_eq_true rfl⟩ ⟨Nat.zero_le _, Nat.zero_le _⟩ dX7_setLeads_53) (fun I3 H locs h hM => ?_)
        refine lv_aload_n hx hb dX7_setLeads_56 rfl (lv_at hl 1 rfl) ?_
        refine lv_iload_n hx hb dX7_setLeads_57 rfl (lv_at hl 4 rfl) ?_
        obtain ⟨I4, eI4⟩ : ∃ z : gx_M, z = up I3 b1 4 p1 := ⟨_, rfl⟩
        replace h := h I4 eI4
        refine pX4_4 C hM hk2 eI4 gw_87 dX7_setLeads_58 (fun H locs hM => ?_)
        refine lv_iload hx hb dX7_setLeads_61 (lv_at hl 0 rfl) ?_
        exact gq_iret C hM h dX7_setLeads_63
      · replace h := h.1 hc
        refine gq_ldc (v := (-1000004 : Int32)) C gw_399 dX7_setLeads_42 ?_
        exact gq_iret C hM h dX7_setLeads_44
    · replace h := h.1 hc
      refine gq_ldc (v := (-1000002 : Int32)) C gw_338 dX7_setLeads_27 ?_
      exact gq_iret C hM h dX7_setLeads_29
theorem k_X7_setLeads : gx_kV yX7_setLeads cX7_setLeads 5 (some .int) 2 := ⟨⟨gw_692, gw_22, by decide, by decide, by decide +kernel⟩, gw_690, gw_691⟩
end
