section
variable {p : Program} {l : Launch} {e : Env} {s : State} {m : MethodId} {args : Array Value} {below : List Frame} {meth : Method} {c : Code} {L : gx_L}
abbrev rm_X2_findPrincipal : Room := { frames := 2, cells := 0, slots := 0, locals := 43 }
set_option maxHeartbeats 4000000 in
set_option maxRecDepth 100000 in
theorem tj_X2_findPrincipal_56 (C : gx_C L 282 p s m args meth c RX2 cX2_findPrincipal 6 none) {Q : gx_M → Prop} {K28 : Nat → Int64 → Int32 → gx_M → Prop} (hK28 : ∀ (v0 : Nat) (v1 : Int64) (v3 : Int32) (hv0 : kX v0 = 2) (I : gx_M) (H : Heap) (locs : List Loc) (ls : Array Slot), gx_S L 282 (cellX L I) s.heap H locs → lv_has ls 6 [(0, .ref (gx_ad L v0)), (1, .long v1), (3, .int v3)] → K28 v0 v1 v3 I → W p l e rm_X2_findPrincipal s m args below meth c H locs 0 0 (MQ below (va_Qv Q (fun I' t => gx_U L 282 (cellX L I') t) (gx_A L)) args s 0 0 (gx_A L)) (F0 m 28 ls [])) : ∀ (v0 : Nat) (v1 : Int64) (v3 : Int32) (hv0 : kX v0 = 2) (I : gx_M) (H : Heap) (locs : List Loc) (ls : Array Slot), gx_S L 282 (cellX L I) s.heap H locs → lv_has ls 6 [(0, .ref (gx_ad L v0)), (1, .long v1), (3, .int v3)] → wj_X2_findPrincipal_56 Q K28 v0 v1 v3 I → W p l e rm_X2_findPrincipal s m args below meth c H locs 0 0 (MQ below (va_Qv Q (fun I' t => gx_U L 282 (cellX L I') t) (gx_A L)) args s 0 0 (gx_A L)) (F0 m 56 ls []) := by
  have hx := C.1
  have hb := C.2.1
  intro v0 v1 v3 hv0 I H locs ls hM hl h
  unfold wj_X2_findPrincipal_56 at h
  obtain ⟨x1, ex1⟩ : ∃ z : Int32, z = v3 + (1 : Int32) := ⟨_, rfl⟩
  replace h := h x1 ex1
  refine lv_iinc (v := x1) (lv' := [(3, .int x1), (0, .ref (gx_ad L v0)), (1, .long v1)]) hx hb dX2_findPrincipal_56 hl (k := 2) rfl (by rw [ex1]; rfl) (by decide) rfl (fun ls hl => ?_)
  refine lv_goto (tgt := 28) hx hb dX2_findPrincipal_59 (by decide) ?_
  exact hK28 v0 v1 x1 (hv0) I _ _ _ hM (lv_sub hl [1, 2, 0] rfl) h
set_option maxHeartbeats 4000000 in
set_option maxRecDepth 100000 in
theorem tl_X2_findPrincipal_28 (C : gx_C L 282 p s m args meth c RX2 cX2_findPrincipal 6 none) {Q : gx_M → Prop} : ∀ (fu : Nat) (v0 : Nat) (v1 : Int64) (v3 : Int32) (hv0 : kX v0 = 2) (I : gx_M) (H : Heap) (locs : List Loc) (ls : Array Slot), gx_S L 282 (cellX L I) s.heap H locs → lv_has ls 6 [(0, .ref (gx_ad L v0)), (1, .long v1), (3, .int v3)] → wl_X2_findPrincipal_28 Q fu v0 v1 v3 I → W p l e rm_X2_findPrincipal s m args below meth c H locs 0 0 (MQ below (va_Qv Q (fun I' t => gx_U L 282 (cellX L I') t) (gx_A L)) args s 0 0 (gx_A L)) (F0 m 28 ls []) := by
  have hx := C.1
  have hb := C.2.1
  intro fu
  induction fu with
  | zero => intros; rename_i h; exact False.elim h
  | succ fu ih =>
    intro v0 v1 v3 hv0 I H locs ls hM hl h
    rw [wl_X2_findPrincipal_28] at h
    refine lv_iload_n hx hb dX2_findPrincipal_28 rfl (lv_at hl 2 rfl) ?_
    refine lv_bipush (v := (24 : Int32)) hx hb dX2_findPrincipal_29 (by decide) ?_
    refine lv_icmp_ge (tgt := 62) hx hb dX2_findPrincipal_31 (by decide) (fun hc => ?_) (fun hc => ?_)
    · replace h := h.1 hc
      refine lv_aload_n hx hb dX2_findPrincipal_62 rfl (lv_at hl 0 rfl) ?_
      refine lv_lload_n hx hb dX2_findPrincipal_63 rfl (lv_at hl 1 rfl) ?_
      refine gq_ldc2 (v := (20000 : Int64)) C gw_501 dX2_findPrincipal_64 ?_
      refine lv_ldiv hx hb dX2_findPrincipal_67 (by decide) ?_
      refine lv_l2i hx hb dX2_findPrincipal_68 rfl ?_
      obtain ⟨I1, eI1⟩ : ∃ z : gx_M, z = up I v0 14 (Int64.toInt32 (v1 / (20000 : Int64))) := ⟨_, rfl⟩
      replace h := h I1 eI1
      refine pX2_14 C hM hv0 eI1 gw_273 dX2_findPrincipal_69 (fun H locs hM => ?_)
      exact gq_vret C hM h dX2_findPrincipal_72
    · replace h := h.2 hc
      refine lv_aload_n hx hb dX2_findPrincipal_34 rfl (lv_at hl 0 rfl) ?_
      refine lv_iload_n hx hb dX2_findPrincipal_35 rfl (lv_at hl 2 rfl) ?_
      refine gq_backl C hM (gq_runV (As := [.int v3]) (rest := []) C hM (kX_lt hv0 (by decide)) (cX_2 hv0) rfl (c_X2_pullTo l L v0 hv0 v3 I _ h) k_X2_pullTo gw_492 rfl hl.1 rfl (Nat.le_of_ble_eq_true rfl) ⟨⟨rfl, rfl⟩, Nat.le_of_ble_eq_true rfl, Nat.le_of_ble_eq_true rfl⟩ ⟨Nat.zero_le _, Nat.zero_le _⟩ dX2_findPrincipal_36) (fun r1 I2 H locs h hM => ?_)
      refine lv_lstore (lv' := [(4, .long r1), (0, .ref (gx_ad L v0)), (1, .long v1), (3, .int v3)]) hx hb dX2_findPrincipal_39 hl (by decide) rfl (fun ls hl => ?_)
      refine lv_lload hx hb dX2_findPrincipal_41 (lv_at hl 0 rfl) ?_
      refine lv_lload_n hx hb dX2_findPrincipal_43 rfl (lv_at hl 2 rfl) ?_
      refine W.lcmp hx hb dX2_findPrincipal_44 ?_
      refine lv_if_le (tgt := 56) hx hb dX2_findPrincipal_45 (by decide) (fun hc => ?_) (fun hc => ?_)
      · replace h := h.1 hc
        exact tj_X2_findPrincipal_56 C ih v0 v1 v3 (hv0) I2 _ _ _ hM (lv_sub hl [1, 2, 3] rfl) h
      · replace h := h.2 hc
        refine lv_aload_n hx hb dX2_findPrincipal_48 rfl (lv_at hl 1 rfl) ?_
        refine lv_iload_n hx hb dX2_findPrincipal_49 rfl (lv_at hl 3 rfl) ?_
        obtain ⟨I3, eI3⟩ : ∃ z : gx_M, z = up I2 v0 13 v3 := ⟨_, rfl⟩
        replace h := h I3 eI3
        refine pX2_13 C hM hv0 eI3 gw_271 dX2_findPrincipal_50 (fun H locs hM => ?_)
        refine lv_lload hx hb dX2_findPrincipal_53 (lv_at hl 0 rfl) ?_
        refine lv_lstore_n (lv' := [(1, .long r1), (4, .long r1), (0, .ref (gx_ad L v0)), (3, .int v3)]) hx hb dX2_findPrincipal_55 rfl hl (by decide) rfl (fun ls hl => ?_)
        exact tj_X2_findPrincipal_56 C ih v0 r1 v3 (hv0) I3 _ _ _ hM (lv_sub hl [2, 0, 3] rfl) h
set_option maxHeartbeats 4000000 in
set_option maxRecDepth 100000 in
theorem c_X2_findPrincipal (l : Launch) (L : gx_L) (a0 : Nat) (hk0 : kX a0 = 2) (I : gx_M) (Q : gx_M → Prop) (h : wp_X2_findPrincipal a0 I Q) : Met l yX2_findPrincipal (gx_w yX2_findPrincipal cX2_findPrincipal 6 none) rm_X2_findPrincipal (va_Pc [.ref (gx_ad L a0)] (gx_U L 282 (cellX L I))) (va_Qv Q (fun I' t => gx_U L 282 (cellX L I') t) (gx_A L)) 0 0 (gx_A L) := by
  refine gq_enter (by decide) (Nat.le_of_ble_eq_true rfl) (fun p e s m below meth c ls C hM hl => ?_)
  have C : gx_C L 282 p s m _ meth c RX2 cX2_findPrincipal 6 none := C
  have hl : lv_has ls 6 [(0, .ref (gx_ad L a0))] := hl
  have hx := C.1
  have hb := C.2.1
  unfold wp_X2_findPrincipal at h
  refine lv_aload_n hx hb dX2_findPrincipal_0 rfl (lv_at hl 0 rfl) ?_
  refine lv_aload_n hx hb dX2_findPrincipal_1 rfl (lv_at hl 0 rfl) ?_
  refine gX2_9 C hM hk0 gw_263 dX2_findPrincipal_2 ?_
  refine lv_aload_n hx hb dX2_findPrincipal_5 rfl (lv_at hl 0 rfl) ?_
  refine gX2_10 C hM hk0 gw_265 dX2_findPrincipal_6 ?_
  refine lv_iadd hx hb dX2_findPrincipal_9 ?_
  refine lv_iconst (v := (2 : Int32)) hx hb dX2_findPrincipal_10 (by decide) ?_
  refine lv_idiv hx hb dX2_findPrincipal_11 (by decide) ?_
  obtain ⟨I1, eI1⟩ : ∃ z : gx_M, z = up I a0 12 (((I a0 9) + (I a0 10)) / (2 : Int32)) := ⟨_, rfl⟩
  replace h := h I1 eI1
  refine pX2_12 C hM hk0 eI1 gw_269 dX2_findPrincipal_12 (fun H locs hM => ?_)
  refine lv_aload_n hx hb dX2_findPrincipal_15 rfl (lv_at hl 0 rfl) ?_
  refine lv_iconst (v := (0 : Int32)) hx hb dX2_findPrincipal_16 (by decide) ?_
  obtain ⟨I2, eI2⟩ : ∃ z : gx_M, z = up I1 a0 13 (0 : Int32) := ⟨_, rfl⟩
  replace h := h I2 eI2
  refine pX2_13 C hM hk0 eI2 gw_271 dX2_findPrincipal_17 (fun H locs hM => ?_)
  refine lv_aload_n hx hb dX2_findPrincipal_20 rfl (lv_at hl 0 rfl) ?_
  refine lv_iconst (v := (0 : Int32)) hx hb dX2_findPrincipal_21 (by decide) ?_
  refine gq_backl C hM (gq_runV (As := [.int (0 : Int32)]) (rest := []) C hM (kX_lt hk0 (by decide)) (cX_2 hk0) rfl (c_X2_pullTo l L a0 hk0 (0 : Int32) I2 _ h) k_X2_pullTo gw_492 rfl hl.1 rfl (Nat.le_of_ble_eq_true rfl) ⟨⟨rfl, rfl⟩, Nat.le_of_ble_eq_true rfl, Nat.le_of_ble_eq_true rfl⟩ ⟨Nat.zero_le _, Nat.zero_le _⟩ dX2_findPrincipal_22) (fun r1 I3 H locs h hM => ?_)
  refine lv_lstore_n (lv' := [(1, .long r1), (0, .ref (gx_ad L a0))]) hx hb dX2_findPrincipal_25 rfl hl (by decide) rfl (fun ls hl => ?_)
  refine lv_iconst (v := (1 : Int32)) hx hb dX2_findPrincipal_26 (by decide) ?_
  refine lv_istore_n (lv' := [(3, .int (1 : Int32)), (1, .long r1), (0, .ref (gx_ad L a0))]) hx hb dX2_findPrincipal_27 rfl hl (by decide) rfl (fun ls hl => ?_)
  obtain ⟨fv, h⟩ := h
  exact tl_X2_findPrincipal_28 C fv a0 r1 (1 : Int32) (hk0) I3 _ _ _ hM (lv_sub hl [2, 1, 0] rfl) h
theorem k_X2_findPrincipal : gx_kV yX2_findPrincipal cX2_findPrincipal 6 none 0 := ⟨⟨gw_491, gw_30, by decide, by decide, by decide +kernel⟩, gw_490, gw_9⟩
abbrev rm_X2_findRightNumbers : Room := { frames := 0, cells := 0, slots := 0, locals := 0 }
set_option maxHeartbeats 4000000 in
set_option maxRecDepth 100000 in
theorem c_X2_findRightNumbers (l : Launch) (L : gx_L) (a0 : Nat) (hk0 : kX a0 = 2) (I : gx_M) (Q : gx_M → Prop) (h : wp_X2_findRightNumbers a0 I Q) : Met l yX2_findRightNumbers (gx_w yX2_findRightNumbers cX2_findRightNumbers 1 none) rm_X2_findRightNumbers (va_Pc [.ref (gx_ad L a0)] (gx_U L 282 (cellX L I))) (va_Qv Q (fun I' t => gx_U L 282 (cellX L I') t) (gx_A L)) 0 0 (gx_A L) := by
  refine gq_enter (by decide) (Nat.le_of_ble_eq_true rfl) (fun p e s m below meth c ls C hM hl => ?_)
  have C : gx_C L 282 p s m _ meth c RX2 cX2_findRightNumbers 1 none := C
  have hl : lv_has ls 1 [(0, .ref (gx_ad L a0))] := hl
  have hx := C.1
  have hb := C.2.1
  unfold wp_X2_findRightNumbers at h
  refine lv_aload_n hx hb dX2_findRightNumbers_0 rfl (lv_at hl 0 rfl) ?_
  refine lv_aload_n hx hb dX2_findRightNumbers_1 rfl (lv_at hl 0 rfl) ?_
  refine gX2_5 C hM hk0 gw_255 dX2_findRightNumbers_2 ?_
  refine lv_iconst (v := (0 : Int32)) hx hb dX2_findRightNumbers_5 (by decide) ?_
  refine gialdX C hM (kX_2_5 hk0) h.1 dX2_findRightNumbers_6 ?_
  replace h := h.2
  obtain ⟨I1, eI1⟩ : ∃ z : gx_M, z = up I a0 9 (I (a0 + 6) (0 : Int32).toNatClampNeg) := ⟨_, rfl⟩
  replace h := h I1 eI1
  refine pX2_9 C hM hk0 eI1 gw_263 dX2_findRightNumbers_7 (fun H locs hM => ?_)
  refine lv_aload_n hx hb dX2_findRightNumbers_10 rfl (lv_at hl 0 rfl) ?_
  refine lv_aload_n hx hb dX2_findRightNumbers_11 rfl (lv_at hl 0 rfl) ?_
  refine gX2_5 C hM hk0 gw_255 dX2_findRightNumbers_12 ?_
  refine lv_iconst (v := (2 : Int32)) hx hb dX2_findRightNumbers_15 (by decide) ?_
  refine gialdX C hM (kX_2_5 hk0) h.1 dX2_findRightNumbers_16 ?_
  replace h := h.2
  obtain ⟨I2, eI2⟩ : ∃ z : gx_M, z = up I1 a0 10 (I1 (a0 + 6) (2 : Int32).toNatClampNeg) := ⟨_, rfl⟩
  replace h := h I2 eI2
  refine pX2_10 C hM hk0 eI2 gw_265 dX2_findRightNumbers_17 (fun H locs hM => ?_)
  refine lv_aload_n hx hb dX2_findRightNumbers_20 rfl (lv_at hl 0 rfl) ?_
  refine lv_iconst (v := (2 : Int32)) hx hb dX2_findRightNumbers_21 (by decide) ?_
  refine lv_aload_n hx hb dX2_findRightNumbers_22 rfl (lv_at hl 0 rfl) ?_
  refine gX2_5 C hM hk0 gw_255 dX2_findRightNumbers_23 ?_
  refine lv_iconst (v := (1 : Int32)) hx hb dX2_findRightNumbers_26 (by decide) ?_
  refine gialdX C hM (kX_2_5 hk0) h.1 dX2_findRightNumbers_27 ?_
  replace h := h.2
  refine lv_imul hx hb dX2_findRightNumbers_28 ?_
  refine lv_aload_n hx hb dX2_findRightNumbers_29 rfl (lv_at hl 0 rfl) ?_
  refine gX2_5 C hM hk0 gw_255 dX2_findRightNumbers_30 ?_
  refine lv_iconst (v := (0 : Int32)) hx hb dX2_findRightNumbers_33 (by decide) ?_
  refine gialdX C hM (kX_2_5 hk0) h.1 dX2_findRightNumbers_34 ?_
  replace h := h.2
  refine lv_isub hx hb dX2_findRightNumbers_35 ?_
  refine lv_aload_n hx hb dX2_findRightNumbers_36 rfl (lv_at hl 0 rfl) ?_
  refine gX2_5 C hM hk0 gw_255 dX2_findRightNumbers_37 ?_
  refine lv_iconst (v := (2 : Int32)) hx hb dX2_findRightNumbers_40 (by decide) ?_
  refine gialdX C hM (kX_2_5 hk0) h.1 dX2_findRightNumbers_41 ?_
  replace h := h.2
  refine lv_isub hx hb dX2_findRightNumbers_42 ?_
  obtain ⟨I3, eI3⟩ : ∃ z : gx_M, z = up I2 a0 11 ((((2 : Int32) * (I2 (a0 + 6) (1 : Int32).toNatClampNeg)) - (I2 (a0 + 6) (0 : Int32).toNatClampNeg)) - (I2 (a0 + 6) (2 : Int32).toNatClampNeg)) := ⟨_, rfl⟩
  replace h := h I3 eI3
  refine pX2_11 C hM hk0 eI3 gw_267 dX2_findRightNumbers_43 (fun H locs hM => ?_)
  exact gq_vret C hM h dX2_findRightNumbers_46
theorem k_X2_findRightNumbers : gx_kV yX2_findRightNumbers cX2_findRightNumbers 1 none 0 := ⟨⟨gw_487, gw_30, by decide, by decide, by decide +kernel⟩, gw_486, gw_8⟩
abbrev rm_X7_quotient : Room := { frames := 0, cells := 0, slots := 0, locals := 0 }
set_option maxHeartbeats 4000000 in
set_option maxRecDepth 100000 in
theorem c_X7_quotient (l : Launch) (L : gx_L) (p0 : Int64) (p1 : Int64) (I : gx_M) (Q : Int64 → gx_M → Prop) (h : wp_X7_quotient p0 p1 I Q) : Met l yX7_quotient (gx_w yX7_quotient cX7_quotient 4 (some .long)) rm_X7_quotient (va_Pc [.long p0, .long p1] (gx_U L 282 (cellX L I))) (va_Ql Q (fun I' t => gx_U L 282 (cellX L I') t) (gx_A L)) 0 0 (gx_A L) := by
  refine gq_enter (by decide) (Nat.le_of_ble_eq_true rfl) (fun p e s m below meth c ls C hM hl => ?_)
  have C : gx_C L 282 p s m _ meth c RX7 cX7_quotient 4 (some .long) := C
  have hl : lv_has ls 4 [(0, .long p0), (2, .long p1)] := hl
  have hx := C.1
  have hb := C.2.1
  unfold wp_X7_quotient at h
  refine lv_lload_n hx hb dX7_quotient_0 rfl (lv_at hl 1 rfl) ?_
  refine lv_lconst (v := (0 : Int64)) hx hb dX7_quotient_1 (by decide) ?_
  refine W.lcmp hx hb dX7_quotient_2 ?_
  refine lv_if_ne (tgt := 10) hx hb dX7_quotient_3 (by decide) (fun hc => ?_) (fun hc => ?_)
  · replace h := h.2 hc
    refine lv_lload_n hx hb dX7_quotient_10 rfl (lv_at hl 0 rfl) ?_
    refine lv_lload_n hx hb dX7_quotient_11 rfl (lv_at hl 1 rfl) ?_
    refine lv_ldiv hx hb dX7_quotient_12 h.1 ?_
    replace h := h.2
    exact gq_lret C hM h dX7_quotient_13
  · replace h := h.1 hc
    refine lv_lconst (v := (0 : Int64)) hx hb dX7_quotient_6 (by decide) ?_
    refine lv_goto (tgt := 13) hx hb dX7_quotient_7 (by decide) ?_
    exact gq_lret C hM h dX7_quotient_13
theorem k_X7_quotient : gx_kS yX7_quotient cX7_quotient 4 (some .long) 2 := ⟨⟨gw_452, gw_22, by decide, by decide, by decide +kernel⟩, gw_451⟩
abbrev rm_X2_comesOut : Room := { frames := 1, cells := 0, slots := 0, locals := 23 }
set_option maxHeartbeats 4000000 in
set_option maxRecDepth 100000 in
theorem c_X2_comesOut (l : Launch) (L : gx_L) (p0 : Nat) (hp0 : kX p0 = 4) (p1 : Int32) (I : gx_M) (Q : Int32 → gx_M → Prop) (h : wp_X2_comesOut p0 p1 I Q) : Met l yX2_comesOut (gx_w yX2_comesOut cX2_comesOut 4 (some .int)) rm_X2_comesOut (va_Pc [.ref (gx_ad L p0), .int p1] (gx_U L 282 (cellX L I))) (va_Qi Q (fun I' t => gx_U L 282 (cellX L I') t) (gx_A L)) 0 0 (gx_A L) := by
  refine gq_enter (by decide) (Nat.le_of_ble_eq_true rfl) (fun p e s m below meth c ls C hM hl => ?_)
  have C : gx_C L 282 p s m _ meth c RX2 cX2_comesOut 4 (some .int) := C
  have hl : lv_has ls 4 [(0, .ref (gx_ad L p0)), (1, .int p1)] := hl
  have hx := C.1
  have hb := C.2.1
  unfold wp_X2_comesOut at h
  refine lv_aload_n hx hb dX2_comesOut_0 rfl (lv_at hl 0 rfl) ?_
  refine gX4_2 C hM hp0 gw_80 dX2_comesOut_1 ?_
  refine lv_i2l hx hb dX2_comesOut_4 rfl ?_
  refine gq_ldc2 (v := (1000 : Int64)) C gw_449 dX2_comesOut_5 ?_
  refine lv_lmul hx hb dX2_comesOut_8 ?_
  refine lv_topl (fun x1 ex1 => ?_)
  replace h := h x1 ex1
  refine lv_lstore_n (lv' := [(2, .long x1), (0, .ref (gx_ad L p0)), (1, .int p1)]) hx hb dX2_comesOut_9 rfl hl (by decide) rfl (fun ls hl => ?_)
  refine lv_iload_n hx hb dX2_comesOut_10 rfl (lv_at hl 2 rfl) ?_
  refine lv_i2l hx hb dX2_comesOut_11 rfl ?_
  refine lv_lload_n hx hb dX2_comesOut_12 rfl (lv_at hl 0 rfl) ?_
  refine lv_lmul hx hb dX2_comesOut_13 ?_
  refine lv_lload_n hx hb dX2_comesOut_14 rfl (lv_at hl 0 rfl) ?_
  refine lv_aload_n hx hb dX2_comesOut_15 rfl (lv_at hl 1 rfl) ?_
  refine gX4_4 C hM hp0 gw_88 dX2_comesOut_16 ?_
  refine lv_i2l hx hb dX2_comesOut_19 rfl ?_
  refine lv_ladd hx hb dX2_comesOut_20 ?_
  refine gq_backl C hM (gq_runSN (As := [.long ((Int32.toInt64 p1) * x1), .long (x1 + (Int32.toInt64 (I p0 4)))]) (rest := []) C hM (c_X7_quotient l L ((Int32.toInt64 p1) * x1) (x1 + (Int32.toInt64 (I p0 4))) I _ h) k_X7_quotient gw_450 rfl hl.1 rfl (Nat.le_of_ble_eq_true rfl) ⟨⟨rfl, rfl⟩, Nat.le_of_ble_eq_true rfl, Nat.le_of_ble_eq_true rfl⟩ ⟨Nat.zero_le _, Nat.zero_le _⟩ dX2_comesOut_21) (fun r1 I1 H locs h hM => ?_)
  refine lv_l2i hx hb dX2_comesOut_24 rfl ?_
  exact gq_iret C hM h dX2_comesOut_25
theorem k_X2_comesOut : gx_kS yX2_comesOut cX2_comesOut 4 (some .int) 2 := ⟨⟨gw_463, gw_30, by decide, by decide, by decide +kernel⟩, gw_462⟩
abbrev rm_X7_isAround0 : Room := { frames := 1, cells := 0, slots := 0, locals := 22 }
set_option maxHeartbeats 4000000 in
set_option maxRecDepth 100000 in
theorem c_X7_isAround0 (l : Launch) (L : gx_L) (p0 : Int32) (p1 : Int32) (I : gx_M) (Q : Int32 → gx_M → Prop) (h : wp_X7_isAround0 p0 p1 I Q) : Met l yX7_isAround0 (gx_w yX7_isAround0 cX7_isAround0 2 (some .boolean)) rm_X7_isAround0 (va_Pc [.int p0, .int p1] (gx_U L 282 (cellX L I))) (va_Qi (fun r I' => r &&& 1 = r ∧ Q r I') (fun I' t => gx_U L 282 (cellX L I') t) (gx_A L)) 0 0 (gx_A L) := by
  refine gq_enter (by decide) (Nat.le_of_ble_eq_true rfl) (fun p e s m below meth c ls C hM hl => ?_)
  have C : gx_C L 282 p s m _ meth c RX7 cX7_isAround0 2 (some .boolean) := C
  have hl : lv_has ls 2 [(0, .int p0), (1, .int p1)] := hl
  have hx := C.1
  have hb := C.2.1
  unfold wp_X7_isAround0 at h
  refine lv_iload_n hx hb dX7_isAround0_0 rfl (lv_at hl 0 rfl) ?_
  refine lv_iload_n hx hb dX7_isAround0_1 rfl (lv_at hl 1 rfl) ?_
  refine lv_ineg hx hb dX7_isAround0_2 ?_
  refine lv_iload_n hx hb dX7_isAround0_3 rfl (lv_at hl 1 rfl) ?_
  refine gq_backi C hM (gq_runS (As := [.int p0, .int (-p1), .int p1]) (rest := []) C hM (c_X7_isWithin l L p0 (-p1) p1 I _ h) k_X7_isWithin gw_335 rfl hl.1 rfl (Nat.le_of_ble_eq_true rfl) ⟨⟨rfl, rfl⟩, Nat.le_of_ble_eq_true rfl, Nat.le_of_ble_eq_true rfl⟩ ⟨Nat.zero_le _, Nat.zero_le _⟩ dX7_isAround0_4) (fun r1 I1 H locs h hM => ?_)
  obtain ⟨hz1, h⟩ := h
  exact gq_zret C hM ⟨hz1, h⟩ (hz1) dX7_isAround0_7
theorem k_X7_isAround0 : gx_kS yX7_isAround0 cX7_isAround0 2 (some .boolean) 2 := ⟨⟨gw_476, gw_22, by decide, by decide, by decide +kernel⟩, gw_475⟩
abbrev rm_X2_isBeyond : Room := { frames := 2, cells := 0, slots := 0, locals := 43 }
set_option maxHeartbeats 4000000 in
set_option maxRecDepth 100000 in
theorem c_X2_isBeyond (l : Launch) (L : gx_L) (p0 : Int32) (I : gx_M) (Q : Int32 → gx_M → Prop) (h : wp_X2_isBeyond p0 I Q) : Met l yX2_isBeyond (gx_w yX2_isBeyond cX2_isBeyond 1 (some .boolean)) rm_X2_isBeyond (va_Pc [.int p0] (gx_U L 282 (cellX L I))) (va_Qi (fun r I' => r &&& 1 = r ∧ Q r I') (fun I' t => gx_U L 282 (cellX L I') t) (gx_A L)) 0 0 (gx_A L) := by
  refine gq_enter (by decide) (Nat.le_of_ble_eq_true rfl) (fun p e s m below meth c ls C hM hl => ?_)
  have C : gx_C L 282 p s m _ meth c RX2 cX2_isBeyond 1 (some .boolean) := C
  have hl : lv_has ls 1 [(0, .int p0)] := hl
  have hx := C.1
  have hb := C.2.1
  unfold wp_X2_isBeyond at h
  refine lv_iload_n hx hb dX2_isBeyond_0 rfl (lv_at hl 0 rfl) ?_
  refine lv_sipush (v := (30000 : Int32)) hx hb dX2_isBeyond_1 (by decide) ?_
  refine gq_backi C hM (gq_runSN (As := [.int p0, .int (30000 : Int32)]) (rest := []) C hM (c_X7_isAround0 l L p0 (30000 : Int32) I _ h) k_X7_isAround0 gw_474 rfl hl.1 rfl (Nat.le_of_ble_eq_true rfl) ⟨⟨rfl, rfl⟩, Nat.le_of_ble_eq_true rfl, Nat.le_of_ble_eq_true rfl⟩ ⟨Nat.zero_le _, Nat.zero_le _⟩ dX2_isBeyond_4) (fun r1 I1 H locs h hM => ?_)
  obtain ⟨hz1, h⟩ := h
  refine lv_if_ne (tgt := 14) hx hb dX2_isBeyond_7 (by decide) (fun hc => ?_) (fun hc => ?_)
  · replace h := h.2 hc
    refine lv_iconst (v := (0 : Int32)) hx hb dX2_isBeyond_14 (by decide) ?_
    exact gq_zret C hM ⟨rfl, h⟩ (rfl) dX2_isBeyond_15
  · replace h := h.1 hc
    refine lv_iconst (v := (1 : Int32)) hx hb dX2_isBeyond_10 (by decide) ?_
    refine lv_goto (tgt := 15) hx hb dX2_isBeyond_11 (by decide) ?_
    exact gq_zret C hM ⟨rfl, h⟩ (rfl) dX2_isBeyond_15
theorem k_X2_isBeyond : gx_kS yX2_isBeyond cX2_isBeyond 1 (some .boolean) 1 := ⟨⟨gw_473, gw_30, by decide, by decide, by decide +kernel⟩, gw_472⟩
abbrev rm_X2_limited : Room := { frames := 1, cells := 0, slots := 0, locals := 21 }
set_option maxHeartbeats 4000000 in
set_option maxRecDepth 100000 in
theorem c_X2_limited (l : Launch) (L : gx_L) (p0 : Int32) (I : gx_M) (Q : Int32 → gx_M → Prop) (h : wp_X2_limited p0 I Q) : Met l yX2_limited (gx_w yX2_limited cX2_limited 1 (some .int)) rm_X2_limited (va_Pc [.int p0] (gx_U L 282 (cellX L I))) (va_Qi Q (fun I' t => gx_U L 282 (cellX L I') t) (gx_A L)) 0 0 (gx_A L) := by
  refine gq_enter (by decide) (Nat.le_of_ble_eq_true rfl) (fun p e s m below meth c ls C hM hl => ?_)
  have C : gx_C L 282 p s m _ meth c RX2 cX2_limited 1 (some .int) := C
  have hl : lv_has ls 1 [(0, .int p0)] := hl
  have hx := C.1
  have hb := C.2.1
  unfold wp_X2_limited at h
  refine lv_sipush (v := (-30000 : Int32)) hx hb dX2_limited_0 (by decide) ?_
  refine lv_sipush (v := (30000 : Int32)) hx hb dX2_limited_3 (by decide) ?_
  refine lv_iload_n hx hb dX2_limited_6 rfl (lv_at hl 0 rfl) ?_
  refine gq_min C hl.1 gw_467 gw_468 gw_25 gw_469 (Nat.le_of_ble_eq_true rfl) (Nat.le_of_ble_eq_true rfl) (Nat.zero_le _) (Nat.zero_le _) dX2_limited_7 ?_
  refine gq_max C hl.1 gw_470 gw_55 gw_25 gw_56 (Nat.le_of_ble_eq_true rfl) (Nat.le_of_ble_eq_true rfl) (Nat.zero_le _) (Nat.zero_le _) dX2_limited_10 ?_
  exact gq_iret C hM h dX2_limited_13
theorem k_X2_limited : gx_kS yX2_limited cX2_limited 1 (some .int) 1 := ⟨⟨gw_466, gw_30, by decide, by decide, by decide +kernel⟩, gw_465⟩
abbrev rm_X2_findSignal : Room := { frames := 3, cells := 0, slots := 0, locals := 63 }
set_option maxHeartbeats 4000000 in
set_option maxRecDepth 100000 in
theorem tj_X2_findSignal_149 (C : gx_C L 282 p s m args meth c RX2 cX2_findSignal 5 none) {Q : gx_M → Prop} : ∀ (u0 : Int32) (u1 : Nat) (hu1 : kX u1 = 2) (I : gx_M) (H : Heap) (locs : List Loc) (ls : Array Slot), gx_S L 282 (cellX L I) s.heap H locs → lv_has ls 5 [] → wj_X2_findSignal_149 Q u0 u1 I → W p l e rm_X2_findSignal s m args below meth c H locs 0 0 (MQ below (va_Qv Q (fun I' t => gx_U L 282 (cellX L I') t) (gx_A L)) args s 0 0 (gx_A L)) (F0 m 149 ls [.int u0, .ref (gx_ad L u1)]) := by
  have hx := C.1
  have hb := C.2.1
  intro u0 u1 hu1 I H locs ls hM hl h
  unfold wj_X2_findSignal_149 at h
  have hz := h.1
  replace h := h.2
  obtain ⟨I1, eI1⟩ : ∃ z : gx_M, z = up I u1 8 u0 := ⟨_, rfl⟩
  replace h := h I1 eI1
  refine pX2_8 C hM hu1 hz eI1 gw_261 dX2_findSignal_149 (fun H locs hM => ?_)
  exact gq_vret C hM h dX2_findSignal_152
set_option maxHeartbeats 4000000 in
set_option maxRecDepth 100000 in
theorem tj_X2_findSignal_144 (C : gx_C L 282 p s m args meth c RX2 cX2_findSignal 5 none) {Q : gx_M → Prop} : ∀ (u0 : Nat) (hu0 : kX u0 = 2) (I : gx_M) (H : Heap) (locs : List Loc) (ls : Array Slot), gx_S L 282 (cellX L I) s.heap H locs → lv_has ls 5 [] → wj_X2_findSignal_144 Q u0 I → W p l e rm_X2_findSignal s m args below meth c H locs 0 0 (MQ below (va_Qv Q (fun I' t => gx_U L 282 (cellX L I') t) (gx_A L)) args s 0 0 (gx_A L)) (F0 m 144 ls [.ref (gx_ad L u0)]) := by
  have hx := C.1
  have hb := C.2.1
  intro u0 hu0 I H locs ls hM hl h
  unfold wj_X2_findSignal_144 at h
  refine lv_iconst (v := (1 : Int32)) hx hb dX2_findSignal_144 (by decide) ?_
  refine lv_goto (tgt := 149) hx hb dX2_findSignal_145 (by decide) ?_
  exact tj_X2_findSignal_149 C (1 : Int32) u0 (hu0) I _ _ _ hM (lv_sub hl [] rfl) h
set_option maxHeartbeats 4000000 in
set_option maxRecDepth 100000 in
theorem tj_X2_findSignal_121 (C : gx_C L 282 p s m args meth c RX2 cX2_findSignal 5 none) {Q : gx_M → Prop} : ∀ (v0 : Nat) (v3 : Int32) (v4 : Int32) (hv0 : kX v0 = 2) (I : gx_M) (H : Heap) (locs : List Loc) (ls : Array Slot), gx_S L 282 (cellX L I) s.heap H locs → lv_has ls 5 [(0, .ref (gx_ad L v0)), (3, .int v3), (4, .int v4)] → wj_X2_findSignal_121 Q v0 v3 v4 I → W p l e rm_X2_findSignal s m args below meth c H locs 0 0 (MQ below (va_Qv Q (fun I' t => gx_U L 282 (cellX L I') t) (gx_A L)) args s 0 0 (gx_A L)) (F0 m 121 ls []) := by
  have hx := C.1
  have hb := C.2.1
  intro v0 v3 v4 hv0 I H locs ls hM hl h
  unfold wj_X2_findSignal_121 at h
  refine lv_aload_n hx hb dX2_findSignal_121 rfl (lv_at hl 0 rfl) ?_
  refine lv_aload_n hx hb dX2_findSignal_122 rfl (lv_at hl 0 rfl) ?_
  refine gX2_8 C hM hv0 gw_261 dX2_findSignal_123 ?_
  refine lv_if_ne (tgt := 144) hx hb dX2_findSignal_126 (by decide) (fun hc => ?_) (fun hc => ?_)
  · replace h := h.2 hc
    exact tj_X2_findSignal_144 C v0 (hv0) I _ _ _ hM (lv_sub hl [] rfl) h
  · replace h := h.1 hc
    refine lv_iload hx hb dX2_findSignal_129 (lv_at hl 2 rfl) ?_
    refine gq_backi C hM (gq_runS (As := [.int v4]) (rest := [.ref (gx_ad L v0)]) C hM (c_X2_isBeyond l L v4 I _ h) k_X2_isBeyond gw_471 rfl hl.1 rfl (Nat.le_of_ble_eq_true rfl) ⟨⟨rfl, rfl⟩, Nat.le_of_ble_eq_true rfl, Nat.le_of_ble_eq_true rfl⟩ ⟨Nat.zero_le _, Nat.zero_le _⟩ dX2_findSignal_131) (fun r1 I1 H locs h hM => ?_)
    obtain ⟨hz1, h⟩ := h
    refine lv_if_ne (tgt := 144) hx hb dX2_findSignal_134 (by decide) (fun hc => ?_) (fun hc => ?_)
    · replace h := h.2 hc
      exact tj_X2_findSignal_144 C v0 (hv0) I1 _ _ _ hM (lv_sub hl [] rfl) h
    · replace h := h.1 hc
      refine lv_iload_n hx hb dX2_findSignal_137 rfl (lv_at hl 1 rfl) ?_
      refine gq_backi C hM (gq_runS (As := [.int v3]) (rest := [.ref (gx_ad L v0)]) C hM (c_X2_isBeyond l L v3 I1 _ h) k_X2_isBeyond gw_471 rfl hl.1 rfl (Nat.le_of_ble_eq_true rfl) ⟨⟨rfl, rfl⟩, Nat.le_of_ble_eq_true rfl, Nat.le_of_ble_eq_true rfl⟩ ⟨Nat.zero_le _, Nat.zero_le _⟩ dX2_findSignal_138) (fun r2 I2 H locs h hM => ?_)
      obtain ⟨hz2, h⟩ := h
      refine lv_if_eq (tgt := 148) hx hb dX2_findSignal_141 (by decide) (fun hc => ?_) (fun hc => ?_)
      · replace h := h.1 hc
        refine lv_iconst (v := (0 : Int32)) hx hb dX2_findSignal_148 (by decide) ?_
        exact tj_X2_findSignal_149 C (0 : Int32) v0 (hv0) I2 _ _ _ hM (lv_sub hl [] rfl) h
      · replace h := h.2 hc
        exact tj_X2_findSignal_144 C v0 (hv0) I2 _ _ _ hM (lv_sub hl [] rfl) h
set_option maxHeartbeats 4000000 in
set_option maxRecDepth 100000 in
theorem tj_X2_findSignal_67 (C : gx_C L 282 p s m args meth c RX2 cX2_findSignal 5 none) {Q : gx_M → Prop} : ∀ (v0 : Nat) (v2 : Int32) (v3 : Int32) (v4 : Int32) (u0 : Int32) (u1 : Int32) (u2 : Nat) (hv0 : kX v0 = 2) (hu2 : kX u2 = 20) (I : gx_M) (H : Heap) (locs : List Loc) (ls : Array Slot), gx_S L 282 (cellX L I) s.heap H locs → lv_has ls 5 [(0, .ref (gx_ad L v0)), (2, .int v2), (3, .int v3), (4, .int v4)] → wj_X2_findSignal_67 Q v0 v2 v3 v4 u0 u1 u2 I → W p l e rm_X2_findSignal s m args below meth c H locs 0 0 (MQ below (va_Qv Q (fun I' t => gx_U L 282 (cellX L I') t) (gx_A L)) args s 0 0 (gx_A L)) (F0 m 67 ls [.int u0, .int u1, .ref (gx_ad L u2)]) := by
  have hx := C.1
  have hb := C.2.1
  intro v0 v2 v3 v4 u0 u1 u2 hv0 hu2 I H locs ls hM hl h
  unfold wj_X2_findSignal_67 at h
  have hi := h.1
  replace h := h.2
  obtain ⟨I1, eI1⟩ : ∃ z : gx_M, z = up I u2 u1.toNatClampNeg u0 := ⟨_, rfl⟩
  replace h := h I1 eI1
  refine giastX C hM hu2 hi eI1 dX2_findSignal_67 (fun H locs hM => ?_)
  refine lv_aload_n hx hb dX2_findSignal_68 rfl (lv_at hl 0 rfl) ?_
  refine gX2_2 C hM hv0 gw_250 dX2_findSignal_69 ?_
  refine lv_iload_n hx hb dX2_findSignal_72 rfl (lv_at hl 1 rfl) ?_
  refine lv_aload_n hx hb dX2_findSignal_73 rfl (lv_at hl 0 rfl) ?_
  refine gX2_1 C hM hv0 gw_248 dX2_findSignal_74 ?_
  refine lv_iload_n hx hb dX2_findSignal_77 rfl (lv_at hl 1 rfl) ?_
  refine gialdX C hM (kX_2_1 hv0) h.1 dX2_findSignal_78 ?_
  replace h := h.2
  refine gq_backi C hM (gq_runS (As := [.int (I1 (v0 + 2) v2.toNatClampNeg)]) (rest := [.int v2, .ref (gx_ad L (v0 + 3))]) C hM (c_X2_limited l L (I1 (v0 + 2) v2.toNatClampNeg) I1 _ h) k_X2_limited gw_464 rfl hl.1 rfl (Nat.le_of_ble_eq_true rfl) ⟨⟨rfl, rfl⟩, Nat.le_of_ble_eq_true rfl, Nat.le_of_ble_eq_true rfl⟩ ⟨Nat.zero_le _, Nat.zero_le _⟩ dX2_findSignal_79) (fun r1 I2 H locs h hM => ?_)
  have hi := h.1
  replace h := h.2
  obtain ⟨I3, eI3⟩ : ∃ z : gx_M, z = up I2 (v0 + 3) v2.toNatClampNeg r1 := ⟨_, rfl⟩
  replace h := h I3 eI3
  refine giastX C hM (kX_2_2 hv0) hi eI3 dX2_findSignal_82 (fun H locs hM => ?_)
  refine lv_aload_n hx hb dX2_findSignal_83 rfl (lv_at hl 0 rfl) ?_
  refine gX2_4 C hM hv0 gw_253 dX2_findSignal_84 ?_
  refine lv_iload_n hx hb dX2_findSignal_87 rfl (lv_at hl 1 rfl) ?_
  refine lv_iload hx hb dX2_findSignal_88 (lv_at hl 3 rfl) ?_
  refine gq_backi C hM (gq_runS (As := [.int v4]) (rest := [.int v2, .ref (gx_ad L (v0 + 5))]) C hM (c_X2_limited l L v4 I3 _ h) k_X2_limited gw_464 rfl hl.1 rfl (Nat.le_of_ble_eq_true rfl) ⟨⟨rfl, rfl⟩, Nat.le_of_ble_eq_true rfl, Nat.le_of_ble_eq_true rfl⟩ ⟨Nat.zero_le _, Nat.zero_le _⟩ dX2_findSignal_90) (fun r2 I4 H locs h hM => ?_)
  refine lv_iload_n hx hb dX2_findSignal_93 rfl (lv_at hl 2 rfl) ?_
  refine gq_backi C hM (gq_runS (As := [.int v3]) (rest := [.int r2, .int v2, .ref (gx_ad L (v0 + 5))]) C hM (c_X2_limited l L v3 I4 _ h) k_X2_limited gw_464 rfl hl.1 rfl (Nat.le_of_ble_eq_true rfl) ⟨⟨rfl, rfl⟩, Nat.le_of_ble_eq_true rfl, Nat.le_of_ble_eq_true rfl⟩ ⟨Nat.zero_le _, Nat.zero_le _⟩ dX2_findSignal_94) (fun r3 I5 H locs h hM => ?_)
  refine lv_isub hx hb dX2_findSignal_97 ?_
  have hi := h.1
  replace h := h.2
  obtain ⟨I6, eI6⟩ : ∃ z : gx_M, z = up I5 (v0 + 5) v2.toNatClampNeg (r2 - r3) := ⟨_, rfl⟩
  replace h := h I6 eI6
  refine giastX C hM (kX_2_4 hv0) hi eI6 dX2_findSignal_98 (fun H locs hM => ?_)
  refine lv_aload_n hx hb dX2_findSignal_99 rfl (lv_at hl 0 rfl) ?_
  refine gX2_1 C hM hv0 gw_248 dX2_findSignal_100 ?_
  refine lv_iload_n hx hb dX2_findSignal_103 rfl (lv_at hl 1 rfl) ?_
  refine gialdX C hM (kX_2_1 hv0) h.1 dX2_findSignal_104 ?_
  replace h := h.2
  refine gq_backi C hM (gq_runS (As := [.int (I6 (v0 + 2) v2.toNatClampNeg)]) (rest := []) C hM (c_X2_isBeyond l L (I6 (v0 + 2) v2.toNatClampNeg) I6 _ h) k_X2_isBeyond gw_471 rfl hl.1 rfl (Nat.le_of_ble_eq_true rfl) ⟨⟨rfl, rfl⟩, Nat.le_of_ble_eq_true rfl, Nat.le_of_ble_eq_true rfl⟩ ⟨Nat.zero_le _, Nat.zero_le _⟩ dX2_findSignal_105) (fun r4 I7 H locs h hM => ?_)
  obtain ⟨hz1, h⟩ := h
  refine lv_if_eq (tgt := 121) hx hb dX2_findSignal_108 (by decide) (fun hc => ?_) (fun hc => ?_)
  · replace h := h.1 hc
    exact tj_X2_findSignal_121 C v0 v3 v4 (hv0) I7 _ _ _ hM (lv_sub hl [0, 2, 3] rfl) h
  · replace h := h.2 hc
    refine lv_aload_n hx hb dX2_findSignal_111 rfl (lv_at hl 0 rfl) ?_
    refine lv_dup hx hb dX2_findSignal_112 rfl ?_
    refine gX2_7 C hM hv0 gw_259 dX2_findSignal_113 ?_
    refine lv_iconst (v := (1 : Int32)) hx hb dX2_findSignal_116 (by decide) ?_
    refine lv_iadd hx hb dX2_findSignal_117 ?_
    obtain ⟨I8, eI8⟩ : ∃ z : gx_M, z = up I7 v0 7 ((I7 v0 7) + (1 : Int32)) := ⟨_, rfl⟩
    replace h := h I8 eI8
    refine pX2_7 C hM hv0 eI8 gw_259 dX2_findSignal_118 (fun H locs hM => ?_)
    exact tj_X2_findSignal_121 C v0 v3 v4 (hv0) I8 _ _ _ hM (lv_sub hl [0, 2, 3] rfl) h
set_option maxHeartbeats 4000000 in
set_option maxRecDepth 100000 in
theorem c_X2_findSignal (l : Launch) (L : gx_L) (a0 : Nat) (hk0 : kX a0 = 2) (p0 : Nat) (hp0 : kX p0 = 4) (p1 : Int32) (I : gx_M) (Q : gx_M → Prop) (h : wp_X2_findSignal a0 p0 p1 I Q) : Met l yX2_findSignal (gx_w yX2_findSignal cX2_findSignal 5 none) rm_X2_findSignal (va_Pc [.ref (gx_ad L a0), .ref (gx_ad L p0), .int p1] (gx_U L 282 (cellX L I))) (va_Qv Q (fun I' t => gx_U L 282 (cellX L I') t) (gx_A L)) 0 0 (gx_A L) := by
  refine gq_enter (by decide) (Nat.le_of_ble_eq_true rfl) (fun p e s m below meth c ls C hM hl => ?_)
  have C : gx_C L 282 p s m _ meth c RX2 cX2_findSignal 5 none := C
  have hl : lv_has ls 5 [(0, .ref (gx_ad L a0)), (1, .ref (gx_ad L p0)), (2, .int p1)] := hl
  have hx := C.1
  have hb := C.2.1
  unfold wp_X2_findSignal at h
  refine lv_aload_n hx hb dX2_findSignal_0 rfl (lv_at hl 1 rfl) ?_
  refine lv_aload_n hx hb dX2_findSignal_1 rfl (lv_at hl 1 rfl) ?_
  refine gX4_9 C hM hp0 gw_103 dX2_findSignal_2 ?_
  refine lv_iload_n hx hb dX2_findSignal_5 rfl (lv_at hl 2 rfl) ?_
  refine gialdX C hM (kX_4_9 hp0) h.1 dX2_findSignal_6 ?_
  replace h := h.2
  refine gq_backi C hM (gq_runS (As := [.ref (gx_ad L p0), .int (I (p0 + 1) p1.toNatClampNeg)]) (rest := []) C hM (c_X2_comesOut l L p0 hp0 (I (p0 + 1) p1.toNatClampNeg) I _ h) k_X2_comesOut gw_461 rfl hl.1 rfl (Nat.le_of_ble_eq_true rfl) ⟨⟨rfl, rfl⟩, Nat.le_of_ble_eq_true rfl, Nat.le_of_ble_eq_true rfl⟩ ⟨Nat.zero_le _, Nat.zero_le _⟩ dX2_findSignal_7) (fun r1 I1 H locs h hM => ?_)
  refine lv_aload_n hx hb dX2_findSignal_10 rfl (lv_at hl 1 rfl) ?_
  refine lv_aload_n hx hb dX2_findSignal_11 rfl (lv_at hl 0 rfl) ?_
  refine gX2_0 C hM hk0 gw_246 dX2_findSignal_12 ?_
  refine lv_iload_n hx hb dX2_findSignal_15 rfl (lv_at hl 2 rfl) ?_
  refine gialdX C hM (kX_2_0 hk0) h.1 dX2_findSignal_16 ?_
  replace h := h.2
  refine lv_aload_n hx hb dX2_findSignal_17 rfl (lv_at hl 1 rfl) ?_
  refine gX4_3 C hM hp0 gw_84 dX2_findSignal_18 ?_
  refine lv_imul hx hb dX2_findSignal_21 ?_
  refine lv_bipush (v := (100 : Int32)) hx hb dX2_findSignal_22 (by decide) ?_
  refine lv_idiv hx hb dX2_findSignal_24 (by decide) ?_
  refine gq_backi C hM (gq_runS (As := [.ref (gx_ad L p0), .int (((I1 (a0 + 1) p1.toNatClampNeg) * (I1 p0 3)) / (100 : Int32))]) (rest := [.int r1]) C hM (c_X2_comesOut l L p0 hp0 (((I1 (a0 + 1) p1.toNatClampNeg) * (I1 p0 3)) / (100 : Int32)) I1 _ h) k_X2_comesOut gw_461 rfl hl.1 rfl (Nat.le_of_ble_eq_true rfl) ⟨⟨rfl, rfl⟩, Nat.le_of_ble_eq_true rfl, Nat.le_of_ble_eq_true rfl⟩ ⟨Nat.zero_le _, Nat.zero_le _⟩ dX2_findSignal_25) (fun r2 I2 H locs h hM => ?_)
  refine lv_iadd hx hb dX2_findSignal_28 ?_
  refine lv_aload_n hx hb dX2_findSignal_29 rfl (lv_at hl 1 rfl) ?_
  refine gX4_10 C hM hp0 gw_105 dX2_findSignal_30 ?_
  refine lv_iload_n hx hb dX2_findSignal_33 rfl (lv_at hl 2 rfl) ?_
  refine gialdX C hM (kX_4_10 hp0) h.1 dX2_findSignal_34 ?_
  replace h := h.2
  refine lv_isub hx hb dX2_findSignal_35 ?_
  refine lv_topi (fun x1 ex1 => ?_)
  replace h := h x1 ex1
  refine lv_istore_n (lv' := [(3, .int x1), (0, .ref (gx_ad L a0)), (1, .ref (gx_ad L p0)), (2, .int p1)]) hx hb dX2_findSignal_36 rfl hl (by decide) rfl (fun ls hl => ?_)
  refine lv_iload_n hx hb dX2_findSignal_37 rfl (lv_at hl 0 rfl) ?_
  refine lv_aload_n hx hb dX2_findSignal_38 rfl (lv_at hl 2 rfl) ?_
  refine lv_aload_n hx hb dX2_findSignal_39 rfl (lv_at hl 1 rfl) ?_
  refine gX2_6 C hM hk0 gw_257 dX2_findSignal_40 ?_
  refine gq_backi C hM (gq_runS (As := [.ref (gx_ad L p0), .int (I2 a0 6)]) (rest := [.int x1]) C hM (c_X2_comesOut l L p0 hp0 (I2 a0 6) I2 _ h) k_X2_comesOut gw_461 rfl hl.1 rfl (Nat.le_of_ble_eq_true rfl) ⟨⟨rfl, rfl⟩, Nat.le_of_ble_eq_true rfl, Nat.le_of_ble_eq_true rfl⟩ ⟨Nat.zero_le _, Nat.zero_le _⟩ dX2_findSignal_43) (fun r3 I3 H locs h hM => ?_)
  refine lv_iadd hx hb dX2_findSignal_46 ?_
  refine lv_topi (fun x2 ex2 => ?_)
  replace h := h x2 ex2
  refine lv_istore (lv' := [(4, .int x2), (3, .int x1), (0, .ref (gx_ad L a0)), (1, .ref (gx_ad L p0)), (2, .int p1)]) hx hb dX2_findSignal_47 hl (by decide) rfl (fun ls hl => ?_)
  refine lv_aload_n hx hb dX2_findSignal_49 rfl (lv_at hl 2 rfl) ?_
  refine gX2_1 C hM hk0 gw_248 dX2_findSignal_50 ?_
  refine lv_iload_n hx hb dX2_findSignal_53 rfl (lv_at hl 4 rfl) ?_
  refine lv_aload_n hx hb dX2_findSignal_54 rfl (lv_at hl 3 rfl) ?_
  refine gX4_8 C hM hp0 gw_100 dX2_findSignal_55 ?_
  refine lv_if_eq (tgt := 66) hx hb dX2_findSignal_58 (by decide) (fun hc => ?_) (fun hc => ?_)
  · replace h := h.1 hc
    refine lv_iload_n hx hb dX2_findSignal_66 rfl (lv_at hl 1 rfl) ?_
    exact tj_X2_findSignal_67 C a0 p1 x1 x2 x1 p1 (a0 + 2) (hk0) (kX_2_1 hk0) I3 _ _ _ hM (lv_sub hl [2, 4, 1, 0] rfl) h
  · replace h := h.2 hc
    refine lv_iload hx hb dX2_findSignal_61 (lv_at hl 0 rfl) ?_
    refine lv_goto (tgt := 67) hx hb dX2_findSignal_63 (by decide) ?_
    exact tj_X2_findSignal_67 C a0 p1 x1 x2 x2 p1 (a0 + 2) (hk0) (kX_2_1 hk0) I3 _ _ _ hM (lv_sub hl [2, 4, 1, 0] rfl) h
theorem k_X2_findSignal : gx_kV yX2_findSignal cX2_findSignal 5 none 2 := ⟨⟨gw_460, gw_30, by decide, by decide, by decide +kernel⟩, gw_459, gw_6⟩
abbrev rm_X2_findStrains : Room := { frames := 0, cells := 0, slots := 0, locals := 0 }
set_option maxHeartbeats 4000000 in
set_option maxRecDepth 100000 in
theorem c_X2_findStrains (l : Launch) (L : gx_L) (a0 : Nat) (hk0 : kX a0 = 2) (p0 : Nat) (hp0 : kX p0 = 4) (I : gx_M) (Q : gx_M → Prop) (h : wp_X2_findStrains a0 p0 I Q) : Met l yX2_findStrains (gx_w yX2_findStrains cX2_findStrains 4 none) rm_X2_findStrains (va_Pc [.ref (gx_ad L a0), .ref (gx_ad L p0)] (gx_U L 282 (cellX L I))) (va_Qv Q (fun I' t => gx_U L 282 (cellX L I') t) (gx_A L)) 0 0 (gx_A L) := by
  refine gq_enter (by decide) (Nat.le_of_ble_eq_true rfl) (fun p e s m below meth c ls C hM hl => ?_)
  have C : gx_C L 282 p s m _ meth c RX2 cX2_findStrains 4 none := C
  have hl : lv_has ls 4 [(0, .ref (gx_ad L a0)), (1, .ref (gx_ad L p0))] := hl
  have hx := C.1
  have hb := C.2.1
  unfold wp_X2_findStrains at h
  refine lv_aload_n hx hb dX2_findStrains_0 rfl (lv_at hl 1 rfl) ?_
  refine gX4_1 C hM hp0 gw_78 dX2_findStrains_1 ?_
  refine lv_if_eq (tgt := 65) hx hb dX2_findStrains_4 (by decide) (fun hc => ?_) (fun hc => ?_)
  · replace h := h.1 hc
    refine lv_aload_n hx hb dX2_findStrains_65 rfl (lv_at hl 0 rfl) ?_
    refine gX2_0 C hM hk0 gw_246 dX2_findStrains_66 ?_
    refine lv_iconst (v := (0 : Int32)) hx hb dX2_findStrains_69 (by decide) ?_
    refine lv_aload_n hx hb dX2_findStrains_70 rfl (lv_at hl 1 rfl) ?_
    refine gX4_5 C hM hp0 gw_91 dX2_findStrains_71 ?_
    have hi := h.1
    replace h := h.2
    obtain ⟨I1, eI1⟩ : ∃ z : gx_M, z = up I (a0 + 1) (0 : Int32).toNatClampNeg (I p0 5) := ⟨_, rfl⟩
    replace h := h I1 eI1
    refine giastX C hM (kX_2_0 hk0) hi eI1 dX2_findStrains_74 (fun H locs hM => ?_)
    refine lv_aload_n hx hb dX2_findStrains_75 rfl (lv_at hl 0 rfl) ?_
    refine gX2_0 C hM hk0 gw_246 dX2_findStrains_76 ?_
    refine lv_iconst (v := (1 : Int32)) hx hb dX2_findStrains_79 (by decide) ?_
    refine lv_aload_n hx hb dX2_findStrains_80 rfl (lv_at hl 1 rfl) ?_
    refine gX4_5 C hM hp0 gw_91 dX2_findStrains_81 ?_
    refine lv_aload_n hx hb dX2_findStrains_84 rfl (lv_at hl 1 rfl) ?_
    refine gX4_6 C hM hp0 gw_94 dX2_findStrains_85 ?_
    refine lv_iadd hx hb dX2_findStrains_88 ?_
    refine lv_aload_n hx hb dX2_findStrains_89 rfl (lv_at hl 1 rfl) ?_
    refine gX4_7 C hM hp0 gw_97 dX2_findStrains_90 ?_
    refine lv_iadd hx hb dX2_findStrains_93 ?_
    refine lv_iconst (v := (2 : Int32)) hx hb dX2_findStrains_94 (by decide) ?_
    refine lv_idiv hx hb dX2_findStrains_95 (by decide) ?_
    have hi := h.1
    replace h := h.2
    obtain ⟨I2, eI2⟩ : ∃ z : gx_M, z = up I1 (a0 + 1) (1 : Int32).toNatClampNeg ((((I1 p0 5) + (I1 p0 6)) + (I1 p0 7)) / (2 : Int32)) := ⟨_, rfl⟩
    replace h := h I2 eI2
    refine giastX C hM (kX_2_0 hk0) hi eI2 dX2_findStrains_96 (fun H locs hM => ?_)
    refine lv_aload_n hx hb dX2_findStrains_97 rfl (lv_at hl 0 rfl) ?_
    refine gX2_0 C hM hk0 gw_246 dX2_findStrains_98 ?_
    refine lv_iconst (v := (2 : Int32)) hx hb dX2_findStrains_101 (by decide) ?_
    refine lv_aload_n hx hb dX2_findStrains_102 rfl (lv_at hl 1 rfl) ?_
    refine gX4_6 C hM hp0 gw_94 dX2_findStrains_103 ?_
    have hi := h.1
    replace h := h.2
    obtain ⟨I3, eI3⟩ : ∃ z : gx_M, z = up I2 (a0 + 1) (2 : Int32).toNatClampNeg (I2 p0 6) := ⟨_, rfl⟩
    replace h := h I3 eI3
    refine giastX C hM (kX_2_0 hk0) hi eI3 dX2_findStrains_106 (fun H locs hM => ?_)
    exact gq_vret C hM h dX2_findStrains_107
  · replace h := h.2 hc
    refine lv_aload_n hx hb dX2_findStrains_7 rfl (lv_at hl 1 rfl) ?_
    refine gX4_5 C hM hp0 gw_91 dX2_findStrains_8 ?_
    refine lv_iconst (v := (3 : Int32)) hx hb dX2_findStrains_11 (by decide) ?_
    refine lv_aload_n hx hb dX2_findStrains_12 rfl (lv_at hl 1 rfl) ?_
    refine gX4_6 C hM hp0 gw_94 dX2_findStrains_13 ?_
    refine lv_imul hx hb dX2_findStrains_16 ?_
    refine lv_iadd hx hb dX2_findStrains_17 ?_
    refine lv_iconst (v := (4 : Int32)) hx hb dX2_findStrains_18 (by decide) ?_
    refine lv_idiv hx hb dX2_findStrains_19 (by decide) ?_
    refine lv_topi (fun x1 ex1 => ?_)
    replace h := h x1 ex1
    refine lv_istore_n (lv' := [(2, .int x1), (0, .ref (gx_ad L a0)), (1, .ref (gx_ad L p0))]) hx hb dX2_findStrains_20 rfl hl (by decide) rfl (fun ls hl => ?_)
    refine lv_aload_n hx hb dX2_findStrains_21 rfl (lv_at hl 2 rfl) ?_
    refine gX4_7 C hM hp0 gw_97 dX2_findStrains_22 ?_
    refine lv_sipush (v := (433 : Int32)) hx hb dX2_findStrains_25 (by decide) ?_
    refine lv_imul hx hb dX2_findStrains_28 ?_
    refine lv_sipush (v := (1000 : Int32)) hx hb dX2_findStrains_29 (by decide) ?_
    refine lv_idiv hx hb dX2_findStrains_32 (by decide) ?_
    refine lv_topi (fun x2 ex2 => ?_)
    replace h := h x2 ex2
    refine lv_istore_n (lv' := [(3, .int x2), (2, .int x1), (0, .ref (gx_ad L a0)), (1, .ref (gx_ad L p0))]) hx hb dX2_findStrains_33 rfl hl (by decide) rfl (fun ls hl => ?_)
    refine lv_aload_n hx hb dX2_findStrains_34 rfl (lv_at hl 2 rfl) ?_
    refine gX2_0 C hM hk0 gw_246 dX2_findStrains_35 ?_
    refine lv_iconst (v := (0 : Int32)) hx hb dX2_findStrains_38 (by decide) ?_
    refine lv_aload_n hx hb dX2_findStrains_39 rfl (lv_at hl 3 rfl) ?_
    refine gX4_5 C hM hp0 gw_91 dX2_findStrains_40 ?_
    have hi := h.1
    replace h := h.2
    obtain ⟨I4, eI4⟩ : ∃ z : gx_M, z = up I (a0 + 1) (0 : Int32).toNatClampNeg (I p0 5) := ⟨_, rfl⟩
    replace h := h I4 eI4
    refine giastX C hM (kX_2_0 hk0) hi eI4 dX2_findStrains_43 (fun H locs hM => ?_)
    refine lv_aload_n hx hb dX2_findStrains_44 rfl (lv_at hl 2 rfl) ?_
    refine gX2_0 C hM hk0 gw_246 dX2_findStrains_45 ?_
    refine lv_iconst (v := (1 : Int32)) hx hb dX2_findStrains_48 (by decide) ?_
    refine lv_iload_n hx hb dX2_findStrains_49 rfl (lv_at hl 1 rfl) ?_
    refine lv_iload_n hx hb dX2_findStrains_50 rfl (lv_at hl 0 rfl) ?_
    refine lv_iadd hx hb dX2_findStrains_51 ?_
    have hi := h.1
    replace h := h.2
    obtain ⟨I5, eI5⟩ : ∃ z : gx_M, z = up I4 (a0 + 1) (1 : Int32).toNatClampNeg (x1 + x2) := ⟨_, rfl⟩
    replace h := h I5 eI5
    refine giastX C hM (kX_2_0 hk0) hi eI5 dX2_findStrains_52 (fun H locs hM => ?_)
    refine lv_aload_n hx hb dX2_findStrains_53 rfl (lv_at hl 2 rfl) ?_
    refine gX2_0 C hM hk0 gw_246 dX2_findStrains_54 ?_
    refine lv_iconst (v := (2 : Int32)) hx hb dX2_findStrains_57 (by decide) ?_
    refine lv_iload_n hx hb dX2_findStrains_58 rfl (lv_at hl 1 rfl) ?_
    refine lv_iload_n hx hb dX2_findStrains_59 rfl (lv_at hl 0 rfl) ?_
    refine lv_isub hx hb dX2_findStrains_60 ?_
    have hi := h.1
    replace h := h.2
    obtain ⟨I6, eI6⟩ : ∃ z : gx_M, z = up I5 (a0 + 1) (2 : Int32).toNatClampNeg (x1 - x2) := ⟨_, rfl⟩
    replace h := h I6 eI6
    refine giastX C hM (kX_2_0 hk0) hi eI6 dX2_findStrains_61 (fun H locs hM => ?_)
    refine lv_goto (tgt := 107) hx hb dX2_findStrains_62 (by decide) ?_
    exact gq_vret C hM h dX2_findStrains_107
theorem k_X2_findStrains : gx_kV yX2_findStrains cX2_findStrains 4 none 1 := ⟨⟨gw_456, gw_30, by decide, by decide, by decide +kernel⟩, gw_455, gw_5⟩
abbrev rm_X2_take : Room := { frames := 4, cells := 0, slots := 0, locals := 87 }
set_option maxHeartbeats 4000000 in
set_option maxRecDepth 100000 in
theorem tj_X2_take_119 (C : gx_C L 282 p s m args meth c RX2 cX2_take 4 none) {Q : gx_M → Prop} : ∀ (v0 : Nat) (hv0 : kX v0 = 2) (I : gx_M) (H : Heap) (locs : List Loc) (ls : Array Slot), gx_S L 282 (cellX L I) s.heap H locs → lv_has ls 4 [(0, .ref (gx_ad L v0))] → wj_X2_take_119 Q v0 I → W p l e rm_X2_take s m args below meth c H locs 0 0 (MQ below (va_Qv Q (fun I' t => gx_U L 282 (cellX L I') t) (gx_A L)) args s 0 0 (gx_A L)) (F0 m 119 ls []) := by
  have hx := C.1
  have hb := C.2.1
  intro v0 hv0 I H locs ls hM hl h
  unfold wj_X2_take_119 at h
  refine lv_aload_n hx hb dX2_take_119 rfl (lv_at hl 0 rfl) ?_
  refine gq_backv C hM (gq_runV (As := []) (rest := []) C hM (kX_lt hv0 (by decide)) (cX_2 hv0) rfl (c_X2_findPrincipal l L v0 hv0 I _ h) k_X2_findPrincipal gw_488 rfl hl.1 rfl (Nat.le_of_ble_eq_true rfl) ⟨⟨rfl, rfl⟩, Nat.le_of_ble_eq_true rfl, Nat.le_of_ble_eq_true rfl⟩ ⟨Nat.zero_le _, Nat.zero_le _⟩ dX2_take_120) (fun I1 H locs h hM => ?_)
  exact gq_vret C hM h dX2_take_123
set_option maxHeartbeats 4000000 in
set_option maxRecDepth 100000 in
theorem tl_X2_take_46 (C : gx_C L 282 p s m args meth c RX2 cX2_take 4 none) {Q : gx_M → Prop} : ∀ (fu : Nat) (v0 : Nat) (v1 : Nat) (v3 : Int32) (hv0 : kX v0 = 2) (hv1 : kX v1 = 4) (I : gx_M) (H : Heap) (locs : List Loc) (ls : Array Slot), gx_S L 282 (cellX L I) s.heap H locs → lv_has ls 4 [(0, .ref (gx_ad L v0)), (1, .ref (gx_ad L v1)), (3, .int v3)] → wl_X2_take_46 Q fu v0 v1 v3 I → W p l e rm_X2_take s m args below meth c H locs 0 0 (MQ below (va_Qv Q (fun I' t => gx_U L 282 (cellX L I') t) (gx_A L)) args s 0 0 (gx_A L)) (F0 m 46 ls []) := by
  have hx := C.1
  have hb := C.2.1
  intro fu
  induction fu with
  | zero => intros; rename_i h; exact False.elim h
  | succ fu ih =>
    intro v0 v1 v3 hv0 hv1 I H locs ls hM hl h
    rw [wl_X2_take_46] at h
    refine lv_iload_n hx hb dX2_take_46 rfl (lv_at hl 2 rfl) ?_
    refine lv_iconst (v := (3 : Int32)) hx hb dX2_take_47 (by decide) ?_
    refine lv_icmp_ge (tgt := 101) hx hb dX2_take_48 (by decide) (fun hc => ?_) (fun hc => ?_)
    · replace h := h.1 hc
      refine lv_aload_n hx hb dX2_take_101 rfl (lv_at hl 1 rfl) ?_
      refine gX4_1 C hM hv1 gw_78 dX2_take_102 ?_
      refine lv_if_eq (tgt := 115) hx hb dX2_take_105 (by decide) (fun hc => ?_) (fun hc => ?_)
      · replace h := h.1 hc
        refine lv_aload_n hx hb dX2_take_115 rfl (lv_at hl 0 rfl) ?_
        refine gq_backv C hM (gq_runV (As := []) (rest := []) C hM (kX_lt hv0 (by decide)) (cX_2 hv0) rfl (c_X2_findRightNumbers l L v0 hv0 I _ h) k_X2_findRightNumbers gw_484 rfl hl.1 rfl (Nat.le_of_ble_eq_true rfl) ⟨⟨rfl, rfl⟩, Nat.le_of_ble_eq_true rfl, Nat.le_of_ble_eq_true rfl⟩ ⟨Nat.zero_le _, Nat.zero_le _⟩ dX2_take_116) (fun I1 H locs h hM => ?_)
        exact tj_X2_take_119 C v0 (hv0) I1 _ _ _ hM (lv_sub hl [0] rfl) h
      · replace h := h.2 hc
        refine lv_aload_n hx hb dX2_take_108 rfl (lv_at hl 0 rfl) ?_
        refine gq_backv C hM (gq_runV (As := []) (rest := []) C hM (kX_lt hv0 (by decide)) (cX_2 hv0) rfl (c_X2_findDeltaNumbers l L v0 hv0 I _ h) k_X2_findDeltaNumbers gw_478 rfl hl.1 rfl (Nat.le_of_ble_eq_true rfl) ⟨⟨rfl, rfl⟩, Nat.le_of_ble_eq_true rfl, Nat.le_of_ble_eq_true rfl⟩ ⟨Nat.zero_le _, Nat.zero_le _⟩ dX2_take_109) (fun I2 H locs h hM => ?_)
        refine lv_goto (tgt := 119) hx hb dX2_take_112 (by decide) ?_
        exact tj_X2_take_119 C v0 (hv0) I2 _ _ _ hM (lv_sub hl [0] rfl) h
    · replace h := h.2 hc
      refine lv_aload_n hx hb dX2_take_51 rfl (lv_at hl 0 rfl) ?_
      refine lv_aload_n hx hb dX2_take_52 rfl (lv_at hl 1 rfl) ?_
      refine lv_iload_n hx hb dX2_take_53 rfl (lv_at hl 2 rfl) ?_
      refine gq_backv C hM (gq_runV (As := [.ref (gx_ad L v1), .int v3]) (rest := []) C hM (kX_lt hv0 (by decide)) (cX_2 hv0) rfl (c_X2_findSignal l L v0 hv0 v1 hv1 v3 I _ h) k_X2_findSignal gw_457 rfl hl.1 rfl (Nat.le_of_ble_eq_true rfl) ⟨⟨rfl, rfl⟩, Nat.le_of_ble_eq_true rfl, Nat.le_of_ble_eq_true rfl⟩ ⟨Nat.zero_le _, Nat.zero_le _⟩ dX2_take_54) (fun I3 H locs h hM => ?_)
      refine lv_aload_n hx hb dX2_take_57 rfl (lv_at hl 0 rfl) ?_
      refine gX2_5 C hM hv0 gw_255 dX2_take_58 ?_
      refine lv_iload_n hx hb dX2_take_61 rfl (lv_at hl 2 rfl) ?_
      refine lv_aload_n hx hb dX2_take_62 rfl (lv_at hl 0 rfl) ?_
      refine gX2_2 C hM hv0 gw_250 dX2_take_63 ?_
      refine lv_iload_n hx hb dX2_take_66 rfl (lv_at hl 2 rfl) ?_
      refine gialdX C hM (kX_2_2 hv0) h.1 dX2_take_67 ?_
      replace h := h.2
      refine lv_i2l hx hb dX2_take_68 rfl ?_
      refine lv_aload_n hx hb dX2_take_69 rfl (lv_at hl 1 rfl) ?_
      refine gX4_11 C hM hv1 gw_108 dX2_take_70 ?_
      refine lv_iload_n hx hb dX2_take_73 rfl (lv_at hl 2 rfl) ?_
      refine gialdX C hM (kX_4_11 hv1) h.1 dX2_take_74 ?_
      replace h := h.2
      refine lv_i2l hx hb dX2_take_75 rfl ?_
      refine lv_lmul hx hb dX2_take_76 ?_
      refine gq_ldc2 (v := (1000 : Int64)) C gw_449 dX2_take_77 ?_
      refine lv_ldiv hx hb dX2_take_80 (by decide) ?_
      refine gq_ldc2 (v := (100 : Int64)) C gw_477 dX2_take_81 ?_
      refine lv_lmul hx hb dX2_take_84 ?_
      refine lv_aload_n hx hb dX2_take_85 rfl (lv_at hl 1 rfl) ?_
      refine gX4_3 C hM hv1 gw_84 dX2_take_86 ?_
      refine lv_i2l hx hb dX2_take_89 rfl ?_
      refine gq_backl C hM (gq_runSN (As := [.long ((((Int32.toInt64 (I3 (v0 + 3) v3.toNatClampNeg)) * (Int32.toInt64 (I3 (v1 + 3) v3.toNatClampNeg))) / (1000 : Int64)) * (100 : Int64)), .long (Int32.toInt64 (I3 v1 3))]) (rest := [.int v3, .ref (gx_ad L (v0 + 6))]) C hM (c_X7_quotient l L ((((Int32.toInt64 (I3 (v0 + 3) v3.toNatClampNeg)) * (Int32.toInt64 (I3 (v1 + 3) v3.toNatClampNeg))) / (1000 : Int64)) * (100 : Int64)) (Int32.toInt64 (I3 v1 3)) I3 _ h) k_X7_quotient gw_450 rfl hl.1 rfl (Nat.le_of_ble_eq_true rfl) ⟨⟨rfl, rfl⟩, Nat.le_of_ble_eq_true rfl, Nat.le_of_ble_eq_true rfl⟩ ⟨Nat.zero_le _, Nat.zero_le _⟩ dX2_take_90) (fun r1 I4 H locs h hM => ?_)
      refine lv_l2i hx hb dX2_take_93 rfl ?_
      have hi := h.1
      replace h := h.2
      obtain ⟨I5, eI5⟩ : ∃ z : gx_M, z = up I4 (v0 + 6) v3.toNatClampNeg (Int64.toInt32 r1) := ⟨_, rfl⟩
      replace h := h I5 eI5
      refine giastX C hM (kX_2_5 hv0) hi eI5 dX2_take_94 (fun H locs hM => ?_)
      obtain ⟨x1, ex1⟩ : ∃ z : Int32, z = v3 + (1 : Int32) := ⟨_, rfl⟩
      replace h := h x1 ex1
      refine lv_iinc (v := x1) (lv' := [(3, .int x1), (0, .ref (gx_ad L v0)), (1, .ref (gx_ad L v1))]) hx hb dX2_take_95 hl (k := 2) rfl (by rw [ex1]; rfl) (by decide) rfl (fun ls hl => ?_)
      refine lv_goto (tgt := 46) hx hb dX2_take_98 (by decide) ?_
      exact ih v0 v1 x1 (hv0) (hv1) I5 _ _ _ hM (lv_sub hl [1, 2, 0] rfl) h
set_option maxHeartbeats 4000000 in
set_option maxRecDepth 100000 in
theorem c_X2_take (l : Launch) (L : gx_L) (a0 : Nat) (hk0 : kX a0 = 2) (p0 : Nat) (hp0 : kX p0 = 4) (p1 : Int32) (I : gx_M) (Q : gx_M → Prop) (h : wp_X2_take a0 p0 p1 I Q) : Met l yX2_take (gx_w yX2_take cX2_take 4 none) rm_X2_take (va_Pc [.ref (gx_ad L a0), .ref (gx_ad L p0), .int p1] (gx_U L 282 (cellX L I))) (va_Qv Q (fun I' t => gx_U L 282 (cellX L I') t) (gx_A L)) 0 0 (gx_A L) := by
  refine gq_enter (by decide) (Nat.le_of_ble_eq_true rfl) (fun p e s m below meth c ls C hM hl => ?_)
  have C : gx_C L 282 p s m _ meth c RX2 cX2_take 4 none := C
  have hl : lv_has ls 4 [(0, .ref (gx_ad L a0)), (1, .ref (gx_ad L p0)), (2, .int p1)] := hl
  have hx := C.1
  have hb := C.2.1
  unfold wp_X2_take at h
  refine lv_aload_n hx hb dX2_take_0 rfl (lv_at hl 0 rfl) ?_
  refine lv_aload_n hx hb dX2_take_1 rfl (lv_at hl 1 rfl) ?_
  refine gX4_2 C hM hp0 gw_80 dX2_take_2 ?_
  refine lv_i2l hx hb dX2_take_5 rfl ?_
  refine gq_ldc2 (v := (1000000 : Int64)) C gw_448 dX2_take_6 ?_
  refine lv_lmul hx hb dX2_take_9 ?_
  refine lv_aload_n hx hb dX2_take_10 rfl (lv_at hl 1 rfl) ?_
  refine gX4_2 C hM hp0 gw_80 dX2_take_11 ?_
  refine lv_i2l hx hb dX2_take_14 rfl ?_
  refine gq_ldc2 (v := (1000 : Int64)) C gw_449 dX2_take_15 ?_
  refine lv_iload_n hx hb dX2_take_18 rfl (lv_at hl 2 rfl) ?_
  refine lv_i2l hx hb dX2_take_19 rfl ?_
  refine lv_lmul hx hb dX2_take_20 ?_
  refine lv_ladd hx hb dX2_take_21 ?_
  refine gq_backl C hM (gq_runSN (As := [.long ((Int32.toInt64 (I p0 2)) * (1000000 : Int64)), .long ((Int32.toInt64 (I p0 2)) + ((1000 : Int64) * (Int32.toInt64 p1)))]) (rest := [.ref (gx_ad L a0)]) C hM (c_X7_quotient l L ((Int32.toInt64 (I p0 2)) * (1000000 : Int64)) ((Int32.toInt64 (I p0 2)) + ((1000 : Int64) * (Int32.toInt64 p1))) I _ h) k_X7_quotient gw_450 rfl hl.1 rfl (Nat.le_of_ble_eq_true rfl) ⟨⟨rfl, rfl⟩, Nat.le_of_ble_eq_true rfl, Nat.le_of_ble_eq_true rfl⟩ ⟨Nat.zero_le _, Nat.zero_le _⟩ dX2_take_22) (fun r1 I1 H locs h hM => ?_)
  refine lv_l2i hx hb dX2_take_25 rfl ?_
  obtain ⟨I2, eI2⟩ : ∃ z : gx_M, z = up I1 a0 6 (Int64.toInt32 r1) := ⟨_, rfl⟩
  replace h := h I2 eI2
  refine pX2_6 C hM hk0 eI2 gw_257 dX2_take_26 (fun H locs hM => ?_)
  refine lv_aload_n hx hb dX2_take_29 rfl (lv_at hl 0 rfl) ?_
  refine lv_iconst (v := (0 : Int32)) hx hb dX2_take_30 (by decide) ?_
  obtain ⟨I3, eI3⟩ : ∃ z : gx_M, z = up I2 a0 7 (0 : Int32) := ⟨_, rfl⟩
  replace h := h I3 eI3
  refine pX2_7 C hM hk0 eI3 gw_259 dX2_take_31 (fun H locs hM => ?_)
  refine lv_aload_n hx hb dX2_take_34 rfl (lv_at hl 0 rfl) ?_
  refine lv_iconst (v := (0 : Int32)) hx hb dX2_take_35 (by decide) ?_
  obtain ⟨I4, eI4⟩ : ∃ z : gx_M, z = up I3 a0 8 (0 : Int32) := ⟨_, rfl⟩
  replace h := h I4 eI4
  refine pX2_8 C hM hk0 rfl eI4 gw_261 dX2_take_36 (fun H locs hM => ?_)
  refine lv_aload_n hx hb dX2_take_39 rfl (lv_at hl 0 rfl) ?_
  refine lv_aload_n hx hb dX2_take_40 rfl (lv_at hl 1 rfl) ?_
  refine gq_backv C hM (gq_runV (As := [.ref (gx_ad L p0)]) (rest := []) C hM (kX_lt hk0 (by decide)) (cX_2 hk0) rfl (c_X2_findStrains l L a0 hk0 p0 hp0 I4 _ h) k_X2_findStrains gw_453 rfl hl.1 rfl (Nat.le_of_ble_eq_true rfl) ⟨⟨rfl, rfl⟩, Nat.le_of_ble_eq_true rfl, Nat.le_of_ble_eq_true rfl⟩ ⟨Nat.zero_le _, Nat.zero_le _⟩ dX2_take_41) (fun I5 H locs h hM => ?_)
  refine lv_iconst (v := (0 : Int32)) hx hb dX2_take_44 (by decide) ?_
  refine lv_istore_n (lv' := [(3, .int (0 : Int32)), (0, .ref (gx_ad L a0)), (1, .ref (gx_ad L p0)), (2, .int p1)]) hx hb dX2_take_45 rfl hl (by decide) rfl (fun ls hl => ?_)
  obtain ⟨fv, h⟩ := h
  exact tl_X2_take_46 C fv a0 p0 (0 : Int32) (hk0) (hp0) I5 _ _ _ hM (lv_sub hl [1, 2, 0] rfl) h
theorem k_X2_take : gx_kV yX2_take cX2_take 4 none 2 := ⟨⟨gw_447, gw_30, by decide, by decide, by decide +kernel⟩, gw_445, gw_446⟩
abbrev rm_X7_gauge : Room := { frames := 5, cells := 0, slots := 0, locals := 110 }
set_option maxHeartbeats 4000000 in
set_option maxRecDepth 100000 in
theorem c_X7_gauge (l : Launch) (L : gx_L) (a0 : Nat) (hk0 : kX a0 = 7) (p0 : Int32) (p1 : Int32) (p2 : Int32) (I : gx_M) (Q : Int32 → gx_M → Prop) (h : wp_X7_gauge a0 p0 p1 p2 I Q) : Met l yX7_gauge (gx_w yX7_gauge cX7_gauge 5 (some .int)) rm_X7_gauge (va_Pc [.ref (gx_ad L a0), .int p0, .int p1, .int p2] (gx_U L 282 (cellX L I))) (va_Qi Q (fun I' t => gx_U L 282 (cellX L I') t) (gx_A L)) 0 0 (gx_A L) := by
  refine gq_enter (by decide) (Nat.le_of_ble_eq_true rfl) (fun p e s m below meth c ls C hM hl => ?_)
  have C : gx_C L 282 p s m _ meth c RX7 cX7_gauge 5 (some .int) := C
  have hl : lv_has ls 5 [(0, .ref (gx_ad L a0)), (1, .int p0), (2, .int p1), (3, .int p2)] := hl
  have hx := C.1
  have hb := C.2.1
  unfold wp_X7_gauge at h
  refine lv_aload_n hx hb dX7_gauge_0 rfl (lv_at hl 0 rfl) ?_
  refine gX7_0 C hM hk0 gw_306 dX7_gauge_1 ?_
  refine lv_iload_n hx hb dX7_gauge_4 rfl (lv_at hl 1 rfl) ?_
  refine gq_backe C hM (gq_runV (As := [.int p0]) (rest := []) C hM (kX_lt (kX_7_0 hk0) (by decide)) (cX_6 (kX_7_0 hk0)) rfl (c_X6_find l L (a0 + 1) (kX_7_0 hk0) p0 I _ h) k_X6_find gw_387 rfl hl.1 rfl (Nat.le_of_ble_eq_true rfl) ⟨⟨rfl, rfl⟩, Nat.le_of_ble_eq_true rfl, Nat.le_of_ble_eq_true rfl⟩ ⟨Nat.zero_le _, Nat.zero_le _⟩ dX7_gauge_5) (fun r1 I1 H locs h hM => ?_)
  obtain ⟨hk1, h⟩ := h
  rcases r1 with _ | b1
  · replace h := h.1 rfl
    refine W.eq (g2 := F0 m 8 ls [.null]) rfl ?_
    refine lv_astoreN (lv' := [(4, .null), (0, .ref (gx_ad L a0)), (1, .int p0), (2, .int p1), (3, .int p2)]) hx hb dX7_gauge_8 hl (by decide) rfl (fun ls hl => ?_)
    refine lv_aloadN hx hb dX7_gauge_10 (lv_at hl 0 rfl) ?_
    refine lv_ifnullN (tgt := 24) hx hb dX7_gauge_12 (by decide) ?_
    refine gq_ldc (v := (-1000001 : Int32)) C gw_388 dX7_gauge_24 ?_
    exact gq_iret C hM h dX7_gauge_26
  · have hk := hk1 b1 rfl
    replace h := h.2 b1 rfl hk
    have hk2 := hk
    refine W.eq (g2 := F0 m 8 ls [.ref (gx_ad L b1)]) rfl ?_
    refine lv_astore (lv' := [(4, .ref (gx_ad L b1)), (0, .ref (gx_ad L a0)), (1, .int p0), (2, .int p1), (3, .int p2)]) hx hb dX7_gauge_8 hl (by decide) rfl (fun ls hl => ?_)
    refine lv_aload hx hb dX7_gauge_10 (lv_at hl 0 rfl) ?_
    refine lv_ifnull hx hb dX7_gauge_12 ?_
    refine lv_iload_n hx hb dX7_gauge_15 rfl (lv_at hl 3 rfl) ?_
    refine lv_iconst (v := (0 : Int32)) hx hb dX7_gauge_16 (by decide) ?_
    refine lv_iconst (v := (2 : Int32)) hx hb dX7_gauge_17 (by decide) ?_
    refine gq_backi C hM (gq_runS (As := [.int p1, .int (0 : Int32), .int (2 : Int32)]) (rest := []) C hM (c_X7_isWithin l L p1 (0 : Int32) (2 : Int32) I1 _ h) k_X7_isWithin gw_335 rfl hl.1 rfl (Nat.le_of_ble_eq_true rfl) ⟨⟨rfl, rfl⟩, Nat.le_of_ble_eq_true rfl, Nat.le_of_ble_eq_true rfl⟩ ⟨Nat.zero_le _, Nat.zero_le _⟩ dX7_gauge_18) (fun r2 I2 H locs h hM => ?_)
    obtain ⟨hz1, h⟩ := h
    refine lv_if_ne (tgt := 27) hx hb dX7_gauge_21 (by decide) (fun hc => ?_) (fun hc => ?_)
    · replace h := h.2 hc
      refine lv_aload_n hx hb dX7_gauge_27 rfl (lv_at hl 1 rfl) ?_
      refine gX7_7 C hM hk0 gw_313 dX7_gauge_28 ?_
      refine lv_aload hx hb dX7_gauge_31 (lv_at hl 0 rfl) ?_
      refine lv_aload_n hx hb dX7_gauge_33 rfl (lv_at hl 1 rfl) ?_
      refine gX7_0 C hM hk0 gw_306 dX7_gauge_34 ?_
      refine gX6_4 C hM (kX_7_0 hk0) gw_145 dX7_gauge_37 ?_
      refine gq_backv C hM (gq_runV (As := [.ref (gx_ad L b1), .int (I2 (a0 + 1) 4)]) (rest := []) C hM (kX_lt (kX_7_7 hk0) (by decide)) (cX_2 (kX_7_7 hk0)) rfl (c_X2_take l L (a0 + 275) (kX_7_7 hk0) b1 hk2 (I2 (a0 + 1) 4) I2 _ h) k_X2_take gw_444 rfl hl.1 rfl (Nat.le_of_ble_eq_true rfl) ⟨⟨rfl, rfl⟩, Nat.le_of_ble_eq_true rfl, Nat.le_of_ble_eq_true rfl⟩ ⟨Nat.zero_le _, Nat.zero_le _⟩ dX7_gauge_40) (fun I3 H locs h hM => ?_)
      refine lv_iload_n hx hb dX7_gauge_43 rfl (lv_at hl 4 rfl) ?_
      by_cases hs0 : p2 = (0 : Int32)
      · replace h := h.1 hs0
        refine lv_tableIn (tgt := 92) hx hb dX7_gauge_44 (by rw [hs0]; decide) (by rw [hs0]; decide) (by rw [hs0]; rfl) (by decide) ?_
        refine lv_aload hx hb dX7_gauge_92 (lv_at hl 0 rfl) ?_
        refine gX4_9 C hM hk2 gw_102 dX7_gauge_94 ?_
        refine lv_iload_n hx hb dX7_gauge_97 rfl (lv_at hl 3 rfl) ?_
        refine gialdX C hM (kX_4_9 hk2) h.1 dX7_gauge_98 ?_
        replace h := h.2
        exact gq_iret C hM h dX7_gauge_99
      by_cases hs1 : p2 = (1 : Int32)
      · replace h := h.2.1 hs1
        refine lv_tableIn (tgt := 100) hx hb dX7_gauge_44 (by rw [hs1]; decide) (by rw [hs1]; decide) (by rw [hs1]; rfl) (by decide) ?_
        refine lv_aload_n hx hb dX7_gauge_100 rfl (lv_at hl 1 rfl) ?_
        refine gX7_7 C hM hk0 gw_313 dX7_gauge_101 ?_
        refine gX2_0 C hM (kX_7_7 hk0) gw_247 dX7_gauge_104 ?_
        refine lv_iload_n hx hb dX7_gauge_107 rfl (lv_at hl 3 rfl) ?_
        refine gialdX C hM (kX_2_0 (kX_7_7 hk0)) h.1 dX7_gauge_108 ?_
        replace h := h.2
        exact gq_iret C hM h dX7_gauge_109
      by_cases hs2 : p2 = (2 : Int32)
      · replace h := h.2.2.1 hs2
        refine lv_tableIn (tgt := 110) hx hb dX7_gauge_44 (by rw [hs2]; decide) (by rw [hs2]; decide) (by rw [hs2]; rfl) (by decide) ?_
        refine lv_aload_n hx hb dX7_gauge_110 rfl (lv_at hl 1 rfl) ?_
        refine gX7_7 C hM hk0 gw_313 dX7_gauge_111 ?_
        refine gX2_1 C hM (kX_7_7 hk0) gw_249 dX7_gauge_114 ?_
        refine lv_iload_n hx hb dX7_gauge_117 rfl (lv_at hl 3 rfl) ?_
        refine gialdX C hM (kX_2_1 (kX_7_7 hk0)) h.1 dX7_gauge_118 ?_
        replace h := h.2
        exact gq_iret C hM h dX7_gauge_119
      by_cases hs3 : p2 = (3 : Int32)
      · replace h := h.2.2.2.1 hs3
        refine lv_tableIn (tgt := 120) hx hb dX7_gauge_44 (by rw [hs3]; decide) (by rw [hs3]; decide) (by rw [hs3]; rfl) (by decide) ?_
        refine lv_aload_n hx hb dX7_gauge_120 rfl (lv_at hl 1 rfl) ?_
        refine gX7_7 C hM hk0 gw_313 dX7_gauge_121 ?_
        refine gX2_2 C hM (kX_7_7 hk0) gw_251 dX7_gauge_124 ?_
        refine lv_iload_n hx hb dX7_gauge_127 rfl (lv_at hl 3 rfl) ?_
        refine gialdX C hM (kX_2_2 (kX_7_7 hk0)) h.1 dX7_gauge_128 ?_
        replace h := h.2
        exact gq_iret C hM h dX7_gauge_129
      by_cases hs4 : p2 = (4 : Int32)
      · replace h := h.2.2.2.2.1 hs4
        refine lv_tableIn (tgt := 130) hx hb dX7_gauge_44 (by rw [hs4]; decide) (by rw [hs4]; decide) (by rw [hs4]; rfl) (by decide) ?_
        refine lv_aload hx hb dX7_gauge_130 (lv_at hl 0 rfl) ?_
        refine gX4_10 C hM hk2 gw_106 dX7_gauge_132 ?_
        refine lv_iload_n hx hb dX7_gauge_135 rfl (lv_at hl 3 rfl) ?_
        refine gialdX C hM (kX_4_10 hk2) h.1 dX7_gauge_136 ?_
        replace h := h.2
        exact gq_iret C hM h dX7_gauge_137
      by_cases hs5 : p2 = (5 : Int32)
      · replace h := h.2.2.2.2.2.1 hs5
        refine lv_tableIn (tgt := 138) hx hb dX7_gauge_44 (by rw [hs5]; decide) (by rw [hs5]; decide) (by rw [hs5]; rfl) (by decide) ?_
        refine lv_aload hx hb dX7_gauge_138 (lv_at hl 0 rfl) ?_
        refine gX4_11 C hM hk2 gw_109 dX7_gauge_140 ?_
        refine lv_iload_n hx hb dX7_gauge_143 rfl (lv_at hl 3 rfl) ?_
        refine gialdX C hM (kX_4_11 hk2) h.1 dX7_gauge_144 ?_
        replace h := h.2
        exact gq_iret C hM h dX7_gauge_145
      by_cases hs6 : p2 = (6 : Int32)
      · replace h := h.2.2.2.2.2.2.1 hs6
        refine lv_tableIn (tgt := 146) hx hb dX7_gauge_44 (by rw [hs6]; decide) (by rw [hs6]; decide) (by rw [hs6]; rfl) (by decide) ?_
        refine lv_aload_n hx hb dX7_gauge_146 rfl (lv_at hl 1 rfl) ?_
        refine gX7_7 C hM hk0 gw_313 dX7_gauge_147 ?_
        refine gX2_5 C hM (kX_7_7 hk0) gw_256 dX7_gauge_150 ?_
        refine lv_iload_n hx hb dX7_gauge_153 rfl (lv_at hl 3 rfl) ?_
        refine gialdX C hM (kX_2_5 (kX_7_7 hk0)) h.1 dX7_gauge_154 ?_
        replace h := h.2
        exact gq_iret C hM h dX7_gauge_155
      by_cases hs7 : p2 = (7 : Int32)
      · replace h := h.2.2.2.2.2.2.2.1 hs7
        refine lv_tableIn (tgt := 156) hx hb dX7_gauge_44 (by rw [hs7]; decide) (by rw [hs7]; decide) (by rw [hs7]; rfl) (by decide) ?_
        refine lv_aload_n hx hb dX7_gauge_156 rfl (lv_at hl 1 rfl) ?_
        refine gX7_7 C hM hk0 gw_313 dX7_gauge_157 ?_
        refine gX2_4 C hM (kX_7_7 hk0) gw_254 dX7_gauge_160 ?_
        refine lv_iload_n hx hb dX7_gauge_163 rfl (lv_at hl 3 rfl) ?_
        refine gialdX C hM (kX_2_4 (kX_7_7 hk0)) h.1 dX7_gauge_164 ?_
        replace h := h.2
        exact gq_iret C hM h dX7_gauge_165
      replace h := h.2.2.2.2.2.2.2.2 hs0 hs1 hs2 hs3 hs4 hs5 hs6 hs7
      refine lv_tableOut (tgt := 166) hx hb dX7_gauge_44 (by have q0 := lv_neT (a := 0) hs0 (by decide); have q1 := lv_neT (a := 1) hs1 (by decide); have q2 := lv_neT (a := 2) hs2 (by decide); have q3 := lv_neT (a := 3) hs3 (by decide); have q4 := lv_neT (a := 4) hs4 (by decide); have q5 := lv_neT (a := 5) hs5 (by decide); have q6 := lv_neT (a := 6) hs6 (by decide); have q7 := lv_neT (a := 7) hs7 (by decide); omega) (by decide) ?_
      refine gq_ldc (v := (-1000002 : Int32)) C gw_338 dX7_gauge_166 ?_
      exact gq_iret C hM h dX7_gauge_168
    · replace h := h.1 hc
      refine gq_ldc (v := (-1000001 : Int32)) C gw_388 dX7_gauge_24 ?_
      exact gq_iret C hM h dX7_gauge_26
theorem k_X7_gauge : gx_kV yX7_gauge cX7_gauge 5 (some .int) 3 := ⟨⟨gw_595, gw_22, by decide, by decide, by decide +kernel⟩, gw_593, gw_594⟩
abbrev rm_X7_principal : Room := { frames := 5, cells := 0, slots := 0, locals := 110 }
set_option maxHeartbeats 4000000 in
set_option maxRecDepth 100000 in
theorem c_X7_principal (l : Launch) (L : gx_L) (a0 : Nat) (hk0 : kX a0 = 7) (p0 : Int32) (p1 : Int32) (I : gx_M) (Q : Int32 → gx_M → Prop) (h : wp_X7_principal a0 p0 p1 I Q) : Met l yX7_principal (gx_w yX7_principal cX7_principal 4 (some .int)) rm_X7_principal (va_Pc [.ref (gx_ad L a0), .int p0, .int p1] (gx_U L 282 (cellX L I))) (va_Qi Q (fun I' t => gx_U L 282 (cellX L I') t) (gx_A L)) 0 0 (gx_A L) := by
  refine gq_enter (by decide) (Nat.le_of_ble_eq_true rfl) (fun p e s m below meth c ls C hM hl => ?_)
  have C : gx_C L 282 p s m _ meth c RX7 cX7_principal 4 (some .int) := C
  have hl : lv_has ls 4 [(0, .ref (gx_ad L a0)), (1, .int p0), (2, .int p1)] := hl
  have hx := C.1
  have hb := C.2.1
  unfold wp_X7_principal at h
  refine lv_aload_n hx hb dX7_principal_0 rfl (lv_at hl 0 rfl) ?_
  refine gX7_0 C hM hk0 gw_306 dX7_principal_1 ?_
  refine lv_iload_n hx hb dX7_principal_4 rfl (lv_at hl 1 rfl) ?_
  refine gq_backe C hM (gq_runV (As := [.int p0]) (rest := []) C hM (kX_lt (kX_7_0 hk0) (by decide)) (cX_6 (kX_7_0 hk0)) rfl (c_X6_find l L (a0 + 1) (kX_7_0 hk0) p0 I _ h) k_X6_find gw_387 rfl hl.1 rfl (Nat.le_of_ble_eq_true rfl) ⟨⟨rfl, rfl⟩, Nat.le_of_ble_eq_true rfl, Nat.le_of_ble_eq_true rfl⟩ ⟨Nat.zero_le _, Nat.zero_le _⟩ dX7_principal_5) (fun r1 I1 H locs h hM => ?_)
  obtain ⟨hk1, h⟩ := h
  rcases r1 with _ | b1
  · replace h := h.1 rfl
    refine W.eq (g2 := F0 m 8 ls [.null]) rfl ?_
    refine lv_astore_nN (lv' := [(3, .null), (0, .ref (gx_ad L a0)), (1, .int p0), (2, .int p1)]) hx hb dX7_principal_8 rfl hl (by decide) rfl (fun ls hl => ?_)
    refine lv_aload_nN hx hb dX7_principal_9 rfl (lv_at hl 0 rfl) ?_
    refine lv_ifnonnullN hx hb dX7_principal_10 ?_
    refine gq_ldc (v := (-1000001 : Int32)) C gw_388 dX7_principal_13 ?_
    exact gq_iret C hM h dX7_principal_15
  · have hk := hk1 b1 rfl
    replace h := h.2 b1 rfl hk
    have hk2 := hk
    refine W.eq (g2 := F0 m 8 ls [.ref (gx_ad L b1)]) rfl ?_
    refine lv_astore_n (lv' := [(3, .ref (gx_ad L b1)), (0, .ref (gx_ad L a0)), (1, .int p0), (2, .int p1)]) hx hb dX7_principal_8 rfl hl (by decide) rfl (fun ls hl => ?_)
    refine lv_aload_n hx hb dX7_principal_9 rfl (lv_at hl 0 rfl) ?_
    refine lv_ifnonnull (tgt := 16) hx hb dX7_principal_10 (by decide) ?_
    refine lv_aload_n hx hb dX7_principal_16 rfl (lv_at hl 1 rfl) ?_
    refine gX7_7 C hM hk0 gw_313 dX7_principal_17 ?_
    refine lv_aload_n hx hb dX7_principal_20 rfl (lv_at hl 0 rfl) ?_
    refine lv_aload_n hx hb dX7_principal_21 rfl (lv_at hl 1 rfl) ?_
    refine gX7_0 C hM hk0 gw_306 dX7_principal_22 ?_
    refine gX6_4 C hM (kX_7_0 hk0) gw_145 dX7_principal_25 ?_
    refine gq_backv C hM (gq_runV (As := [.ref (gx_ad L b1), .int (I1 (a0 + 1) 4)]) (rest := []) C hM (kX_lt (kX_7_7 hk0) (by decide)) (cX_2 (kX_7_7 hk0)) rfl (c_X2_take l L (a0 + 275) (kX_7_7 hk0) b1 hk2 (I1 (a0 + 1) 4) I1 _ h) k_X2_take gw_444 rfl hl.1 rfl (Nat.le_of_ble_eq_true rfl) ⟨⟨rfl, rfl⟩, Nat.le_of_ble_eq_true rfl, Nat.le_of_ble_eq_true rfl⟩ ⟨Nat.zero_le _, Nat.zero_le _⟩ dX7_principal_28) (fun I2 H locs h hM => ?_)
    refine lv_iload_n hx hb dX7_principal_31 rfl (lv_at hl 3 rfl) ?_
    by_cases hs0 : p1 = (0 : Int32)
    · replace h := h.1 hs0
      refine lv_tableIn (tgt := 80) hx hb dX7_principal_32 (by rw [hs0]; decide) (by rw [hs0]; decide) (by rw [hs0]; rfl) (by decide) ?_
      refine lv_aload_n hx hb dX7_principal_80 rfl (lv_at hl 1 rfl) ?_
      refine gX7_7 C hM hk0 gw_313 dX7_principal_81 ?_
      refine gX2_12 C hM (kX_7_7 hk0) gw_270 dX7_principal_84 ?_
      refine lv_aload_n hx hb dX7_principal_87 rfl (lv_at hl 1 rfl) ?_
      refine gX7_7 C hM hk0 gw_313 dX7_principal_88 ?_
      refine gX2_14 C hM (kX_7_7 hk0) gw_274 dX7_principal_91 ?_
      refine lv_iadd hx hb dX7_principal_94 ?_
      exact gq_iret C hM h dX7_principal_95
    by_cases hs1 : p1 = (1 : Int32)
    · replace h := h.2.1 hs1
      refine lv_tableIn (tgt := 96) hx hb dX7_principal_32 (by rw [hs1]; decide) (by rw [hs1]; decide) (by rw [hs1]; rfl) (by decide) ?_
      refine lv_aload_n hx hb dX7_principal_96 rfl (lv_at hl 1 rfl) ?_
      refine gX7_7 C hM hk0 gw_313 dX7_principal_97 ?_
      refine gX2_12 C hM (kX_7_7 hk0) gw_270 dX7_principal_100 ?_
      refine lv_aload_n hx hb dX7_principal_103 rfl (lv_at hl 1 rfl) ?_
      refine gX7_7 C hM hk0 gw_313 dX7_principal_104 ?_
      refine gX2_14 C hM (kX_7_7 hk0) gw_274 dX7_principal_107 ?_
      refine lv_isub hx hb dX7_principal_110 ?_
      exact gq_iret C hM h dX7_principal_111
    by_cases hs2 : p1 = (2 : Int32)
    · replace h := h.2.2.1 hs2
      refine lv_tableIn (tgt := 112) hx hb dX7_principal_32 (by rw [hs2]; decide) (by rw [hs2]; decide) (by rw [hs2]; rfl) (by decide) ?_
      refine lv_aload_n hx hb dX7_principal_112 rfl (lv_at hl 1 rfl) ?_
      refine gX7_7 C hM hk0 gw_313 dX7_principal_113 ?_
      refine gX2_13 C hM (kX_7_7 hk0) gw_272 dX7_principal_116 ?_
      exact gq_iret C hM h dX7_principal_119
    by_cases hs3 : p1 = (3 : Int32)
    · replace h := h.2.2.2.1 hs3
      refine lv_tableIn (tgt := 120) hx hb dX7_principal_32 (by rw [hs3]; decide) (by rw [hs3]; decide) (by rw [hs3]; rfl) (by decide) ?_
      refine lv_aload_n hx hb dX7_principal_120 rfl (lv_at hl 1 rfl) ?_
      refine gX7_7 C hM hk0 gw_313 dX7_principal_121 ?_
      refine gX2_14 C hM (kX_7_7 hk0) gw_274 dX7_principal_124 ?_
      exact gq_iret C hM h dX7_principal_127
    by_cases hs4 : p1 = (4 : Int32)
    · replace h := h.2.2.2.2.1 hs4
      refine lv_tableIn (tgt := 128) hx hb dX7_principal_32 (by rw [hs4]; decide) (by rw [hs4]; decide) (by rw [hs4]; rfl) (by decide) ?_
      refine lv_aload_n hx hb dX7_principal_128 rfl (lv_at hl 1 rfl) ?_
      refine gX7_7 C hM hk0 gw_313 dX7_principal_129 ?_
      refine gX2_9 C hM (kX_7_7 hk0) gw_264 dX7_principal_132 ?_
      exact gq_iret C hM h dX7_principal_135
    by_cases hs5 : p1 = (5 : Int32)
    · replace h := h.2.2.2.2.2.1 hs5
      refine lv_tableIn (tgt := 136) hx hb dX7_principal_32 (by rw [hs5]; decide) (by rw [hs5]; decide) (by rw [hs5]; rfl) (by decide) ?_
      refine lv_aload_n hx hb dX7_principal_136 rfl (lv_at hl 1 rfl) ?_
      refine gX7_7 C hM hk0 gw_313 dX7_principal_137 ?_
      refine gX2_10 C hM (kX_7_7 hk0) gw_266 dX7_principal_140 ?_
      exact gq_iret C hM h dX7_principal_143
    by_cases hs6 : p1 = (6 : Int32)
    · replace h := h.2.2.2.2.2.2.1 hs6
      refine lv_tableIn (tgt := 144) hx hb dX7_principal_32 (by rw [hs6]; decide) (by rw [hs6]; decide) (by rw [hs6]; rfl) (by decide) ?_
      refine lv_aload_n hx hb dX7_principal_144 rfl (lv_at hl 1 rfl) ?_
      refine gX7_7 C hM hk0 gw_313 dX7_principal_145 ?_
      refine gX2_11 C hM (kX_7_7 hk0) gw_268 dX7_principal_148 ?_
      exact gq_iret C hM h dX7_principal_151
    by_cases hs7 : p1 = (7 : Int32)
    · replace h := h.2.2.2.2.2.2.2.1 hs7
      refine lv_tableIn (tgt := 152) hx hb dX7_principal_32 (by rw [hs7]; decide) (by rw [hs7]; decide) (by rw [hs7]; rfl) (by decide) ?_
      refine lv_aload_n hx hb dX7_principal_152 rfl (lv_at hl 1 rfl) ?_
      refine gX7_7 C hM hk0 gw_313 dX7_principal_153 ?_
      refine gX2_12 C hM (kX_7_7 hk0) gw_270 dX7_principal_156 ?_
      exact gq_iret C hM h dX7_principal_159
    replace h := h.2.2.2.2.2.2.2.2 hs0 hs1 hs2 hs3 hs4 hs5 hs6 hs7
    refine lv_tableOut (tgt := 160) hx hb dX7_principal_32 (by have q0 := lv_neT (a := 0) hs0 (by decide); have q1 := lv_neT (a := 1) hs1 (by decide); have q2 := lv_neT (a := 2) hs2 (by decide); have q3 := lv_neT (a := 3) hs3 (by decide); have q4 := lv_neT (a := 4) hs4 (by decide); have q5 := lv_neT (a := 5) hs5 (by decide); have q6 := lv_neT (a := 6) hs6 (by decide); have q7 := lv_neT (a := 7) hs7 (by decide); omega) (by decide) ?_
    refine gq_ldc (v := (-1000002 : Int32)) C gw_338 dX7_principal_160 ?_
    exact gq_iret C hM h dX7_principal_162
theorem k_X7_principal : gx_kV yX7_principal cX7_principal 4 (some .int) 2 := ⟨⟨gw_622, gw_22, by decide, by decide, by decide +kernel⟩, gw_620, gw_621⟩
end
