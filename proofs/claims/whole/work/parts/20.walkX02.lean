section
variable {p : Program} {l : Launch} {e : Env} {s : State} {m : MethodId} {args : Array Value} {below : List Frame} {meth : Method} {c : Code} {L : gx_L}
abbrev rm_X1_findFault : Room := { frames := 4, cells := 0, slots := 0, locals := 88 }
set_option maxHeartbeats 4000000 in
set_option maxRecDepth 100000 in
theorem tj_X1_findFault_64 (C : gx_C L 282 p s m args meth c RX1 cX1_findFault 3 (some .int)) {Q : Int32 → gx_M → Prop} : ∀  (I : gx_M) (H : Heap) (locs : List Loc) (ls : Array Slot), gx_S L 282 (cellX L I) s.heap H locs → lv_has ls 3 [] → wj_X1_findFault_64 Q  I → W p l e rm_X1_findFault s m args below meth c H locs 0 0 (MQ below (va_Qi Q (fun I' t => gx_U L 282 (cellX L I') t) (gx_A L)) args s 0 0 (gx_A L)) (F0 m 64 ls []) := by
  have hx := C.1
  have hb := C.2.1
  intro   I H locs ls hM hl h
  unfold wj_X1_findFault_64 at h
  refine lv_iconst (v := (-1 : Int32)) hx hb dX1_findFault_64 (by decide) ?_
  refine lv_goto (tgt := 72) hx hb dX1_findFault_65 (by decide) ?_
  exact gq_iret C hM h dX1_findFault_72
set_option maxHeartbeats 4000000 in
set_option maxRecDepth 100000 in
theorem tj_X1_findFault_54 (C : gx_C L 282 p s m args meth c RX1 cX1_findFault 3 (some .int)) {Q : Int32 → gx_M → Prop} : ∀ (v0 : Nat) (v1 : Int32) (hv0 : kX v0 = 1) (I : gx_M) (H : Heap) (locs : List Loc) (ls : Array Slot), gx_S L 282 (cellX L I) s.heap H locs → lv_has ls 3 [(0, .ref (gx_ad L v0)), (1, .int v1)] → wj_X1_findFault_54 Q v0 v1 I → W p l e rm_X1_findFault s m args below meth c H locs 0 0 (MQ below (va_Qi Q (fun I' t => gx_U L 282 (cellX L I') t) (gx_A L)) args s 0 0 (gx_A L)) (F0 m 54 ls []) := by
  have hx := C.1
  have hb := C.2.1
  intro v0 v1 hv0 I H locs ls hM hl h
  unfold wj_X1_findFault_54 at h
  refine lv_iload_n hx hb dX1_findFault_54 rfl (lv_at hl 1 rfl) ?_
  refine lv_iconst (v := (2 : Int32)) hx hb dX1_findFault_55 (by decide) ?_
  refine lv_icmp_eq (tgt := 64) hx hb dX1_findFault_56 (by decide) (fun hc => ?_) (fun hc => ?_)
  · replace h := h.1 hc
    exact tj_X1_findFault_64 C  I _ _ _ hM (lv_sub hl [] rfl) h
  · replace h := h.2 hc
    refine lv_iload_n hx hb dX1_findFault_59 rfl (lv_at hl 1 rfl) ?_
    refine lv_iconst (v := (4 : Int32)) hx hb dX1_findFault_60 (by decide) ?_
    refine lv_icmp_ne (tgt := 68) hx hb dX1_findFault_61 (by decide) (fun hc => ?_) (fun hc => ?_)
    · replace h := h.2 hc
      refine lv_aload_n hx hb dX1_findFault_68 rfl (lv_at hl 0 rfl) ?_
      refine gX1_2 C hM hv0 gw_243 dX1_findFault_69 ?_
      exact gq_iret C hM h dX1_findFault_72
    · replace h := h.1 hc
      exact tj_X1_findFault_64 C  I _ _ _ hM (lv_sub hl [] rfl) h
set_option maxHeartbeats 4000000 in
set_option maxRecDepth 100000 in
theorem tl_X1_findFault_12 (C : gx_C L 282 p s m args meth c RX1 cX1_findFault 3 (some .int)) {Q : Int32 → gx_M → Prop} : ∀ (fu : Nat) (v0 : Nat) (v1 : Int32) (v2 : Int32) (hv0 : kX v0 = 1) (I : gx_M) (H : Heap) (locs : List Loc) (ls : Array Slot), gx_S L 282 (cellX L I) s.heap H locs → lv_has ls 3 [(0, .ref (gx_ad L v0)), (1, .int v1), (2, .int v2)] → wl_X1_findFault_12 Q fu v0 v1 v2 I → W p l e rm_X1_findFault s m args below meth c H locs 0 0 (MQ below (va_Qi Q (fun I' t => gx_U L 282 (cellX L I') t) (gx_A L)) args s 0 0 (gx_A L)) (F0 m 12 ls []) := by
  have hx := C.1
  have hb := C.2.1
  intro fu
  induction fu with
  | zero => intros; rename_i h; exact False.elim h
  | succ fu ih =>
    intro v0 v1 v2 hv0 I H locs ls hM hl h
    rw [wl_X1_findFault_12] at h
    refine lv_iload_n hx hb dX1_findFault_12 rfl (lv_at hl 2 rfl) ?_
    refine lv_aload_n hx hb dX1_findFault_13 rfl (lv_at hl 0 rfl) ?_
    refine gX1_2 C hM hv0 gw_243 dX1_findFault_14 ?_
    refine lv_icmp_ge (tgt := 54) hx hb dX1_findFault_17 (by decide) (fun hc => ?_) (fun hc => ?_)
    · replace h := h.1 hc
      exact tj_X1_findFault_54 C v0 v1 (hv0) I _ _ _ hM (lv_sub hl [0, 1] rfl) h
    · replace h := h.2 hc
      refine lv_iload_n hx hb dX1_findFault_20 rfl (lv_at hl 2 rfl) ?_
      refine lv_aload_n hx hb dX1_findFault_21 rfl (lv_at hl 0 rfl) ?_
      refine gX1_0 C hM hv0 gw_240 dX1_findFault_22 ?_
      refine galenX_20 C hM (kX_1_0 hv0) dX1_findFault_25 ?_
      refine lv_icmp_ge (tgt := 54) hx hb dX1_findFault_26 (by decide) (fun hc => ?_) (fun hc => ?_)
      · replace h := h.1 hc
        exact tj_X1_findFault_54 C v0 v1 (hv0) I _ _ _ hM (lv_sub hl [0, 1] rfl) h
      · replace h := h.2 hc
        refine lv_aload_n hx hb dX1_findFault_29 rfl (lv_at hl 0 rfl) ?_
        refine lv_aload_n hx hb dX1_findFault_30 rfl (lv_at hl 0 rfl) ?_
        refine gX1_0 C hM hv0 gw_240 dX1_findFault_31 ?_
        refine lv_iload_n hx hb dX1_findFault_34 rfl (lv_at hl 2 rfl) ?_
        refine gialdX C hM (kX_1_0 hv0) h.1 dX1_findFault_35 ?_
        replace h := h.2
        refine lv_iload_n hx hb dX1_findFault_36 rfl (lv_at hl 1 rfl) ?_
        refine gq_backi C hM (gq_runV (As := [.int (I (v0 + 1) v2.toNatClampNeg), .int v1]) (rest := []) C hM (kX_lt hv0 (by decide)) (cX_1 hv0) rfl (c_X1_take l L v0 hv0 (I (v0 + 1) v2.toNatClampNeg) v1 I _ h) k_X1_take gw_635 rfl hl.1 rfl (Nat.le_of_ble_eq_true rfl) ⟨⟨rfl, rfl⟩, Nat.le_of_ble_eq_true rfl, Nat.le_of_ble_eq_true rfl⟩ ⟨Nat.zero_le _, Nat.zero_le _⟩ dX1_findFault_37) (fun r1 I1 H locs h hM => ?_)
        refine lv_istore_n (lv' := [(1, .int r1), (0, .ref (gx_ad L v0)), (2, .int v2)]) hx hb dX1_findFault_40 rfl hl (by decide) rfl (fun ls hl => ?_)
        refine lv_iload_n hx hb dX1_findFault_41 rfl (lv_at hl 0 rfl) ?_
        refine lv_iconst (v := (5 : Int32)) hx hb dX1_findFault_42 (by decide) ?_
        refine lv_icmp_ne (tgt := 48) hx hb dX1_findFault_43 (by decide) (fun hc => ?_) (fun hc => ?_)
        · replace h := h.2 hc
          obtain ⟨x1, ex1⟩ : ∃ z : Int32, z = v2 + (1 : Int32) := ⟨_, rfl⟩
          replace h := h x1 ex1
          refine lv_iinc (v := x1) (lv' := [(2, .int x1), (1, .int r1), (0, .ref (gx_ad L v0))]) hx hb dX1_findFault_48 hl (k := 2) rfl (by rw [ex1]; rfl) (by decide) rfl (fun ls hl => ?_)
          refine lv_goto (tgt := 12) hx hb dX1_findFault_51 (by decide) ?_
          exact ih v0 r1 x1 (hv0) I1 _ _ _ hM (lv_sub hl [2, 1, 0] rfl) h
        · replace h := h.1 hc
          refine lv_iload_n hx hb dX1_findFault_46 rfl (lv_at hl 2 rfl) ?_
          exact gq_iret C hM h dX1_findFault_47
set_option maxHeartbeats 4000000 in
set_option maxRecDepth 100000 in
theorem c_X1_findFault (l : Launch) (L : gx_L) (a0 : Nat) (hk0 : kX a0 = 1) (I : gx_M) (Q : Int32 → gx_M → Prop) (h : wp_X1_findFault a0 I Q) : Met l yX1_findFault (gx_w yX1_findFault cX1_findFault 3 (some .int)) rm_X1_findFault (va_Pc [.ref (gx_ad L a0)] (gx_U L 282 (cellX L I))) (va_Qi Q (fun I' t => gx_U L 282 (cellX L I') t) (gx_A L)) 0 0 (gx_A L) := by
  refine gq_enter (by decide) (Nat.le_of_ble_eq_true rfl) (fun p e s m below meth c ls C hM hl => ?_)
  have C : gx_C L 282 p s m _ meth c RX1 cX1_findFault 3 (some .int) := C
  have hl : lv_has ls 3 [(0, .ref (gx_ad L a0))] := hl
  have hx := C.1
  have hb := C.2.1
  unfold wp_X1_findFault at h
  refine lv_aload_n hx hb dX1_findFault_0 rfl (lv_at hl 0 rfl) ?_
  refine gX1_1 C hM hk0 gw_241 dX1_findFault_1 ?_
  refine lv_iconst (v := (0 : Int32)) hx hb dX1_findFault_4 (by decide) ?_
  obtain ⟨I1, eI1⟩ : ∃ z : gx_M, z = up I (a0 + 2) 1 (0 : Int32) := ⟨_, rfl⟩
  replace h := h I1 eI1
  refine pX5_1 C hM (kX_1_1 hk0) eI1 gw_96 dX1_findFault_5 (fun H locs hM => ?_)
  refine lv_iconst (v := (0 : Int32)) hx hb dX1_findFault_8 (by decide) ?_
  refine lv_istore_n (lv' := [(1, .int (0 : Int32)), (0, .ref (gx_ad L a0))]) hx hb dX1_findFault_9 rfl hl (by decide) rfl (fun ls hl => ?_)
  refine lv_iconst (v := (0 : Int32)) hx hb dX1_findFault_10 (by decide) ?_
  refine lv_istore_n (lv' := [(2, .int (0 : Int32)), (1, .int (0 : Int32)), (0, .ref (gx_ad L a0))]) hx hb dX1_findFault_11 rfl hl (by decide) rfl (fun ls hl => ?_)
  obtain ⟨fu, h⟩ := h
  exact tl_X1_findFault_12 C fu a0 (0 : Int32) (0 : Int32) (hk0) I1 _ _ _ hM (lv_sub hl [2, 1, 0] rfl) h
theorem k_X1_findFault : gx_kV yX1_findFault cX1_findFault 3 (some .int) 0 := ⟨⟨gw_634, gw_64, by decide, by decide, by decide +kernel⟩, gw_632, gw_633⟩
abbrev rm_X7_quotient : Room := { frames := 0, cells := 0, slots := 0, locals := 0 }
set_option maxHeartbeats 4000000 in
set_option maxRecDepth 100000 in
theorem c_X7_quotient (l : Launch) (L : gx_L) (p0 : Int64) (p1 : Int64) (I : gx_M) (Q : Int64 → gx_M → Prop) (h : wp_X7_quotient p0 p1 I Q) : Met l yX7_quotient (gx_w yX7_quotient cX7_quotient 4 (some .long)) rm_X7_quotient (va_Pc [.long p0, .long p1] (gx_U L 282 (cellX L I))) (va_Ql Q (fun I' t => gx_U L 282 (cellX L I') t) (gx_A L)) 0 0 (gx_A L) := by
  refine gq_enter (by decide) (Nat.le_of_ble_eq_true rfl) (fun p e s m below meth c ls C hM hl => ?_)
  have C : gx_C L 282 p s m _ meth c RX7 cX7_quotient 4 (some .long) := C
  have hl : lv_has ls 4 [(0, .long p0), (2, .long p1)] := hl
  have hx := C.1
  have hb := C.2.1
  unfold wp_X7_quotient at h
  refine lv_lload_n hx hb dX7_quotient_0 rfl (lv_at hl 1 rfl) ?_
  refine lv_lconst (v := (0 : Int64)) hx hb dX7_quotient_1 (by decide) ?_
  refine W.lcmp hx hb dX7_quotient_2 ?_
  refine lv_if_ne (tgt := 10) hx hb dX7_quotient_3 (by decide) (fun hc => ?_) (fun hc => ?_)
  · replace h := h.2 hc
    refine lv_lload_n hx hb dX7_quotient_10 rfl (lv_at hl 0 rfl) ?_
    refine lv_lload_n hx hb dX7_quotient_11 rfl (lv_at hl 1 rfl) ?_
    refine lv_ldiv hx hb dX7_quotient_12 h.1 ?_
    replace h := h.2
    exact gq_lret C hM h dX7_quotient_13
  · replace h := h.1 hc
    refine lv_lconst (v := (0 : Int64)) hx hb dX7_quotient_6 (by decide) ?_
    refine lv_goto (tgt := 13) hx hb dX7_quotient_7 (by decide) ?_
    exact gq_lret C hM h dX7_quotient_13
theorem k_X7_quotient : gx_kS yX7_quotient cX7_quotient 4 (some .long) 2 := ⟨⟨gw_438, gw_58, by decide, by decide, by decide +kernel⟩, gw_437⟩
abbrev rm_X2_comesOut : Room := { frames := 1, cells := 0, slots := 0, locals := 23 }
set_option maxHeartbeats 4000000 in
set_option maxRecDepth 100000 in
theorem c_X2_comesOut (l : Launch) (L : gx_L) (p0 : Nat) (hp0 : kX p0 = 4) (p1 : Int32) (I : gx_M) (Q : Int32 → gx_M → Prop) (h : wp_X2_comesOut p0 p1 I Q) : Met l yX2_comesOut (gx_w yX2_comesOut cX2_comesOut 4 (some .int)) rm_X2_comesOut (va_Pc [.ref (gx_ad L p0), .int p1] (gx_U L 282 (cellX L I))) (va_Qi Q (fun I' t => gx_U L 282 (cellX L I') t) (gx_A L)) 0 0 (gx_A L) := by
  refine gq_enter (by decide) (Nat.le_of_ble_eq_true rfl) (fun p e s m below meth c ls C hM hl => ?_)
  have C : gx_C L 282 p s m _ meth c RX2 cX2_comesOut 4 (some .int) := C
  have hl : lv_has ls 4 [(0, .ref (gx_ad L p0)), (1, .int p1)] := hl
  have hx := C.1
  have hb := C.2.1
  unfold wp_X2_comesOut at h
  refine lv_aload_n hx hb dX2_comesOut_0 rfl (lv_at hl 0 rfl) ?_
  refine gX4_2 C hM hp0 gw_117 dX2_comesOut_1 ?_
  refine lv_i2l hx hb dX2_comesOut_4 rfl ?_
  refine gq_ldc2 (v := (1000 : Int64)) C gw_435 dX2_comesOut_5 ?_
  refine lv_lmul hx hb dX2_comesOut_8 ?_
  refine lv_topl (fun x1 ex1 => ?_)
  replace h := h x1 ex1
  refine lv_lstore_n (lv' := [(2, .long x1), (0, .ref (gx_ad L p0)), (1, .int p1)]) hx hb dX2_comesOut_9 rfl hl (by decide) rfl (fun ls hl => ?_)
  refine lv_iload_n hx hb dX2_comesOut_10 rfl (lv_at hl 2 rfl) ?_
  refine lv_i2l hx hb dX2_comesOut_11 rfl ?_
  refine lv_lload_n hx hb dX2_comesOut_12 rfl (lv_at hl 0 rfl) ?_
  refine lv_lmul hx hb dX2_comesOut_13 ?_
  refine lv_lload_n hx hb dX2_comesOut_14 rfl (lv_at hl 0 rfl) ?_
  refine lv_aload_n hx hb dX2_comesOut_15 rfl (lv_at hl 1 rfl) ?_
  refine gX4_4 C hM hp0 gw_125 dX2_comesOut_16 ?_
  refine lv_i2l hx hb dX2_comesOut_19 rfl ?_
  refine lv_ladd hx hb dX2_comesOut_20 ?_
  refine gq_backl C hM (gq_runSN (As := [.long ((Int32.toInt64 p1) * x1), .long (x1 + (Int32.toInt64 (I p0 4)))]) (rest := []) C hM (c_X7_quotient l L ((Int32.toInt64 p1) * x1) (x1 + (Int32.toInt64 (I p0 4))) I _ h) k_X7_quotient gw_436 rfl hl.1 rfl (Nat.le_of_ble_eq_true rfl) ⟨⟨rfl, rfl⟩, Nat.le_of_ble_eq_true rfl, Nat.le_of_ble_eq_true rfl⟩ ⟨Nat.zero_le _, Nat.zero_le _⟩ dX2_comesOut_21) (fun r1 I1 H locs h hM => ?_)
  refine lv_l2i hx hb dX2_comesOut_24 rfl ?_
  exact gq_iret C hM h dX2_comesOut_25
theorem k_X2_comesOut : gx_kS yX2_comesOut cX2_comesOut 4 (some .int) 2 := ⟨⟨gw_449, gw_66, by decide, by decide, by decide +kernel⟩, gw_448⟩
abbrev rm_X2_findDeltaNumbers : Room := { frames := 0, cells := 0, slots := 0, locals := 0 }
set_option maxHeartbeats 4000000 in
set_option maxRecDepth 100000 in
theorem c_X2_findDeltaNumbers (l : Launch) (L : gx_L) (a0 : Nat) (hk0 : kX a0 = 2) (I : gx_M) (Q : gx_M → Prop) (h : wp_X2_findDeltaNumbers a0 I Q) : Met l yX2_findDeltaNumbers (gx_w yX2_findDeltaNumbers cX2_findDeltaNumbers 1 none) rm_X2_findDeltaNumbers (va_Pc [.ref (gx_ad L a0)] (gx_U L 282 (cellX L I))) (va_Qv Q (fun I' t => gx_U L 282 (cellX L I') t) (gx_A L)) 0 0 (gx_A L) := by
  refine gq_enter (by decide) (Nat.le_of_ble_eq_true rfl) (fun p e s m below meth c ls C hM hl => ?_)
  have C : gx_C L 282 p s m _ meth c RX2 cX2_findDeltaNumbers 1 none := C
  have hl : lv_has ls 1 [(0, .ref (gx_ad L a0))] := hl
  have hx := C.1
  have hb := C.2.1
  unfold wp_X2_findDeltaNumbers at h
  refine lv_aload_n hx hb dX2_findDeltaNumbers_0 rfl (lv_at hl 0 rfl) ?_
  refine lv_aload_n hx hb dX2_findDeltaNumbers_1 rfl (lv_at hl 0 rfl) ?_
  refine gX2_5 C hM hk0 gw_292 dX2_findDeltaNumbers_2 ?_
  refine lv_iconst (v := (0 : Int32)) hx hb dX2_findDeltaNumbers_5 (by decide) ?_
  refine gialdX C hM (kX_2_5 hk0) h.1 dX2_findDeltaNumbers_6 ?_
  replace h := h.2
  obtain ⟨I1, eI1⟩ : ∃ z : gx_M, z = up I a0 9 (I (a0 + 6) (0 : Int32).toNatClampNeg) := ⟨_, rfl⟩
  replace h := h I1 eI1
  refine pX2_9 C hM hk0 eI1 gw_300 dX2_findDeltaNumbers_7 (fun H locs hM => ?_)
  refine lv_aload_n hx hb dX2_findDeltaNumbers_10 rfl (lv_at hl 0 rfl) ?_
  refine lv_iconst (v := (2 : Int32)) hx hb dX2_findDeltaNumbers_11 (by decide) ?_
  refine lv_aload_n hx hb dX2_findDeltaNumbers_12 rfl (lv_at hl 0 rfl) ?_
  refine gX2_5 C hM hk0 gw_292 dX2_findDeltaNumbers_13 ?_
  refine lv_iconst (v := (1 : Int32)) hx hb dX2_findDeltaNumbers_16 (by decide) ?_
  refine gialdX C hM (kX_2_5 hk0) h.1 dX2_findDeltaNumbers_17 ?_
  replace h := h.2
  refine lv_imul hx hb dX2_findDeltaNumbers_18 ?_
  refine lv_iconst (v := (2 : Int32)) hx hb dX2_findDeltaNumbers_19 (by decide) ?_
  refine lv_aload_n hx hb dX2_findDeltaNumbers_20 rfl (lv_at hl 0 rfl) ?_
  refine gX2_5 C hM hk0 gw_292 dX2_findDeltaNumbers_21 ?_
  refine lv_iconst (v := (2 : Int32)) hx hb dX2_findDeltaNumbers_24 (by decide) ?_
  refine gialdX C hM (kX_2_5 hk0) h.1 dX2_findDeltaNumbers_25 ?_
  replace h := h.2
  refine lv_imul hx hb dX2_findDeltaNumbers_26 ?_
  refine lv_iadd hx hb dX2_findDeltaNumbers_27 ?_
  refine lv_aload_n hx hb dX2_findDeltaNumbers_28 rfl (lv_at hl 0 rfl) ?_
  refine gX2_5 C hM hk0 gw_292 dX2_findDeltaNumbers_29 ?_
  refine lv_iconst (v := (0 : Int32)) hx hb dX2_findDeltaNumbers_32 (by decide) ?_
  refine gialdX C hM (kX_2_5 hk0) h.1 dX2_findDeltaNumbers_33 ?_
  replace h := h.2
  refine lv_isub hx hb dX2_findDeltaNumbers_34 ?_
  refine lv_iconst (v := (3 : Int32)) hx hb dX2_findDeltaNumbers_35 (by decide) ?_
  refine lv_idiv hx hb dX2_findDeltaNumbers_36 (by decide) ?_
  obtain ⟨I2, eI2⟩ : ∃ z : gx_M, z = up I1 a0 10 (((((2 : Int32) * (I1 (a0 + 6) (1 : Int32).toNatClampNeg)) + ((2 : Int32) * (I1 (a0 + 6) (2 : Int32).toNatClampNeg))) - (I1 (a0 + 6) (0 : Int32).toNatClampNeg)) / (3 : Int32)) := ⟨_, rfl⟩
  replace h := h I2 eI2
  refine pX2_10 C hM hk0 eI2 gw_302 dX2_findDeltaNumbers_37 (fun H locs hM => ?_)
  refine lv_aload_n hx hb dX2_findDeltaNumbers_40 rfl (lv_at hl 0 rfl) ?_
  refine lv_aload_n hx hb dX2_findDeltaNumbers_41 rfl (lv_at hl 0 rfl) ?_
  refine gX2_5 C hM hk0 gw_292 dX2_findDeltaNumbers_42 ?_
  refine lv_iconst (v := (1 : Int32)) hx hb dX2_findDeltaNumbers_45 (by decide) ?_
  refine gialdX C hM (kX_2_5 hk0) h.1 dX2_findDeltaNumbers_46 ?_
  replace h := h.2
  refine lv_aload_n hx hb dX2_findDeltaNumbers_47 rfl (lv_at hl 0 rfl) ?_
  refine gX2_5 C hM hk0 gw_292 dX2_findDeltaNumbers_48 ?_
  refine lv_iconst (v := (2 : Int32)) hx hb dX2_findDeltaNumbers_51 (by decide) ?_
  refine gialdX C hM (kX_2_5 hk0) h.1 dX2_findDeltaNumbers_52 ?_
  replace h := h.2
  refine lv_isub hx hb dX2_findDeltaNumbers_53 ?_
  refine lv_i2l hx hb dX2_findDeltaNumbers_54 rfl ?_
  refine gq_ldc2 (v := (11547 : Int64)) C gw_466 dX2_findDeltaNumbers_55 ?_
  refine lv_lmul hx hb dX2_findDeltaNumbers_58 ?_
  refine gq_ldc2 (v := (10000 : Int64)) C gw_467 dX2_findDeltaNumbers_59 ?_
  refine lv_ldiv hx hb dX2_findDeltaNumbers_62 (by decide) ?_
  refine lv_l2i hx hb dX2_findDeltaNumbers_63 rfl ?_
  obtain ⟨I3, eI3⟩ : ∃ z : gx_M, z = up I2 a0 11 (Int64.toInt32 (((Int32.toInt64 ((I2 (a0 + 6) (1 : Int32).toNatClampNeg) - (I2 (a0 + 6) (2 : Int32).toNatClampNeg))) * (11547 : Int64)) / (10000 : Int64))) := ⟨_, rfl⟩
  replace h := h I3 eI3
  refine pX2_11 C hM hk0 eI3 gw_304 dX2_findDeltaNumbers_64 (fun H locs hM => ?_)
  exact gq_vret C hM h dX2_findDeltaNumbers_67
theorem k_X2_findDeltaNumbers : gx_kV yX2_findDeltaNumbers cX2_findDeltaNumbers 1 none 0 := ⟨⟨gw_465, gw_66, by decide, by decide, by decide +kernel⟩, gw_464, gw_4⟩
abbrev rm_X2_pullTo : Room := { frames := 1, cells := 0, slots := 0, locals := 22 }
set_option maxHeartbeats 4000000 in
set_option maxRecDepth 100000 in
theorem c_X2_pullTo (l : Launch) (L : gx_L) (a0 : Nat) (hk0 : kX a0 = 2) (p0 : Int32) (I : gx_M) (Q : Int64 → gx_M → Prop) (h : wp_X2_pullTo a0 p0 I Q) : Met l yX2_pullTo (gx_w yX2_pullTo cX2_pullTo 2 (some .long)) rm_X2_pullTo (va_Pc [.ref (gx_ad L a0), .int p0] (gx_U L 282 (cellX L I))) (va_Ql Q (fun I' t => gx_U L 282 (cellX L I') t) (gx_A L)) 0 0 (gx_A L) := by
  refine gq_enter (by decide) (Nat.le_of_ble_eq_true rfl) (fun p e s m below meth c ls C hM hl => ?_)
  have C : gx_C L 282 p s m _ meth c RX2 cX2_pullTo 2 (some .long) := C
  have hl : lv_has ls 2 [(0, .ref (gx_ad L a0)), (1, .int p0)] := hl
  have hx := C.1
  have hb := C.2.1
  obtain ⟨-, -, -, -, -, -, -, -, ⟨hZC, hTC, hZS, hTS⟩, -, -⟩ := id C
  unfold wp_X2_pullTo at h
  refine lv_iload_n hx hb dX2_pullTo_0 rfl (lv_at hl 1 rfl) ?_
  refine lv_iconst (v := (0 : Int32)) hx hb dX2_pullTo_1 (by decide) ?_
  refine lv_bipush (v := (23 : Int32)) hx hb dX2_pullTo_2 (by decide) ?_
  refine gq_backi C hM (gq_runSN (As := [.int p0, .int (0 : Int32), .int (23 : Int32)]) (rest := []) C hM (c_X7_isWithin l L p0 (0 : Int32) (23 : Int32) I _ h) k_X7_isWithin gw_480 rfl hl.1 rfl (Nat.le_of_ble_eq_true rfl) ⟨⟨rfl, rfl⟩, Nat.le_of_ble_eq_true rfl, Nat.le_of_ble_eq_true rfl⟩ ⟨Nat.zero_le _, Nat.zero_le _⟩ dX2_pullTo_4) (fun r1 I1 H locs h hM => ?_)
  obtain ⟨hz1, h⟩ := h
  refine lv_if_ne (tgt := 12) hx hb dX2_pullTo_7 (by decide) (fun hc => ?_) (fun hc => ?_)
  · replace h := h.2 hc
    refine lv_aload_n hx hb dX2_pullTo_12 rfl (lv_at hl 0 rfl) ?_
    refine gX2_9 C hM hk0 gw_300 dX2_pullTo_13 ?_
    refine lv_aload_n hx hb dX2_pullTo_16 rfl (lv_at hl 0 rfl) ?_
    refine gX2_10 C hM hk0 gw_302 dX2_pullTo_17 ?_
    refine lv_isub hx hb dX2_pullTo_20 ?_
    refine lv_i2l hx hb dX2_pullTo_21 rfl ?_
    refine gq_gets C hM hZC gw_481 dX2_pullTo_22 ?_
    refine lv_iload_n hx hb dX2_pullTo_25 rfl (lv_at hl 1 rfl) ?_
    refine gq_tald (f := gx_cos) C hM hTC h.1 dX2_pullTo_26 ?_
    replace h := h.2
    refine lv_i2l hx hb dX2_pullTo_27 rfl ?_
    refine lv_lmul hx hb dX2_pullTo_28 ?_
    refine lv_aload_n hx hb dX2_pullTo_29 rfl (lv_at hl 0 rfl) ?_
    refine gX2_11 C hM hk0 gw_304 dX2_pullTo_30 ?_
    refine lv_i2l hx hb dX2_pullTo_33 rfl ?_
    refine gq_gets C hM hZS gw_483 dX2_pullTo_34 ?_
    refine lv_iload_n hx hb dX2_pullTo_37 rfl (lv_at hl 1 rfl) ?_
    refine gq_tald (f := gx_sin) C hM hTS h.1 dX2_pullTo_38 ?_
    replace h := h.2
    refine lv_i2l hx hb dX2_pullTo_39 rfl ?_
    refine lv_lmul hx hb dX2_pullTo_40 ?_
    refine lv_ladd hx hb dX2_pullTo_41 ?_
    exact gq_lret C hM h dX2_pullTo_42
  · replace h := h.1 hc
    refine lv_lconst (v := (0 : Int64)) hx hb dX2_pullTo_10 (by decide) ?_
    exact gq_lret C hM h dX2_pullTo_11
theorem k_X2_pullTo : gx_kV yX2_pullTo cX2_pullTo 2 (some .long) 1 := ⟨⟨gw_479, gw_66, by decide, by decide, by decide +kernel⟩, gw_477, gw_478⟩
abbrev rm_X2_findPrincipal : Room := { frames := 2, cells := 0, slots := 0, locals := 43 }
set_option maxHeartbeats 4000000 in
set_option maxRecDepth 100000 in
theorem tj_X2_findPrincipal_56 (C : gx_C L 282 p s m args meth c RX2 cX2_findPrincipal 6 none) {Q : gx_M → Prop} {K28 : Nat → Int64 → Int32 → gx_M → Prop} (hK28 : ∀ (v0 : Nat) (v1 : Int64) (v3 : Int32) (hv0 : kX v0 = 2) (I : gx_M) (H : Heap) (locs : List Loc) (ls : Array Slot), gx_S L 282 (cellX L I) s.heap H locs → lv_has ls 6 [(0, .ref (gx_ad L v0)), (1, .long v1), (3, .int v3)] → K28 v0 v1 v3 I → W p l e rm_X2_findPrincipal s m args below meth c H locs 0 0 (MQ below (va_Qv Q (fun I' t => gx_U L 282 (cellX L I') t) (gx_A L)) args s 0 0 (gx_A L)) (F0 m 28 ls [])) : ∀ (v0 : Nat) (v1 : Int64) (v3 : Int32) (hv0 : kX v0 = 2) (I : gx_M) (H : Heap) (locs : List Loc) (ls : Array Slot), gx_S L 282 (cellX L I) s.heap H locs → lv_has ls 6 [(0, .ref (gx_ad L v0)), (1, .long v1), (3, .int v3)] → wj_X2_findPrincipal_56 Q K28 v0 v1 v3 I → W p l e rm_X2_findPrincipal s m args below meth c H locs 0 0 (MQ below (va_Qv Q (fun I' t => gx_U L 282 (cellX L I') t) (gx_A L)) args s 0 0 (gx_A L)) (F0 m 56 ls []) := by
  have hx := C.1
  have hb := C.2.1
  intro v0 v1 v3 hv0 I H locs ls hM hl h
  unfold wj_X2_findPrincipal_56 at h
  obtain ⟨x1, ex1⟩ : ∃ z : Int32, z = v3 + (1 : Int32) := ⟨_, rfl⟩
  replace h := h x1 ex1
  refine lv_iinc (v := x1) (lv' := [(3, .int x1), (0, .ref (gx_ad L v0)), (1, .long v1)]) hx hb dX2_findPrincipal_56 hl (k := 2) rfl (by rw [ex1]; rfl) (by decide) rfl (fun ls hl => ?_)
  refine lv_goto (tgt := 28) hx hb dX2_findPrincipal_59 (by decide) ?_
  exact hK28 v0 v1 x1 (hv0) I _ _ _ hM (lv_sub hl [1, 2, 0] rfl) h
set_option maxHeartbeats 4000000 in
set_option maxRecDepth 100000 in
theorem tl_X2_findPrincipal_28 (C : gx_C L 282 p s m args meth c RX2 cX2_findPrincipal 6 none) {Q : gx_M → Prop} : ∀ (fu : Nat) (v0 : Nat) (v1 : Int64) (v3 : Int32) (hv0 : kX v0 = 2) (I : gx_M) (H : Heap) (locs : List Loc) (ls : Array Slot), gx_S L 282 (cellX L I) s.heap H locs → lv_has ls 6 [(0, .ref (gx_ad L v0)), (1, .long v1), (3, .int v3)] → wl_X2_findPrincipal_28 Q fu v0 v1 v3 I → W p l e rm_X2_findPrincipal s m args below meth c H locs 0 0 (MQ below (va_Qv Q (fun I' t => gx_U L 282 (cellX L I') t) (gx_A L)) args s 0 0 (gx_A L)) (F0 m 28 ls []) := by
  have hx := C.1
  have hb := C.2.1
  intro fu
  induction fu with
  | zero => intros; rename_i h; exact False.elim h
  | succ fu ih =>
    intro v0 v1 v3 hv0 I H locs ls hM hl h
    rw [wl_X2_findPrincipal_28] at h
    refine lv_iload_n hx hb dX2_findPrincipal_28 rfl (lv_at hl 2 rfl) ?_
    refine lv_bipush (v := (24 : Int32)) hx hb dX2_findPrincipal_29 (by decide) ?_
    refine lv_icmp_ge (tgt := 62) hx hb dX2_findPrincipal_31 (by decide) (fun hc => ?_) (fun hc => ?_)
    · replace h := h.1 hc
      refine lv_aload_n hx hb dX2_findPrincipal_62 rfl (lv_at hl 0 rfl) ?_
      refine lv_lload_n hx hb dX2_findPrincipal_63 rfl (lv_at hl 1 rfl) ?_
      refine gq_ldc2 (v := (20000 : Int64)) C gw_485 dX2_findPrincipal_64 ?_
      refine lv_ldiv hx hb dX2_findPrincipal_67 (by decide) ?_
      refine lv_l2i hx hb dX2_findPrincipal_68 rfl ?_
      obtain ⟨I1, eI1⟩ : ∃ z : gx_M, z = up I v0 14 (Int64.toInt32 (v1 / (20000 : Int64))) := ⟨_, rfl⟩
      replace h := h I1 eI1
      refine pX2_14 C hM hv0 eI1 gw_310 dX2_findPrincipal_69 (fun H locs hM => ?_)
      exact gq_vret C hM h dX2_findPrincipal_72
    · replace h := h.2 hc
      refine lv_aload_n hx hb dX2_findPrincipal_34 rfl (lv_at hl 0 rfl) ?_
      refine lv_iload_n hx hb dX2_findPrincipal_35 rfl (lv_at hl 2 rfl) ?_
      refine gq_backl C hM (gq_runV (As := [.int v3]) (rest := []) C hM (kX_lt hv0 (by decide)) (cX_2 hv0) rfl (c_X2_pullTo l L v0 hv0 v3 I _ h) k_X2_pullTo gw_476 rfl hl.1 rfl (Nat.le_of_ble_eq_true rfl) ⟨⟨rfl, rfl⟩, Nat.le_of_ble_eq_true rfl, Nat.le_of_ble_eq_true rfl⟩ ⟨Nat.zero_le _, Nat.zero_le _⟩ dX2_findPrincipal_36) (fun r1 I2 H locs h hM => ?_)
      refine lv_lstore (lv' := [(4, .long r1), (0, .ref (gx_ad L v0)), (1, .long v1), (3, .int v3)]) hx hb dX2_findPrincipal_39 hl (by decide) rfl (fun ls hl => ?_)
      refine lv_lload hx hb dX2_findPrincipal_41 (lv_at hl 0 rfl) ?_
      refine lv_lload_n hx hb dX2_findPrincipal_43 rfl (lv_at hl 2 rfl) ?_
      refine W.lcmp hx hb dX2_findPrincipal_44 ?_
      refine lv_if_le (tgt := 56) hx hb dX2_findPrincipal_45 (by decide) (fun hc => ?_) (fun hc => ?_)
      · replace h := h.1 hc
        exact tj_X2_findPrincipal_56 C ih v0 v1 v3 (hv0) I2 _ _ _ hM (lv_sub hl [1, 2, 3] rfl) h
      · replace h := h.2 hc
        refine lv_aload_n hx hb dX2_findPrincipal_48 rfl (lv_at hl 1 rfl) ?_
        refine lv_iload_n hx hb dX2_findPrincipal_49 rfl (lv_at hl 3 rfl) ?_
        obtain ⟨I3, eI3⟩ : ∃ z : gx_M, z = up I2 v0 13 v3 := ⟨_, rfl⟩
        replace h := h I3 eI3
        refine pX2_13 C hM hv0 eI3 gw_308 dX2_findPrincipal_50 (fun H locs hM => ?_)
        refine lv_lload hx hb dX2_findPrincipal_53 (lv_at hl 0 rfl) ?_
        refine lv_lstore_n (lv' := [(1, .long r1), (4, .long r1), (0, .ref (gx_ad L v0)), (3, .int v3)]) hx hb dX2_findPrincipal_55 rfl hl (by decide) rfl (fun ls hl => ?_)
        exact tj_X2_findPrincipal_56 C ih v0 r1 v3 (hv0) I3 _ _ _ hM (lv_sub hl [2, 0, 3] rfl) h
set_option maxHeartbeats 4000000 in
set_option maxRecDepth 100000 in
theorem c_X2_findPrincipal (l : Launch) (L : gx_L) (a0 : Nat) (hk0 : kX a0 = 2) (I : gx_M) (Q : gx_M → Prop) (h : wp_X2_findPrincipal a0 I Q) : Met l yX2_findPrincipal (gx_w yX2_findPrincipal cX2_findPrincipal 6 none) rm_X2_findPrincipal (va_Pc [.ref (gx_ad L a0)] (gx_U L 282 (cellX L I))) (va_Qv Q (fun I' t => gx_U L 282 (cellX L I') t) (gx_A L)) 0 0 (gx_A L) := by
  refine gq_enter (by decide) (Nat.le_of_ble_eq_true rfl) (fun p e s m below meth c ls C hM hl => ?_)
  have C : gx_C L 282 p s m _ meth c RX2 cX2_findPrincipal 6 none := C
  have hl : lv_has ls 6 [(0, .ref (gx_ad L a0))] := hl
  have hx := C.1
  have hb := C.2.1
  unfold wp_X2_findPrincipal at h
  refine lv_aload_n hx hb dX2_findPrincipal_0 rfl (lv_at hl 0 rfl) ?_
  refine lv_aload_n hx hb dX2_findPrincipal_1 rfl (lv_at hl 0 rfl) ?_
  refine gX2_9 C hM hk0 gw_300 dX2_findPrincipal_2 ?_
  refine lv_aload_n hx hb dX2_findPrincipal_5 rfl (lv_at hl 0 rfl) ?_
  refine gX2_10 C hM hk0 gw_302 dX2_findPrincipal_6 ?_
  refine lv_iadd hx hb dX2_findPrincipal_9 ?_
  refine lv_iconst (v := (2 : Int32)) hx hb dX2_findPrincipal_10 (by decide) ?_
  refine lv_idiv hx hb dX2_findPrincipal_11 (by decide) ?_
  obtain ⟨I1, eI1⟩ : ∃ z : gx_M, z = up I a0 12 (((I a0 9) + (I a0 10)) / (2 : Int32)) := ⟨_, rfl⟩
  replace h := h I1 eI1
  refine pX2_12 C hM hk0 eI1 gw_306 dX2_findPrincipal_12 (fun H locs hM => ?_)
  refine lv_aload_n hx hb dX2_findPrincipal_15 rfl (lv_at hl 0 rfl) ?_
  refine lv_iconst (v := (0 : Int32)) hx hb dX2_findPrincipal_16 (by decide) ?_
  obtain ⟨I2, eI2⟩ : ∃ z : gx_M, z = up I1 a0 13 (0 : Int32) := ⟨_, rfl⟩
  replace h := h I2 eI2
  refine pX2_13 C hM hk0 eI2 gw_308 dX2_findPrincipal_17 (fun H locs hM => ?_)
  refine lv_aload_n hx hb dX2_findPrincipal_20 rfl (lv_at hl 0 rfl) ?_
  refine lv_iconst (v := (0 : Int32)) hx hb dX2_findPrincipal_21 (by decide) ?_
  refine gq_backl C hM (gq_runV (As := [.int (0 : Int32)]) (rest := []) C hM (kX_lt hk0 (by decide)) (cX_2 hk0) rfl (c_X2_pullTo l L a0 hk0 (0 : Int32) I2 _ h) k_X2_pullTo gw_476 rfl hl.1 rfl (Nat.le_of_ble_eq_true rfl) ⟨⟨rfl, rfl⟩, Nat.le_of_ble_eq_true rfl, Nat.le_of_ble_eq_true rfl⟩ ⟨Nat.zero_le _, Nat.zero_le _⟩ dX2_findPrincipal_22) (fun r1 I3 H locs h hM => ?_)
  refine lv_lstore_n (lv' := [(1, .long r1), (0, .ref (gx_ad L a0))]) hx hb dX2_findPrincipal_25 rfl hl (by decide) rfl (fun ls hl => ?_)
  refine lv_iconst (v := (1 : Int32)) hx hb dX2_findPrincipal_26 (by decide) ?_
  refine lv_istore_n (lv' := [(3, .int (1 : Int32)), (1, .long r1), (0, .ref (gx_ad L a0))]) hx hb dX2_findPrincipal_27 rfl hl (by decide) rfl (fun ls hl => ?_)
  obtain ⟨fu, h⟩ := h
  exact tl_X2_findPrincipal_28 C fu a0 r1 (1 : Int32) (hk0) I3 _ _ _ hM (lv_sub hl [2, 1, 0] rfl) h
theorem k_X2_findPrincipal : gx_kV yX2_findPrincipal cX2_findPrincipal 6 none 0 := ⟨⟨gw_475, gw_66, by decide, by decide, by decide +kernel⟩, gw_474, gw_6⟩
abbrev rm_X2_findRightNumbers : Room := { frames := 0, cells := 0, slots := 0, locals := 0 }
set_option maxHeartbeats 4000000 in
set_option maxRecDepth 100000 in
theorem c_X2_findRightNumbers (l : Launch) (L : gx_L) (a0 : Nat) (hk0 : kX a0 = 2) (I : gx_M) (Q : gx_M → Prop) (h : wp_X2_findRightNumbers a0 I Q) : Met l yX2_findRightNumbers (gx_w yX2_findRightNumbers cX2_findRightNumbers 1 none) rm_X2_findRightNumbers (va_Pc [.ref (gx_ad L a0)] (gx_U L 282 (cellX L I))) (va_Qv Q (fun I' t => gx_U L 282 (cellX L I') t) (gx_A L)) 0 0 (gx_A L) := by
  refine gq_enter (by decide) (Nat.le_of_ble_eq_true rfl) (fun p e s m below meth c ls C hM hl => ?_)
  have C : gx_C L 282 p s m _ meth c RX2 cX2_findRightNumbers 1 none := C
  have hl : lv_has ls 1 [(0, .ref (gx_ad L a0))] := hl
  have hx := C.1
  have hb := C.2.1
  unfold wp_X2_findRightNumbers at h
  refine lv_aload_n hx hb dX2_findRightNumbers_0 rfl (lv_at hl 0 rfl) ?_
  refine lv_aload_n hx hb dX2_findRightNumbers_1 rfl (lv_at hl 0 rfl) ?_
  refine gX2_5 C hM hk0 gw_292 dX2_findRightNumbers_2 ?_
  refine lv_iconst (v := (0 : Int32)) hx hb dX2_findRightNumbers_5 (by decide) ?_
  refine gialdX C hM (kX_2_5 hk0) h.1 dX2_findRightNumbers_6 ?_
  replace h := h.2
  obtain ⟨I1, eI1⟩ : ∃ z : gx_M, z = up I a0 9 (I (a0 + 6) (0 : Int32).toNatClampNeg) := ⟨_, rfl⟩
  replace h := h I1 eI1
  refine pX2_9 C hM hk0 eI1 gw_300 dX2_findRightNumbers_7 (fun H locs hM => ?_)
  refine lv_aload_n hx hb dX2_findRightNumbers_10 rfl (lv_at hl 0 rfl) ?_
  refine lv_aload_n hx hb dX2_findRightNumbers_11 rfl (lv_at hl 0 rfl) ?_
  refine gX2_5 C hM hk0 gw_292 dX2_findRightNumbers_12 ?_
  refine lv_iconst (v := (2 : Int32)) hx hb dX2_findRightNumbers_15 (by decide) ?_
  refine gialdX C hM (kX_2_5 hk0) h.1 dX2_findRightNumbers_16 ?_
  replace h := h.2
  obtain ⟨I2, eI2⟩ : ∃ z : gx_M, z = up I1 a0 10 (I1 (a0 + 6) (2 : Int32).toNatClampNeg) := ⟨_, rfl⟩
  replace h := h I2 eI2
  refine pX2_10 C hM hk0 eI2 gw_302 dX2_findRightNumbers_17 (fun H locs hM => ?_)
  refine lv_aload_n hx hb dX2_findRightNumbers_20 rfl (lv_at hl 0 rfl) ?_
  refine lv_iconst (v := (2 : Int32)) hx hb dX2_findRightNumbers_21 (by decide) ?_
  refine lv_aload_n hx hb dX2_findRightNumbers_22 rfl (lv_at hl 0 rfl) ?_
  refine gX2_5 C hM hk0 gw_292 dX2_findRightNumbers_23 ?_
  refine lv_iconst (v := (1 : Int32)) hx hb dX2_findRightNumbers_26 (by decide) ?_
  refine gialdX C hM (kX_2_5 hk0) h.1 dX2_findRightNumbers_27 ?_
  replace h := h.2
  refine lv_imul hx hb dX2_findRightNumbers_28 ?_
  refine lv_aload_n hx hb dX2_findRightNumbers_29 rfl (lv_at hl 0 rfl) ?_
  refine gX2_5 C hM hk0 gw_292 dX2_findRightNumbers_30 ?_
  refine lv_iconst (v := (0 : Int32)) hx hb dX2_findRightNumbers_33 (by decide) ?_
  refine gialdX C hM (kX_2_5 hk0) h.1 dX2_findRightNumbers_34 ?_
  replace h := h.2
  refine lv_isub hx hb dX2_findRightNumbers_35 ?_
  refine lv_aload_n hx hb dX2_findRightNumbers_36 rfl (lv_at hl 0 rfl) ?_
  refine gX2_5 C hM hk0 gw_292 dX2_findRightNumbers_37 ?_
  refine lv_iconst (v := (2 : Int32)) hx hb dX2_findRightNumbers_40 (by decide) ?_
  refine gialdX C hM (kX_2_5 hk0) h.1 dX2_findRightNumbers_41 ?_
  replace h := h.2
  refine lv_isub hx hb dX2_findRightNumbers_42 ?_
  obtain ⟨I3, eI3⟩ : ∃ z : gx_M, z = up I2 a0 11 ((((2 : Int32) * (I2 (a0 + 6) (1 : Int32).toNatClampNeg)) - (I2 (a0 + 6) (0 : Int32).toNatClampNeg)) - (I2 (a0 + 6) (2 : Int32).toNatClampNeg)) := ⟨_, rfl⟩
  replace h := h I3 eI3
  refine pX2_11 C hM hk0 eI3 gw_304 dX2_findRightNumbers_43 (fun H locs hM => ?_)
  exact gq_vret C hM h dX2_findRightNumbers_46
theorem k_X2_findRightNumbers : gx_kV yX2_findRightNumbers cX2_findRightNumbers 1 none 0 := ⟨⟨gw_471, gw_66, by decide, by decide, by decide +kernel⟩, gw_470, gw_5⟩
abbrev rm_X7_isAround0 : Room := { frames := 1, cells := 0, slots := 0, locals := 22 }
set_option maxHeartbeats 4000000 in
set_option maxRecDepth 100000 in
theorem c_X7_isAround0 (l : Launch) (L : gx_L) (p0 : Int32) (p1 : Int32) (I : gx_M) (Q : Int32 → gx_M → Prop) (h : wp_X7_isAround0 p0 p1 I Q) : Met l yX7_isAround0 (gx_w yX7_isAround0 cX7_isAround0 2 (some .boolean)) rm_X7_isAround0 (va_Pc [.int p0, .int p1] (gx_U L 282 (cellX L I))) (va_Qi (fun r I' => r &&& 1 = r ∧ Q r I') (fun I' t => gx_U L 282 (cellX L I') t) (gx_A L)) 0 0 (gx_A L) := by
  refine gq_enter (by decide) (Nat.le_of_ble_eq_true rfl) (fun p e s m below meth c ls C hM hl => ?_)
  have C : gx_C L 282 p s m _ meth c RX7 cX7_isAround0 2 (some .boolean) := C
  have hl : lv_has ls 2 [(0, .int p0), (1, .int p1)] := hl
  have hx := C.1
  have hb := C.2.1
  unfold wp_X7_isAround0 at h
  refine lv_iload_n hx hb dX7_isAround0_0 rfl (lv_at hl 0 rfl) ?_
  refine lv_iload_n hx hb dX7_isAround0_1 rfl (lv_at hl 1 rfl) ?_
  refine lv_ineg hx hb dX7_isAround0_2 ?_
  refine lv_iload_n hx hb dX7_isAround0_3 rfl (lv_at hl 1 rfl) ?_
  refine gq_backi C hM (gq_runS (As := [.int p0, .int (-p1), .int p1]) (rest := []) C hM (c_X7_isWithin l L p0 (-p1) p1 I _ h) k_X7_isWithin gw_372 rfl hl.1 rfl (Nat.le_of_ble_eq_true rfl) ⟨⟨rfl, rfl⟩, Nat.le_of_ble_eq_true rfl, Nat.le_of_ble_eq_true rfl⟩ ⟨Nat.zero_le _, Nat.zero_le _⟩ dX7_isAround0_4) (fun r1 I1 H locs h hM => ?_)
  obtain ⟨hz1, h⟩ := h
  exact gq_zret C hM ⟨hz1, h⟩ (hz1) dX7_isAround0_7
theorem k_X7_isAround0 : gx_kS yX7_isAround0 cX7_isAround0 2 (some .boolean) 2 := ⟨⟨gw_428, gw_58, by decide, by decide, by decide +kernel⟩, gw_427⟩
abbrev rm_X2_isBeyond : Room := { frames := 2, cells := 0, slots := 0, locals := 43 }
set_option maxHeartbeats 4000000 in
set_option maxRecDepth 100000 in
theorem c_X2_isBeyond (l : Launch) (L : gx_L) (p0 : Int32) (I : gx_M) (Q : Int32 → gx_M → Prop) (h : wp_X2_isBeyond p0 I Q) : Met l yX2_isBeyond (gx_w yX2_isBeyond cX2_isBeyond 1 (some .boolean)) rm_X2_isBeyond (va_Pc [.int p0] (gx_U L 282 (cellX L I))) (va_Qi (fun r I' => r &&& 1 = r ∧ Q r I') (fun I' t => gx_U L 282 (cellX L I') t) (gx_A L)) 0 0 (gx_A L) := by
  refine gq_enter (by decide) (Nat.le_of_ble_eq_true rfl) (fun p e s m below meth c ls C hM hl => ?_)
  have C : gx_C L 282 p s m _ meth c RX2 cX2_isBeyond 1 (some .boolean) := C
  have hl : lv_has ls 1 [(0, .int p0)] := hl
  have hx := C.1
  have hb := C.2.1
  unfold wp_X2_isBeyond at h
  refine lv_iload_n hx hb dX2_isBeyond_0 rfl (lv_at hl 0 rfl) ?_
  refine lv_sipush (v := (30000 : Int32)) hx hb dX2_isBeyond_1 (by decide) ?_
  refine gq_backi C hM (gq_runSN (As := [.int p0, .int (30000 : Int32)]) (rest := []) C hM (c_X7_isAround0 l L p0 (30000 : Int32) I _ h) k_X7_isAround0 gw_460 rfl hl.1 rfl (Nat.le_of_ble_eq_true rfl) ⟨⟨rfl, rfl⟩, Nat.le_of_ble_eq_true rfl, Nat.le_of_ble_eq_true rfl⟩ ⟨Nat.zero_le _, Nat.zero_le _⟩ dX2_isBeyond_4) (fun r1 I1 H locs h hM => ?_)
  obtain ⟨hz1, h⟩ := h
  refine lv_if_ne (tgt := 14) hx hb dX2_isBeyond_7 (by decide) (fun hc => ?_) (fun hc => ?_)
  · replace h := h.2 hc
    refine lv_iconst (v := (0 : Int32)) hx hb dX2_isBeyond_14 (by decide) ?_
    exact gq_zret C hM ⟨rfl, h⟩ (rfl) dX2_isBeyond_15
  · replace h := h.1 hc
    refine lv_iconst (v := (1 : Int32)) hx hb dX2_isBeyond_10 (by decide) ?_
    refine lv_goto (tgt := 15) hx hb dX2_isBeyond_11 (by decide) ?_
    exact gq_zret C hM ⟨rfl, h⟩ (rfl) dX2_isBeyond_15
theorem k_X2_isBeyond : gx_kS yX2_isBeyond cX2_isBeyond 1 (some .boolean) 1 := ⟨⟨gw_459, gw_66, by decide, by decide, by decide +kernel⟩, gw_458⟩
abbrev rm_X2_limited : Room := { frames := 1, cells := 0, slots := 0, locals := 21 }
set_option maxHeartbeats 4000000 in
set_option maxRecDepth 100000 in
theorem c_X2_limited (l : Launch) (L : gx_L) (p0 : Int32) (I : gx_M) (Q : Int32 → gx_M → Prop) (h : wp_X2_limited p0 I Q) : Met l yX2_limited (gx_w yX2_limited cX2_limited 1 (some .int)) rm_X2_limited (va_Pc [.int p0] (gx_U L 282 (cellX L I))) (va_Qi Q (fun I' t => gx_U L 282 (cellX L I') t) (gx_A L)) 0 0 (gx_A L) := by
  refine gq_enter (by decide) (Nat.le_of_ble_eq_true rfl) (fun p e s m below meth c ls C hM hl => ?_)
  have C : gx_C L 282 p s m _ meth c RX2 cX2_limited 1 (some .int) := C
  have hl : lv_has ls 1 [(0, .int p0)] := hl
  have hx := C.1
  have hb := C.2.1
  unfold wp_X2_limited at h
  refine lv_sipush (v := (-30000 : Int32)) hx hb dX2_limited_0 (by decide) ?_
  refine lv_sipush (v := (30000 : Int32)) hx hb dX2_limited_3 (by decide) ?_
  refine lv_iload_n hx hb dX2_limited_6 rfl (lv_at hl 0 rfl) ?_
  refine gq_min C hl.1 gw_453 gw_454 gw_61 gw_455 (Nat.le_of_ble_eq_true rfl) (Nat.le_of_ble_eq_true rfl) (Nat.zero_le _) (Nat.zero_le _) dX2_limited_7 ?_
  refine gq_max C hl.1 gw_456 gw_92 gw_61 gw_93 (Nat.le_of_ble_eq_true rfl) (Nat.le_of_ble_eq_true rfl) (Nat.zero_le _) (Nat.zero_le _) dX2_limited_10 ?_
  exact gq_iret C hM h dX2_limited_13
theorem k_X2_limited : gx_kS yX2_limited cX2_limited 1 (some .int) 1 := ⟨⟨gw_452, gw_66, by decide, by decide, by decide +kernel⟩, gw_451⟩
abbrev rm_X2_findSignal : Room := { frames := 3, cells := 0, slots := 0, locals := 63 }
set_option maxHeartbeats 4000000 in
set_option maxRecDepth 100000 in
theorem tj_X2_findSignal_149 (C : gx_C L 282 p s m args meth c RX2 cX2_findSignal 5 none) {Q : gx_M → Prop} : ∀ (u0 : Int32) (u1 : Nat) (hu1 : kX u1 = 2) (I : gx_M) (H : Heap) (locs : List Loc) (ls : Array Slot), gx_S L 282 (cellX L I) s.heap H locs → lv_has ls 5 [] → wj_X2_findSignal_149 Q u0 u1 I → W p l e rm_X2_findSignal s m args below meth c H locs 0 0 (MQ below (va_Qv Q (fun I' t => gx_U L 282 (cellX L I') t) (gx_A L)) args s 0 0 (gx_A L)) (F0 m 149 ls [.int u0, .ref (gx_ad L u1)]) := by
  have hx := C.1
  have hb := C.2.1
  intro u0 u1 hu1 I H locs ls hM hl h
  unfold wj_X2_findSignal_149 at h
  have hz := h.1
  replace h := h.2
  obtain ⟨I1, eI1⟩ : ∃ z : gx_M, z = up I u1 8 u0 := ⟨_, rfl⟩
  replace h := h I1 eI1
  refine pX2_8 C hM hu1 hz eI1 gw_298 dX2_findSignal_149 (fun H locs hM => ?_)
  exact gq_vret C hM h dX2_findSignal_152
set_option maxHeartbeats 4000000 in
set_option maxRecDepth 100000 in
theorem tj_X2_findSignal_144 (C : gx_C L 282 p s m args meth c RX2 cX2_findSignal 5 none) {Q : gx_M → Prop} : ∀ (u0 : Nat) (hu0 : kX u0 = 2) (I : gx_M) (H : Heap) (locs : List Loc) (ls : Array Slot), gx_S L 282 (cellX L I) s.heap H locs → lv_has ls 5 [] → wj_X2_findSignal_144 Q u0 I → W p l e rm_X2_findSignal s m args below meth c H locs 0 0 (MQ below (va_Qv Q (fun I' t => gx_U L 282 (cellX L I') t) (gx_A L)) args s 0 0 (gx_A L)) (F0 m 144 ls [.ref (gx_ad L u0)]) := by
  have hx := C.1
  have hb := C.2.1
  intro u0 hu0 I H locs ls hM hl h
  unfold wj_X2_findSignal_144 at h
  refine lv_iconst (v := (1 : Int32)) hx hb dX2_findSignal_144 (by decide) ?_
  refine lv_goto (tgt := 149) hx hb dX2_findSignal_145 (by decide) ?_
  exact tj_X2_findSignal_149 C (1 : Int32) u0 (hu0) I _ _ _ hM (lv_sub hl [] rfl) h
set_option maxHeartbeats 4000000 in
set_option maxRecDepth 100000 in
theorem tj_X2_findSignal_121 (C : gx_C L 282 p s m args meth c RX2 cX2_findSignal 5 none) {Q : gx_M → Prop} : ∀ (v0 : Nat) (v3 : Int32) (v4 : Int32) (hv0 : kX v0 = 2) (I : gx_M) (H : Heap) (locs : List Loc) (ls : Array Slot), gx_S L 282 (cellX L I) s.heap H locs → lv_has ls 5 [(0, .ref (gx_ad L v0)), (3, .int v3), (4, .int v4)] → wj_X2_findSignal_121 Q v0 v3 v4 I → W p l e rm_X2_findSignal s m args below meth c H locs 0 0 (MQ below (va_Qv Q (fun I' t => gx_U L 282 (cellX L I') t) (gx_A L)) args s 0 0 (gx_A L)) (F0 m 121 ls []) := by
  have hx := C.1
  have hb := C.2.1
  intro v0 v3 v4 hv0 I H locs ls hM hl h
  unfold wj_X2_findSignal_121 at h
  refine lv_aload_n hx hb dX2_findSignal_121 rfl (lv_at hl 0 rfl) ?_
  refine lv_aload_n hx hb dX2_findSignal_122 rfl (lv_at hl 0 rfl) ?_
  refine gX2_8 C hM hv0 gw_298 dX2_findSignal_123 ?_
  refine lv_if_ne (tgt := 144) hx hb dX2_findSignal_126 (by decide) (fun hc => ?_) (fun hc => ?_)
  · replace h := h.2 hc
    exact tj_X2_findSignal_144 C v0 (hv0) I _ _ _ hM (lv_sub hl [] rfl) h
  · replace h := h.1 hc
    refine lv_iload hx hb dX2_findSignal_129 (lv_at hl 2 rfl) ?_
    refine gq_backi C hM (gq_runS (As := [.int v4]) (rest := [.ref (gx_ad L v0)]) C hM (c_X2_isBeyond l L v4 I _ h) k_X2_isBeyond gw_457 rfl hl.1 rfl (Nat.le_of_ble_eq_true rfl) ⟨⟨rfl, rfl⟩, Nat.le_of_ble_eq_true rfl, Nat.le_of_ble_eq_true rfl⟩ ⟨Nat.zero_le _, Nat.zero_le _⟩ dX2_findSignal_131) (fun r1 I1 H locs h hM => ?_)
    obtain ⟨hz1, h⟩ := h
    refine lv_if_ne (tgt := 144) hx hb dX2_findSignal_134 (by decide) (fun hc => ?_) (fun hc => ?_)
    · replace h := h.2 hc
      exact tj_X2_findSignal_144 C v0 (hv0) I1 _ _ _ hM (lv_sub hl [] rfl) h
    · replace h := h.1 hc
      refine lv_iload_n hx hb dX2_findSignal_137 rfl (lv_at hl 1 rfl) ?_
      refine gq_backi C hM (gq_runS (As := [.int v3]) (rest := [.ref (gx_ad L v0)]) C hM (c_X2_isBeyond l L v3 I1 _ h) k_X2_isBeyond gw_457 rfl hl.1 rfl (Nat.le_of_ble_eq_true rfl) ⟨⟨rfl, rfl⟩, Nat.le_of_ble_eq_true rfl, Nat.le_of_ble_eq_true rfl⟩ ⟨Nat.zero_le _, Nat.zero_le _⟩ dX2_findSignal_138) (fun r2 I2 H locs h hM => ?_)
      obtain ⟨hz2, h⟩ := h
      refine lv_if_eq (tgt := 148) hx hb dX2_findSignal_141 (by decide) (fun hc => ?_) (fun hc => ?_)
      · replace h := h.1 hc
        refine lv_iconst (v := (0 : Int32)) hx hb dX2_findSignal_148 (by decide) ?_
        exact tj_X2_findSignal_149 C (0 : Int32) v0 (hv0) I2 _ _ _ hM (lv_sub hl [] rfl) h
      · replace h := h.2 hc
        exact tj_X2_findSignal_144 C v0 (hv0) I2 _ _ _ hM (lv_sub hl [] rfl) h
set_option maxHeartbeats 4000000 in
set_option maxRecDepth 100000 in
theorem tj_X2_findSignal_67 (C : gx_C L 282 p s m args meth c RX2 cX2_findSignal 5 none) {Q : gx_M → Prop} : ∀ (v0 : Nat) (v2 : Int32) (v3 : Int32) (v4 : Int32) (u0 : Int32) (u1 : Int32) (u2 : Nat) (hv0 : kX v0 = 2) (hu2 : kX u2 = 20) (I : gx_M) (H : Heap) (locs : List Loc) (ls : Array Slot), gx_S L 282 (cellX L I) s.heap H locs → lv_has ls 5 [(0, .ref (gx_ad L v0)), (2, .int v2), (3, .int v3), (4, .int v4)] → wj_X2_findSignal_67 Q v0 v2 v3 v4 u0 u1 u2 I → W p l e rm_X2_findSignal s m args below meth c H locs 0 0 (MQ below (va_Qv Q (fun I' t => gx_U L 282 (cellX L I') t) (gx_A L)) args s 0 0 (gx_A L)) (F0 m 67 ls [.int u0, .int u1, .ref (gx_ad L u2)]) := by
  have hx := C.1
  have hb := C.2.1
  intro v0 v2 v3 v4 u0 u1 u2 hv0 hu2 I H locs ls hM hl h
  unfold wj_X2_findSignal_67 at h
  have hi := h.1
  replace h := h.2
  obtain ⟨I1, eI1⟩ : ∃ z : gx_M, z = up I u2 u1.toNatClampNeg u0 := ⟨_, rfl⟩
  replace h := h I1 eI1
  refine giastX C hM hu2 hi eI1 dX2_findSignal_67 (fun H locs hM => ?_)
  refine lv_aload_n hx hb dX2_findSignal_68 rfl (lv_at hl 0 rfl) ?_
  refine gX2_2 C hM hv0 gw_287 dX2_findSignal_69 ?_
  refine lv_iload_n hx hb dX2_findSignal_72 rfl (lv_at hl 1 rfl) ?_
  refine lv_aload_n hx hb dX2_findSignal_73 rfl (lv_at hl 0 rfl) ?_
  refine gX2_1 C hM hv0 gw_285 dX2_findSignal_74 ?_
  refine lv_iload_n hx hb dX2_findSignal_77 rfl (lv_at hl 1 rfl) ?_
  refine gialdX C hM (kX_2_1 hv0) h.1 dX2_findSignal_78 ?_
  replace h := h.2
  refine gq_backi C hM (gq_runS (As := [.int (I1 (v0 + 2) v2.toNatClampNeg)]) (rest := [.int v2, .ref (gx_ad L (v0 + 3))]) C hM (c_X2_limited l L (I1 (v0 + 2) v2.toNatClampNeg) I1 _ h) k_X2_limited gw_450 rfl hl.1 rfl (Nat.le_of_ble_eq_true rfl) ⟨⟨rfl, rfl⟩, Nat.le_of_ble_eq_true rfl, Nat.le_of_ble_eq_true rfl⟩ ⟨Nat.zero_le _, Nat.zero_le _⟩ dX2_findSignal_79) (fun r1 I2 H locs h hM => ?_)
  have hi := h.1
  replace h := h.2
  obtain ⟨I3, eI3⟩ : ∃ z : gx_M, z = up I2 (v0 + 3) v2.toNatClampNeg r1 := ⟨_, rfl⟩
  replace h := h I3 eI3
  refine giastX C hM (kX_2_2 hv0) hi eI3 dX2_findSignal_82 (fun H locs hM => ?_)
  refine lv_aload_n hx hb dX2_findSignal_83 rfl (lv_at hl 0 rfl) ?_
  refine gX2_4 C hM hv0 gw_290 dX2_findSignal_84 ?_
  refine lv_iload_n hx hb dX2_findSignal_87 rfl (lv_at hl 1 rfl) ?_
  refine lv_iload hx hb dX2_findSignal_88 (lv_at hl 3 rfl) ?_
  refine gq_backi C hM (gq_runS (As := [.int v4]) (rest := [.int v2, .ref (gx_ad L (v0 + 5))]) C hM (c_X2_limited l L v4 I3 _ h) k_X2_limited gw_450 rfl hl.1 rfl (Nat.le_of_ble_eq_true rfl) ⟨⟨rfl, rfl⟩, Nat.le_of_ble_eq_true rfl, Nat.le_of_ble_eq_true rfl⟩ ⟨Nat.zero_le _, Nat.zero_le _⟩ dX2_findSignal_90) (fun r2 I4 H locs h hM => ?_)
  refine lv_iload_n hx hb dX2_findSignal_93 rfl (lv_at hl 2 rfl) ?_
  refine gq_backi C hM (gq_runS (As := [.int v3]) (rest := [.int r2, .int v2, .ref (gx_ad L (v0 + 5))]) C hM (c_X2_limited l L v3 I4 _ h) k_X2_limited gw_450 rfl hl.1 rfl (Nat.le_of_ble_eq_true rfl) ⟨⟨rfl, rfl⟩, Nat.le_of_ble_eq_true rfl, Nat.le_of_ble_eq_true rfl⟩ ⟨Nat.zero_le _, Nat.zero_le _⟩ dX2_findSignal_94) (fun r3 I5 H locs h hM => ?_)
  refine lv_isub hx hb dX2_findSignal_97 ?_
  have hi := h.1
  replace h := h.2
  obtain ⟨I6, eI6⟩ : ∃ z : gx_M, z = up I5 (v0 + 5) v2.toNatClampNeg (r2 - r3) := ⟨_, rfl⟩
  replace h := h I6 eI6
  refine giastX C hM (kX_2_4 hv0) hi eI6 dX2_findSignal_98 (fun H locs hM => ?_)
  refine lv_aload_n hx hb dX2_findSignal_99 rfl (lv_at hl 0 rfl) ?_
  refine gX2_1 C hM hv0 gw_285 dX2_findSignal_100 ?_
  refine lv_iload_n hx hb dX2_findSignal_103 rfl (lv_at hl 1 rfl) ?_
  refine gialdX C hM (kX_2_1 hv0) h.1 dX2_findSignal_104 ?_
  replace h := h.2
  refine gq_backi C hM (gq_runS (As := [.int (I6 (v0 + 2) v2.toNatClampNeg)]) (rest := []) C hM (c_X2_isBeyond l L (I6 (v0 + 2) v2.toNatClampNeg) I6 _ h) k_X2_isBeyond gw_457 rfl hl.1 rfl (Nat.le_of_ble_eq_true rfl) ⟨⟨rfl, rfl⟩, Nat.le_of_ble_eq_true rfl, Nat.le_of_ble_eq_true rfl⟩ ⟨Nat.zero_le _, Nat.zero_le _⟩ dX2_findSignal_105) (fun r4 I7 H locs h hM => ?_)
  obtain ⟨hz1, h⟩ := h
  refine lv_if_eq (tgt := 121) hx hb dX2_findSignal_108 (by decide) (fun hc => ?_) (fun hc => ?_)
  · replace h := h.1 hc
    exact tj_X2_findSignal_121 C v0 v3 v4 (hv0) I7 _ _ _ hM (lv_sub hl [0, 2, 3] rfl) h
  · replace h := h.2 hc
    refine lv_aload_n hx hb dX2_findSignal_111 rfl (lv_at hl 0 rfl) ?_
    refine lv_dup hx hb dX2_findSignal_112 rfl ?_
    refine gX2_7 C hM hv0 gw_296 dX2_findSignal_113 ?_
    refine lv_iconst (v := (1 : Int32)) hx hb dX2_findSignal_116 (by decide) ?_
    refine lv_iadd hx hb dX2_findSignal_117 ?_
    obtain ⟨I8, eI8⟩ : ∃ z : gx_M, z = up I7 v0 7 ((I7 v0 7) + (1 : Int32)) := ⟨_, rfl⟩
    replace h := h I8 eI8
    refine pX2_7 C hM hv0 eI8 gw_296 dX2_findSignal_118 (fun H locs hM => ?_)
    exact tj_X2_findSignal_121 C v0 v3 v4 (hv0) I8 _ _ _ hM (lv_sub hl [0, 2, 3] rfl) h
set_option maxHeartbeats 4000000 in
set_option maxRecDepth 100000 in
theorem c_X2_findSignal (l : Launch) (L : gx_L) (a0 : Nat) (hk0 : kX a0 = 2) (p0 : Nat) (hp0 : kX p0 = 4) (p1 : Int32) (I : gx_M) (Q : gx_M → Prop) (h : wp_X2_findSignal a0 p0 p1 I Q) : Met l yX2_findSignal (gx_w yX2_findSignal cX2_findSignal 5 none) rm_X2_findSignal (va_Pc [.ref (gx_ad L a0), .ref (gx_ad L p0), .int p1] (gx_U L 282 (cellX L I))) (va_Qv Q (fun I' t => gx_U L 282 (cellX L I') t) (gx_A L)) 0 0 (gx_A L) := by
  refine gq_enter (by decide) (Nat.le_of_ble_eq_true rfl) (fun p e s m below meth c ls C hM hl => ?_)
  have C : gx_C L 282 p s m _ meth c RX2 cX2_findSignal 5 none := C
  have hl : lv_has ls 5 [(0, .ref (gx_ad L a0)), (1, .ref (gx_ad L p0)), (2, .int p1)] := hl
  have hx := C.1
  have hb := C.2.1
  unfold wp_X2_findSignal at h
  refine lv_aload_n hx hb dX2_findSignal_0 rfl (lv_at hl 1 rfl) ?_
  refine lv_aload_n hx hb dX2_findSignal_1 rfl (lv_at hl 1 rfl) ?_
  refine gX4_9 C hM hp0 gw_140 dX2_findSignal_2 ?_
  refine lv_iload_n hx hb dX2_findSignal_5 rfl (lv_at hl 2 rfl) ?_
  refine gialdX C hM (kX_4_9 hp0) h.1 dX2_findSignal_6 ?_
  replace h := h.2
  refine gq_backi C hM (gq_runS (As := [.ref (gx_ad L p0), .int (I (p0 + 1) p1.toNatClampNeg)]) (rest := []) C hM (c_X2_comesOut l L p0 hp0 (I (p0 + 1) p1.toNatClampNeg) I _ h) k_X2_comesOut gw_447 rfl hl.1 rfl (Nat.le_of_ble_eq_true rfl) ⟨⟨rfl, rfl⟩, Nat.le_of_ble_eq_true rfl, Nat.le_of_ble_eq_true rfl⟩ ⟨Nat.zero_le _, Nat.zero_le _⟩ dX2_findSignal_7) (fun r1 I1 H locs h hM => ?_)
  refine lv_aload_n hx hb dX2_findSignal_10 rfl (lv_at hl 1 rfl) ?_
  refine lv_aload_n hx hb dX2_findSignal_11 rfl (lv_at hl 0 rfl) ?_
  refine gX2_0 C hM hk0 gw_283 dX2_findSignal_12 ?_
  refine lv_iload_n hx hb dX2_findSignal_15 rfl (lv_at hl 2 rfl) ?_
  refine gialdX C hM (kX_2_0 hk0) h.1 dX2_findSignal_16 ?_
  replace h := h.2
  refine lv_aload_n hx hb dX2_findSignal_17 rfl (lv_at hl 1 rfl) ?_
  refine gX4_3 C hM hp0 gw_121 dX2_findSignal_18 ?_
  refine lv_imul hx hb dX2_findSignal_21 ?_
  refine lv_bipush (v := (100 : Int32)) hx hb dX2_findSignal_22 (by decide) ?_
  refine lv_idiv hx hb dX2_findSignal_24 (by decide) ?_
  refine gq_backi C hM (gq_runS (As := [.ref (gx_ad L p0), .int (((I1 (a0 + 1) p1.toNatClampNeg) * (I1 p0 3)) / (100 : Int32))]) (rest := [.int r1]) C hM (c_X2_comesOut l L p0 hp0 (((I1 (a0 + 1) p1.toNatClampNeg) * (I1 p0 3)) / (100 : Int32)) I1 _ h) k_X2_comesOut gw_447 rfl hl.1 rfl (Nat.le_of_ble_eq_true rfl) ⟨⟨rfl, rfl⟩, Nat.le_of_ble_eq_true rfl, Nat.le_of_ble_eq_true rfl⟩ ⟨Nat.zero_le _, Nat.zero_le _⟩ dX2_findSignal_25) (fun r2 I2 H locs h hM => ?_)
  refine lv_iadd hx hb dX2_findSignal_28 ?_
  refine lv_aload_n hx hb dX2_findSignal_29 rfl (lv_at hl 1 rfl) ?_
  refine gX4_10 C hM hp0 gw_142 dX2_findSignal_30 ?_
  refine lv_iload_n hx hb dX2_findSignal_33 rfl (lv_at hl 2 rfl) ?_
  refine gialdX C hM (kX_4_10 hp0) h.1 dX2_findSignal_34 ?_
  replace h := h.2
  refine lv_isub hx hb dX2_findSignal_35 ?_
  refine lv_topi (fun x1 ex1 => ?_)
  replace h := h x1 ex1
  refine lv_istore_n (lv' := [(3, .int x1), (0, .ref (gx_ad L a0)), (1, .ref (gx_ad L p0)), (2, .int p1)]) hx hb dX2_findSignal_36 rfl hl (by decide) rfl (fun ls hl => ?_)
  refine lv_iload_n hx hb dX2_findSignal_37 rfl (lv_at hl 0 rfl) ?_
  refine lv_aload_n hx hb dX2_findSignal_38 rfl (lv_at hl 2 rfl) ?_
  refine lv_aload_n hx hb dX2_findSignal_39 rfl (lv_at hl 1 rfl) ?_
  refine gX2_6 C hM hk0 gw_294 dX2_findSignal_40 ?_
  refine gq_backi C hM (gq_runS (As := [.ref (gx_ad L p0), .int (I2 a0 6)]) (rest := [.int x1]) C hM (c_X2_comesOut l L p0 hp0 (I2 a0 6) I2 _ h) k_X2_comesOut gw_447 rfl hl.1 rfl (Nat.le_of_ble_eq_true rfl) ⟨⟨rfl, rfl⟩, Nat.le_of_ble_eq_true rfl, Nat.le_of_ble_eq_true rfl⟩ ⟨Nat.zero_le _, Nat.zero_le _⟩ dX2_findSignal_43) (fun r3 I3 H locs h hM => ?_)
  refine lv_iadd hx hb dX2_findSignal_46 ?_
  refine lv_topi (fun x2 ex2 => ?_)
  replace h := h x2 ex2
  refine lv_istore (lv' := [(4, .int x2), (3, .int x1), (0, .ref (gx_ad L a0)), (1, .ref (gx_ad L p0)), (2, .int p1)]) hx hb dX2_findSignal_47 hl (by decide) rfl (fun ls hl => ?_)
  refine lv_aload_n hx hb dX2_findSignal_49 rfl (lv_at hl 2 rfl) ?_
  refine gX2_1 C hM hk0 gw_285 dX2_findSignal_50 ?_
  refine lv_iload_n hx hb dX2_findSignal_53 rfl (lv_at hl 4 rfl) ?_
  refine lv_aload_n hx hb dX2_findSignal_54 rfl (lv_at hl 3 rfl) ?_
  refine gX4_8 C hM hp0 gw_137 dX2_findSignal_55 ?_
  refine lv_if_eq (tgt := 66) hx hb dX2_findSignal_58 (by decide) (fun hc => ?_) (fun hc => ?_)
  · replace h := h.1 hc
    refine lv_iload_n hx hb dX2_findSignal_66 rfl (lv_at hl 1 rfl) ?_
    exact tj_X2_findSignal_67 C a0 p1 x1 x2 x1 p1 (a0 + 2) (hk0) (kX_2_1 hk0) I3 _ _ _ hM (lv_sub hl [2, 4, 1, 0] rfl) h
  · replace h := h.2 hc
    refine lv_iload hx hb dX2_findSignal_61 (lv_at hl 0 rfl) ?_
    refine lv_goto (tgt := 67) hx hb dX2_findSignal_63 (by decide) ?_
    exact tj_X2_findSignal_67 C a0 p1 x1 x2 x2 p1 (a0 + 2) (hk0) (kX_2_1 hk0) I3 _ _ _ hM (lv_sub hl [2, 4, 1, 0] rfl) h
theorem k_X2_findSignal : gx_kV yX2_findSignal cX2_findSignal 5 none 2 := ⟨⟨gw_446, gw_66, by decide, by decide, by decide +kernel⟩, gw_445, gw_3⟩
abbrev rm_X2_findStrains : Room := { frames := 0, cells := 0, slots := 0, locals := 0 }
set_option maxHeartbeats 4000000 in
set_option maxRecDepth 100000 in
theorem c_X2_findStrains (l : Launch) (L : gx_L) (a0 : Nat) (hk0 : kX a0 = 2) (p0 : Nat) (hp0 : kX p0 = 4) (I : gx_M) (Q : gx_M → Prop) (h : wp_X2_findStrains a0 p0 I Q) : Met l yX2_findStrains (gx_w yX2_findStrains cX2_findStrains 4 none) rm_X2_findStrains (va_Pc [.ref (gx_ad L a0), .ref (gx_ad L p0)] (gx_U L 282 (cellX L I))) (va_Qv Q (fun I' t => gx_U L 282 (cellX L I') t) (gx_A L)) 0 0 (gx_A L) := by
  refine gq_enter (by decide) (Nat.le_of_ble_eq_true rfl) (fun p e s m below meth c ls C hM hl => ?_)
  have C : gx_C L 282 p s m _ meth c RX2 cX2_findStrains 4 none := C
  have hl : lv_has ls 4 [(0, .ref (gx_ad L a0)), (1, .ref (gx_ad L p0))] := hl
  have hx := C.1
  have hb := C.2.1
  unfold wp_X2_findStrains at h
  refine lv_aload_n hx hb dX2_findStrains_0 rfl (lv_at hl 1 rfl) ?_
  refine gX4_1 C hM hp0 gw_115 dX2_findStrains_1 ?_
  refine lv_if_eq (tgt := 65) hx hb dX2_findStrains_4 (by decide) (fun hc => ?_) (fun hc => ?_)
  · replace h := h.1 hc
    refine lv_aload_n hx hb dX2_findStrains_65 rfl (lv_at hl 0 rfl) ?_
    refine gX2_0 C hM hk0 gw_283 dX2_findStrains_66 ?_
    refine lv_iconst (v := (0 : Int32)) hx hb dX2_findStrains_69 (by decide) ?_
    refine lv_aload_n hx hb dX2_findStrains_70 rfl (lv_at hl 1 rfl) ?_
    refine gX4_5 C hM hp0 gw_128 dX2_findStrains_71 ?_
    have hi := h.1
    replace h := h.2
    obtain ⟨I1, eI1⟩ : ∃ z : gx_M, z = up I (a0 + 1) (0 : Int32).toNatClampNeg (I p0 5) := ⟨_, rfl⟩
    replace h := h I1 eI1
    refine giastX C hM (kX_2_0 hk0) hi eI1 dX2_findStrains_74 (fun H locs hM => ?_)
    refine lv_aload_n hx hb dX2_findStrains_75 rfl (lv_at hl 0 rfl) ?_
    refine gX2_0 C hM hk0 gw_283 dX2_findStrains_76 ?_
    refine lv_iconst (v := (1 : Int32)) hx hb dX2_findStrains_79 (by decide) ?_
    refine lv_aload_n hx hb dX2_findStrains_80 rfl (lv_at hl 1 rfl) ?_
    refine gX4_5 C hM hp0 gw_128 dX2_findStrains_81 ?_
    refine lv_aload_n hx hb dX2_findStrains_84 rfl (lv_at hl 1 rfl) ?_
    refine gX4_6 C hM hp0 gw_131 dX2_findStrains_85 ?_
    refine lv_iadd hx hb dX2_findStrains_88 ?_
    refine lv_aload_n hx hb dX2_findStrains_89 rfl (lv_at hl 1 rfl) ?_
    refine gX4_7 C hM hp0 gw_134 dX2_findStrains_90 ?_
    refine lv_iadd hx hb dX2_findStrains_93 ?_
    refine lv_iconst (v := (2 : Int32)) hx hb dX2_findStrains_94 (by decide) ?_
    refine lv_idiv hx hb dX2_findStrains_95 (by decide) ?_
    have hi := h.1
    replace h := h.2
    obtain ⟨I2, eI2⟩ : ∃ z : gx_M, z = up I1 (a0 + 1) (1 : Int32).toNatClampNeg ((((I1 p0 5) + (I1 p0 6)) + (I1 p0 7)) / (2 : Int32)) := ⟨_, rfl⟩
    replace h := h I2 eI2
    refine giastX C hM (kX_2_0 hk0) hi eI2 dX2_findStrains_96 (fun H locs hM => ?_)
    refine lv_aload_n hx hb dX2_findStrains_97 rfl (lv_at hl 0 rfl) ?_
    refine gX2_0 C hM hk0 gw_283 dX2_findStrains_98 ?_
    refine lv_iconst (v := (2 : Int32)) hx hb dX2_findStrains_101 (by decide) ?_
    refine lv_aload_n hx hb dX2_findStrains_102 rfl (lv_at hl 1 rfl) ?_
    refine gX4_6 C hM hp0 gw_131 dX2_findStrains_103 ?_
    have hi := h.1
    replace h := h.2
    obtain ⟨I3, eI3⟩ : ∃ z : gx_M, z = up I2 (a0 + 1) (2 : Int32).toNatClampNeg (I2 p0 6) := ⟨_, rfl⟩
    replace h := h I3 eI3
    refine giastX C hM (kX_2_0 hk0) hi eI3 dX2_findStrains_106 (fun H locs hM => ?_)
    exact gq_vret C hM h dX2_findStrains_107
  · replace h := h.2 hc
    refine lv_aload_n hx hb dX2_findStrains_7 rfl (lv_at hl 1 rfl) ?_
    refine gX4_5 C hM hp0 gw_128 dX2_findStrains_8 ?_
    refine lv_iconst (v := (3 : Int32)) hx hb dX2_findStrains_11 (by decide) ?_
    refine lv_aload_n hx hb dX2_findStrains_12 rfl (lv_at hl 1 rfl) ?_
    refine gX4_6 C hM hp0 gw_131 dX2_findStrains_13 ?_
    refine lv_imul hx hb dX2_findStrains_16 ?_
    refine lv_iadd hx hb dX2_findStrains_17 ?_
    refine lv_iconst (v := (4 : Int32)) hx hb dX2_findStrains_18 (by decide) ?_
    refine lv_idiv hx hb dX2_findStrains_19 (by decide) ?_
    refine lv_topi (fun x1 ex1 => ?_)
    replace h := h x1 ex1
    refine lv_istore_n (lv' := [(2, .int x1), (0, .ref (gx_ad L a0)), (1, .ref (gx_ad L p0))]) hx hb dX2_findStrains_20 rfl hl (by decide) rfl (fun ls hl => ?_)
    refine lv_aload_n hx hb dX2_findStrains_21 rfl (lv_at hl 2 rfl) ?_
    refine gX4_7 C hM hp0 gw_134 dX2_findStrains_22 ?_
    refine lv_sipush (v := (433 : Int32)) hx hb dX2_findStrains_25 (by decide) ?_
    refine lv_imul hx hb dX2_findStrains_28 ?_
    refine lv_sipush (v := (1000 : Int32)) hx hb dX2_findStrains_29 (by decide) ?_
    refine lv_idiv hx hb dX2_findStrains_32 (by decide) ?_
    refine lv_topi (fun x2 ex2 => ?_)
    replace h := h x2 ex2
    refine lv_istore_n (lv' := [(3, .int x2), (2, .int x1), (0, .ref (gx_ad L a0)), (1, .ref (gx_ad L p0))]) hx hb dX2_findStrains_33 rfl hl (by decide) rfl (fun ls hl => ?_)
    refine lv_aload_n hx hb dX2_findStrains_34 rfl (lv_at hl 2 rfl) ?_
    refine gX2_0 C hM hk0 gw_283 dX2_findStrains_35 ?_
    refine lv_iconst (v := (0 : Int32)) hx hb dX2_findStrains_38 (by decide) ?_
    refine lv_aload_n hx hb dX2_findStrains_39 rfl (lv_at hl 3 rfl) ?_
    refine gX4_5 C hM hp0 gw_128 dX2_findStrains_40 ?_
    have hi := h.1
    replace h := h.2
    obtain ⟨I4, eI4⟩ : ∃ z : gx_M, z = up I (a0 + 1) (0 : Int32).toNatClampNeg (I p0 5) := ⟨_, rfl⟩
    replace h := h I4 eI4
    refine giastX C hM (kX_2_0 hk0) hi eI4 dX2_findStrains_43 (fun H locs hM => ?_)
    refine lv_aload_n hx hb dX2_findStrains_44 rfl (lv_at hl 2 rfl) ?_
    refine gX2_0 C hM hk0 gw_283 dX2_findStrains_45 ?_
    refine lv_iconst (v := (1 : Int32)) hx hb dX2_findStrains_48 (by decide) ?_
    refine lv_iload_n hx hb dX2_findStrains_49 rfl (lv_at hl 1 rfl) ?_
    refine lv_iload_n hx hb dX2_findStrains_50 rfl (lv_at hl 0 rfl) ?_
    refine lv_iadd hx hb dX2_findStrains_51 ?_
    have hi := h.1
    replace h := h.2
    obtain ⟨I5, eI5⟩ : ∃ z : gx_M, z = up I4 (a0 + 1) (1 : Int32).toNatClampNeg (x1 + x2) := ⟨_, rfl⟩
    replace h := h I5 eI5
    refine giastX C hM (kX_2_0 hk0) hi eI5 dX2_findStrains_52 (fun H locs hM => ?_)
    refine lv_aload_n hx hb dX2_findStrains_53 rfl (lv_at hl 2 rfl) ?_
    refine gX2_0 C hM hk0 gw_283 dX2_findStrains_54 ?_
    refine lv_iconst (v := (2 : Int32)) hx hb dX2_findStrains_57 (by decide) ?_
    refine lv_iload_n hx hb dX2_findStrains_58 rfl (lv_at hl 1 rfl) ?_
    refine lv_iload_n hx hb dX2_findStrains_59 rfl (lv_at hl 0 rfl) ?_
    refine lv_isub hx hb dX2_findStrains_60 ?_
    have hi := h.1
    replace h := h.2
    obtain ⟨I6, eI6⟩ : ∃ z : gx_M, z = up I5 (a0 + 1) (2 : Int32).toNatClampNeg (x1 - x2) := ⟨_, rfl⟩
    replace h := h I6 eI6
    refine giastX C hM (kX_2_0 hk0) hi eI6 dX2_findStrains_61 (fun H locs hM => ?_)
    refine lv_goto (tgt := 107) hx hb dX2_findStrains_62 (by decide) ?_
    exact gq_vret C hM h dX2_findStrains_107
theorem k_X2_findStrains : gx_kV yX2_findStrains cX2_findStrains 4 none 1 := ⟨⟨gw_442, gw_66, by decide, by decide, by decide +kernel⟩, gw_441, gw_2⟩
abbrev rm_X2_holdReadings : Room := { frames := 1, cells := 0, slots := 0, locals := 26 }
set_option maxHeartbeats 4000000 in
set_option maxRecDepth 100000 in
theorem c_X2_holdReadings (l : Launch) (L : gx_L) (a0 : Nat) (hk0 : kX a0 = 2) (I : gx_M) (Q : gx_M → Prop) (h : wp_X2_holdReadings a0 I Q) : Met l yX2_holdReadings (gx_w yX2_holdReadings cX2_holdReadings 1 none) rm_X2_holdReadings (va_Pc [.ref (gx_ad L a0)] (gx_U L 282 (cellX L I))) (va_Qv Q (fun I' t => gx_U L 282 (cellX L I') t) (gx_A L)) 0 0 (gx_A L) := by
  refine gq_enter (by decide) (Nat.le_of_ble_eq_true rfl) (fun p e s m below meth c ls C hM hl => ?_)
  have C : gx_C L 282 p s m _ meth c RX2 cX2_holdReadings 1 none := C
  have hl : lv_has ls 1 [(0, .ref (gx_ad L a0))] := hl
  have hx := C.1
  have hb := C.2.1
  unfold wp_X2_holdReadings at h
  refine lv_aload_n hx hb dX2_holdReadings_0 rfl (lv_at hl 0 rfl) ?_
  refine gX2_2 C hM hk0 gw_287 dX2_holdReadings_1 ?_
  refine lv_iconst (v := (0 : Int32)) hx hb dX2_holdReadings_4 (by decide) ?_
  refine lv_aload_n hx hb dX2_holdReadings_5 rfl (lv_at hl 0 rfl) ?_
  refine gX2_3 C hM hk0 gw_289 dX2_holdReadings_6 ?_
  refine lv_iconst (v := (0 : Int32)) hx hb dX2_holdReadings_9 (by decide) ?_
  refine lv_iconst (v := (3 : Int32)) hx hb dX2_holdReadings_10 (by decide) ?_
  have hi := h.1
  replace h := h.2
  obtain ⟨I1, eI1⟩ : ∃ z : gx_M, z = upr I (a0 + 4) (va_cpy (I (a0 + 3)) (I (a0 + 4)) (0 : Int32).toNatClampNeg (0 : Int32).toNatClampNeg (3 : Int32).toNatClampNeg) := ⟨_, rfl⟩
  replace h := h I1 eI1
  refine gcopyX C hM (kX_2_2 hk0) (kX_2_3 hk0) gw_490 hl.1 hi eI1 (Nat.le_of_ble_eq_true rfl) (Nat.le_of_ble_eq_true rfl) dX2_holdReadings_11 (fun H locs hM => ?_)
  exact gq_vret C hM h dX2_holdReadings_14
theorem k_X2_holdReadings : gx_kV yX2_holdReadings cX2_holdReadings 1 none 0 := ⟨⟨gw_489, gw_66, by decide, by decide, by decide +kernel⟩, gw_487, gw_488⟩
abbrev rm_X2_readingsChanged : Room := { frames := 0, cells := 0, slots := 0, locals := 0 }
set_option maxHeartbeats 4000000 in
set_option maxRecDepth 100000 in
theorem tj_X2_readingsChanged_27 (C : gx_C L 282 p s m args meth c RX2 cX2_readingsChanged 3 (some .int)) {Q : Int32 → gx_M → Prop} {K4 : Nat → Int32 → Int32 → gx_M → Prop} (hK4 : ∀ (v0 : Nat) (v1 : Int32) (v2 : Int32) (hv0 : kX v0 = 2) (I : gx_M) (H : Heap) (locs : List Loc) (ls : Array Slot), gx_S L 282 (cellX L I) s.heap H locs → lv_has ls 3 [(0, .ref (gx_ad L v0)), (1, .int v1), (2, .int v2)] → K4 v0 v1 v2 I → W p l e rm_X2_readingsChanged s m args below meth c H locs 0 0 (MQ below (va_Qi Q (fun I' t => gx_U L 282 (cellX L I') t) (gx_A L)) args s 0 0 (gx_A L)) (F0 m 4 ls [])) : ∀ (v0 : Nat) (v1 : Int32) (v2 : Int32) (hv0 : kX v0 = 2) (I : gx_M) (H : Heap) (locs : List Loc) (ls : Array Slot), gx_S L 282 (cellX L I) s.heap H locs → lv_has ls 3 [(0, .ref (gx_ad L v0)), (1, .int v1), (2, .int v2)] → wj_X2_readingsChanged_27 Q K4 v0 v1 v2 I → W p l e rm_X2_readingsChanged s m args below meth c H locs 0 0 (MQ below (va_Qi Q (fun I' t => gx_U L 282 (cellX L I') t) (gx_A L)) args s 0 0 (gx_A L)) (F0 m 27 ls []) := by
  have hx := C.1
  have hb := C.2.1
  intro v0 v1 v2 hv0 I H locs ls hM hl h
  unfold wj_X2_readingsChanged_27 at h
  obtain ⟨x1, ex1⟩ : ∃ z : Int32, z = v2 + (1 : Int32) := ⟨_, rfl⟩
  replace h := h x1 ex1
  refine lv_iinc (v := x1) (lv' := [(2, .int x1), (0, .ref (gx_ad L v0)), (1, .int v1)]) hx hb dX2_readingsChanged_27 hl (k := 2) rfl (by rw [ex1]; rfl) (by decide) rfl (fun ls hl => ?_)
  refine lv_goto (tgt := 4) hx hb dX2_readingsChanged_30 (by decide) ?_
  exact hK4 v0 v1 x1 (hv0) I _ _ _ hM (lv_sub hl [1, 2, 0] rfl) h
set_option maxHeartbeats 4000000 in
set_option maxRecDepth 100000 in
theorem tl_X2_readingsChanged_4 (C : gx_C L 282 p s m args meth c RX2 cX2_readingsChanged 3 (some .int)) {Q : Int32 → gx_M → Prop} : ∀ (fu : Nat) (v0 : Nat) (v1 : Int32) (v2 : Int32) (hv0 : kX v0 = 2) (I : gx_M) (H : Heap) (locs : List Loc) (ls : Array Slot), gx_S L 282 (cellX L I) s.heap H locs → lv_has ls 3 [(0, .ref (gx_ad L v0)), (1, .int v1), (2, .int v2)] → wl_X2_readingsChanged_4 Q fu v0 v1 v2 I → W p l e rm_X2_readingsChanged s m args below meth c H locs 0 0 (MQ below (va_Qi Q (fun I' t => gx_U L 282 (cellX L I') t) (gx_A L)) args s 0 0 (gx_A L)) (F0 m 4 ls []) := by
  have hx := C.1
  have hb := C.2.1
  intro fu
  induction fu with
  | zero => intros; rename_i h; exact False.elim h
  | succ fu ih =>
    intro v0 v1 v2 hv0 I H locs ls hM hl h
    rw [wl_X2_readingsChanged_4] at h
    refine lv_iload_n hx hb dX2_readingsChanged_4 rfl (lv_at hl 2 rfl) ?_
    refine lv_iconst (v := (3 : Int32)) hx hb dX2_readingsChanged_5 (by decide) ?_
    refine lv_icmp_ge (tgt := 33) hx hb dX2_readingsChanged_6 (by decide) (fun hc => ?_) (fun hc => ?_)
    · replace h := h.1 hc
      refine lv_iload_n hx hb dX2_readingsChanged_33 rfl (lv_at hl 1 rfl) ?_
      exact gq_iret C hM h dX2_readingsChanged_34
    · replace h := h.2 hc
      refine lv_aload_n hx hb dX2_readingsChanged_9 rfl (lv_at hl 0 rfl) ?_
      refine gX2_2 C hM hv0 gw_287 dX2_readingsChanged_10 ?_
      refine lv_iload_n hx hb dX2_readingsChanged_13 rfl (lv_at hl 2 rfl) ?_
      refine gialdX C hM (kX_2_2 hv0) h.1 dX2_readingsChanged_14 ?_
      replace h := h.2
      refine lv_aload_n hx hb dX2_readingsChanged_15 rfl (lv_at hl 0 rfl) ?_
      refine gX2_3 C hM hv0 gw_289 dX2_readingsChanged_16 ?_
      refine lv_iload_n hx hb dX2_readingsChanged_19 rfl (lv_at hl 2 rfl) ?_
      refine gialdX C hM (kX_2_3 hv0) h.1 dX2_readingsChanged_20 ?_
      replace h := h.2
      refine lv_icmp_eq (tgt := 27) hx hb dX2_readingsChanged_21 (by decide) (fun hc => ?_) (fun hc => ?_)
      · replace h := h.1 hc
        exact tj_X2_readingsChanged_27 C ih v0 v1 v2 (hv0) I _ _ _ hM (lv_sub hl [0, 1, 2] rfl) h
      · replace h := h.2 hc
        obtain ⟨x1, ex1⟩ : ∃ z : Int32, z = v1 + (1 : Int32) := ⟨_, rfl⟩
        replace h := h x1 ex1
        refine lv_iinc (v := x1) (lv' := [(1, .int x1), (0, .ref (gx_ad L v0)), (2, .int v2)]) hx hb dX2_readingsChanged_24 hl (k := 1) rfl (by rw [ex1]; rfl) (by decide) rfl (fun ls hl => ?_)
        exact tj_X2_readingsChanged_27 C ih v0 x1 v2 (hv0) I _ _ _ hM (lv_sub hl [1, 0, 2] rfl) h
set_option maxHeartbeats 4000000 in
set_option maxRecDepth 100000 in
theorem c_X2_readingsChanged (l : Launch) (L : gx_L) (a0 : Nat) (hk0 : kX a0 = 2) (I : gx_M) (Q : Int32 → gx_M → Prop) (h : wp_X2_readingsChanged a0 I Q) : Met l yX2_readingsChanged (gx_w yX2_readingsChanged cX2_readingsChanged 3 (some .int)) rm_X2_readingsChanged (va_Pc [.ref (gx_ad L a0)] (gx_U L 282 (cellX L I))) (va_Qi Q (fun I' t => gx_U L 282 (cellX L I') t) (gx_A L)) 0 0 (gx_A L) := by
  refine gq_enter (by decide) (Nat.le_of_ble_eq_true rfl) (fun p e s m below meth c ls C hM hl => ?_)
  have C : gx_C L 282 p s m _ meth c RX2 cX2_readingsChanged 3 (some .int) := C
  have hl : lv_has ls 3 [(0, .ref (gx_ad L a0))] := hl
  have hx := C.1
  have hb := C.2.1
  unfold wp_X2_readingsChanged at h
  refine lv_iconst (v := (0 : Int32)) hx hb dX2_readingsChanged_0 (by decide) ?_
  refine lv_istore_n (lv' := [(1, .int (0 : Int32)), (0, .ref (gx_ad L a0))]) hx hb dX2_readingsChanged_1 rfl hl (by decide) rfl (fun ls hl => ?_)
  refine lv_iconst (v := (0 : Int32)) hx hb dX2_readingsChanged_2 (by decide) ?_
  refine lv_istore_n (lv' := [(2, .int (0 : Int32)), (1, .int (0 : Int32)), (0, .ref (gx_ad L a0))]) hx hb dX2_readingsChanged_3 rfl hl (by decide) rfl (fun ls hl => ?_)
  obtain ⟨fu, h⟩ := h
  exact tl_X2_readingsChanged_4 C fu a0 (0 : Int32) (0 : Int32) (hk0) I _ _ _ hM (lv_sub hl [2, 1, 0] rfl) h
theorem k_X2_readingsChanged : gx_kV yX2_readingsChanged cX2_readingsChanged 3 (some .int) 0 := ⟨⟨gw_494, gw_66, by decide, by decide, by decide +kernel⟩, gw_492, gw_493⟩
end
