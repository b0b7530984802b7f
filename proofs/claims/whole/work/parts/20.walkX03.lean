section
variable {p : Program} {l : Launch} {e : Env} {s : State} {m : MethodId} {args : Array Value} {below : List Frame} {meth : Method} {c : Code} {L : gx_L}
abbrev rm_X2_take : Room := { frames := 4, cells := 0, slots := 0, locals := 87 }
set_option maxHeartbeats 4000000 in
set_option maxRecDepth 100000 in
theorem tj_X2_take_119 (C : gx_C L 282 p s m args meth c RX2 cX2_take 4 none) {Q : gx_M → Prop} : ∀ (v0 : Nat) (hv0 : kX v0 = 2) (I : gx_M) (H : Heap) (locs : List Loc) (ls : Array Slot), gx_S L 282 (cellX L I) s.heap H locs → lv_has ls 4 [(0, .ref (gx_ad L v0))] → wj_X2_take_119 Q v0 I → W p l e rm_X2_take s m args below meth c H locs 0 0 (MQ below (va_Qv Q (fun I' t => gx_U L 282 (cellX L I') t) (gx_A L)) args s 0 0 (gx_A L)) (F0 m 119 ls []) := by
  have hx := C.1
  have hb := C.2.1
  intro v0 hv0 I H locs ls hM hl h
  unfold wj_X2_take_119 at h
  refine lv_aload_n hx hb dX2_take_119 rfl (lv_at hl 0 rfl) ?_
  refine gq_backv C hM (gq_runV (As := []) (rest := []) C hM (kX_lt hv0 (by decide)) (cX_2 hv0) rfl (c_X2_findPrincipal l L v0 hv0 I _ h) k_X2_findPrincipal gw_472 rfl hl.1 rfl (Nat.le_of_ble_eq_true rfl) ⟨⟨rfl, rfl⟩, Nat.le_of_ble_eq_true rfl, Nat.le_of_ble_eq_true rfl⟩ ⟨Nat.zero_le _, Nat.zero_le _⟩ dX2_take_120) (fun I1 H locs h hM => ?_)
  exact gq_vret C hM h dX2_take_123
set_option maxHeartbeats 4000000 in
set_option maxRecDepth 100000 in
theorem tl_X2_take_46 (C : gx_C L 282 p s m args meth c RX2 cX2_take 4 none) {Q : gx_M → Prop} : ∀ (fu : Nat) (v0 : Nat) (v1 : Nat) (v3 : Int32) (hv0 : kX v0 = 2) (hv1 : kX v1 = 4) (I : gx_M) (H : Heap) (locs : List Loc) (ls : Array Slot), gx_S L 282 (cellX L I) s.heap H locs → lv_has ls 4 [(0, .ref (gx_ad L v0)), (1, .ref (gx_ad L v1)), (3, .int v3)] → wl_X2_take_46 Q fu v0 v1 v3 I → W p l e rm_X2_take s m args below meth c H locs 0 0 (MQ below (va_Qv Q (fun I' t => gx_U L 282 (cellX L I') t) (gx_A L)) args s 0 0 (gx_A L)) (F0 m 46 ls []) := by
  have hx := C.1
  have hb := C.2.1
  intro fu
  induction fu with
  | zero => intros; rename_i h; exact False.elim h
  | succ fu ih =>
    intro v0 v1 v3 hv0 hv1 I H locs ls hM hl h
    rw [wl_X2_take_46] at h
    refine lv_iload_n hx hb dX2_take_46 rfl (lv_at hl 2 rfl) ?_
    refine lv_iconst (v := (3 : Int32)) hx hb dX2_take_47 (by decide) ?_
    refine lv_icmp_ge (tgt := 101) hx hb dX2_take_48 (by decide) (fun hc => ?_) (fun hc => ?_)
    · replace h := h.1 hc
      refine lv_aload_n hx hb dX2_take_101 rfl (lv_at hl 1 rfl) ?_
      refine gX4_1 C hM hv1 gw_115 dX2_take_102 ?_
      refine lv_if_eq (tgt := 115) hx hb dX2_take_105 (by decide) (fun hc => ?_) (fun hc => ?_)
      · replace h := h.1 hc
        refine lv_aload_n hx hb dX2_take_115 rfl (lv_at hl 0 rfl) ?_
        refine gq_backv C hM (gq_runV (As := []) (rest := []) C hM (kX_lt hv0 (by decide)) (cX_2 hv0) rfl (c_X2_findRightNumbers l L v0 hv0 I _ h) k_X2_findRightNumbers gw_468 rfl hl.1 rfl (Nat.le_of_ble_eq_true rfl) ⟨⟨rfl, rfl⟩, Nat.le_of_ble_eq_true rfl, Nat.le_of_ble_eq_true rfl⟩ ⟨Nat.zero_le _, Nat.zero_le _⟩ dX2_take_116) (fun I1 H locs h hM => ?_)
        exact tj_X2_take_119 C v0 (hv0) I1 _ _ _ hM (lv_sub hl [0] rfl) h
      · replace h := h.2 hc
        refine lv_aload_n hx hb dX2_take_108 rfl (lv_at hl 0 rfl) ?_
        refine gq_backv C hM (gq_runV (As := []) (rest := []) C hM (kX_lt hv0 (by decide)) (cX_2 hv0) rfl (c_X2_findDeltaNumbers l L v0 hv0 I _ h) k_X2_findDeltaNumbers gw_462 rfl hl.1 rfl (Nat.le_of_ble_eq_true rfl) ⟨⟨rfl, rfl⟩, Nat.le_of_ble_eq_true rfl, Nat.le_of_ble_eq_true rfl⟩ ⟨Nat.zero_le _, Nat.zero_le _⟩ dX2_take_109) (fun I2 H locs h hM => ?_)
        refine lv_goto (tgt := 119) hx hb dX2_take_112 (by decide) ?_
        exact tj_X2_take_119 C v0 (hv0) I2 _ _ _ hM (lv_sub hl [0] rfl) h
    · replace h := h.2 hc
      refine lv_aload_n hx hb dX2_take_51 rfl (lv_at hl 0 rfl) ?_
      refine lv_aload_n hx hb dX2_take_52 rfl (lv_at hl 1 rfl) ?_
      refine lv_iload_n hx hb dX2_take_53 rfl (lv_at hl 2 rfl) ?_
      refine gq_backv C hM (gq_runV (As := [.ref (gx_ad L v1), .int v3]) (rest := []) C hM (kX_lt hv0 (by decide)) (cX_2 hv0) rfl (c_X2_findSignal l L v0 hv0 v1 hv1 v3 I _ h) k_X2_findSignal gw_443 rfl hl.1 rfl (Nat.le_of_ble_eq_true rfl) ⟨⟨rfl, rfl⟩, Nat.le_of_ble_eq_true rfl, Nat.le_of_ble_eq_true rfl⟩ ⟨Nat.zero_le _, Nat.zero_le _⟩ dX2_take_54) (fun I3 H locs h hM => ?_)
      refine lv_aload_n hx hb dX2_take_57 rfl (lv_at hl 0 rfl) ?_
      refine gX2_5 C hM hv0 gw_292 dX2_take_58 ?_
      refine lv_iload_n hx hb dX2_take_61 rfl (lv_at hl 2 rfl) ?_
      refine lv_aload_n hx hb dX2_take_62 rfl (lv_at hl 0 rfl) ?_
      refine gX2_2 C hM hv0 gw_287 dX2_take_63 ?_
      refine lv_iload_n hx hb dX2_take_66 rfl (lv_at hl 2 rfl) ?_
      refine gialdX C hM (kX_2_2 hv0) h.1 dX2_take_67 ?_
      replace h := h.2
      refine lv_i2l hx hb dX2_take_68 rfl ?_
      refine lv_aload_n hx hb dX2_take_69 rfl (lv_at hl 1 rfl) ?_
      refine gX4_11 C hM hv1 gw_145 dX2_take_70 ?_
      refine lv_iload_n hx hb dX2_take_73 rfl (lv_at hl 2 rfl) ?_
      refine gialdX C hM (kX_4_11 hv1) h.1 dX2_take_74 ?_
      replace h := h.2
      refine lv_i2l hx hb dX2_take_75 rfl ?_
      refine lv_lmul hx hb dX2_take_76 ?_
      refine gq_ldc2 (v := (1000 : Int64)) C gw_435 dX2_take_77 ?_
      refine lv_ldiv hx hb dX2_take_80 (by decide) ?_
      refine gq_ldc2 (v := (100 : Int64)) C gw_461 dX2_take_81 ?_
      refine lv_lmul hx hb dX2_take_84 ?_
      refine lv_aload_n hx hb dX2_take_85 rfl (lv_at hl 1 rfl) ?_
      refine gX4_3 C hM hv1 gw_121 dX2_take_86 ?_
      refine lv_i2l hx hb dX2_take_89 rfl ?_
      refine gq_backl C hM (gq_runSN (As := [.long ((((Int32.toInt64 (I3 (v0 + 3) v3.toNatClampNeg)) * (Int32.toInt64 (I3 (v1 + 3) v3.toNatClampNeg))) / (1000 : Int64)) * (100 : Int64)), .long (Int32.toInt64 (I3 v1 3))]) (rest := [.int v3, .ref (gx_ad L (v0 + 6))]) C hM (c_X7_quotient l L ((((Int32.toInt64 (I3 (v0 + 3) v3.toNatClampNeg)) * (Int32.toInt64 (I3 (v1 + 3) v3.toNatClampNeg))) / (1000 : Int64)) * (100 : Int64)) (Int32.toInt64 (I3 v1 3)) I3 _ h) k_X7_quotient gw_436 rfl hl.1 rfl (Nat.le_of_ble_eq_true rfl) ⟨⟨rfl, rfl⟩, Nat.le_of_ble_eq_true rfl, Nat.le_of_ble_eq_true rfl⟩ ⟨Nat.zero_le _, Nat.zero_le _⟩ dX2_take_90) (fun r1 I4 H locs h hM => ?_)
      refine lv_l2i hx hb dX2_take_93 rfl ?_
      have hi := h.1
      replace h := h.2
      obtain ⟨I5, eI5⟩ : ∃ z : gx_M, z = up I4 (v0 + 6) v3.toNatClampNeg (Int64.toInt32 r1) := ⟨_, rfl⟩
      replace h := h I5 eI5
      refine giastX C hM (kX_2_5 hv0) hi eI5 dX2_take_94 (fun H locs hM => ?_)
      obtain ⟨x1, ex1⟩ : ∃ z : Int32, z = v3 + (1 : Int32) := ⟨_, rfl⟩
      replace h := h x1 ex1
      refine lv_iinc (v := x1) (lv' := [(3, .int x1), (0, .ref (gx_ad L v0)), (1, .ref (gx_ad L v1))]) hx hb dX2_take_95 hl (k := 2) rfl (by rw [ex1]; rfl) (by decide) rfl (fun ls hl => ?_)
      refine lv_goto (tgt := 46) hx hb dX2_take_98 (by decide) ?_
      exact ih v0 v1 x1 (hv0) (hv1) I5 _ _ _ hM (lv_sub hl [1, 2, 0] rfl) h
set_option maxHeartbeats 4000000 in
set_option maxRecDepth 100000 in
theorem c_X2_take (l : Launch) (L : gx_L) (a0 : Nat) (hk0 : kX a0 = 2) (p0 : Nat) (hp0 : kX p0 = 4) (p1 : Int32) (I : gx_M) (Q : gx_M → Prop) (h : wp_X2_take a0 p0 p1 I Q) : Met l yX2_take (gx_w yX2_take cX2_take 4 none) rm_X2_take (va_Pc [.ref (gx_ad L a0), .ref (gx_ad L p0), .int p1] (gx_U L 282 (cellX L I))) (va_Qv Q (fun I' t => gx_U L 282 (cellX L I') t) (gx_A L)) 0 0 (gx_A L) := by
  refine gq_enter (by decide) (Nat.le_of_ble_eq_true rfl) (fun p e s m below meth c ls C hM hl => ?_)
  have C : gx_C L 282 p s m _ meth c RX2 cX2_take 4 none := C
  have hl : lv_has ls 4 [(0, .ref (gx_ad L a0)), (1, .ref (gx_ad L p0)), (2, .int p1)] := hl
  have hx := C.1
  have hb := C.2.1
  unfold wp_X2_take at h
  refine lv_aload_n hx hb dX2_take_0 rfl (lv_at hl 0 rfl) ?_
  refine lv_aload_n hx hb dX2_take_1 rfl (lv_at hl 1 rfl) ?_
  refine gX4_2 C hM hp0 gw_117 dX2_take_2 ?_
  refine lv_i2l hx hb dX2_take_5 rfl ?_
  refine gq_ldc2 (v := (1000000 : Int64)) C gw_434 dX2_take_6 ?_
  refine lv_lmul hx hb dX2_take_9 ?_
  refine lv_aload_n hx hb dX2_take_10 rfl (lv_at hl 1 rfl) ?_
  refine gX4_2 C hM hp0 gw_117 dX2_take_11 ?_
  refine lv_i2l hx hb dX2_take_14 rfl ?_
  refine gq_ldc2 (v := (1000 : Int64)) C gw_435 dX2_take_15 ?_
  refine lv_iload_n hx hb dX2_take_18 rfl (lv_at hl 2 rfl) ?_
  refine lv_i2l hx hb dX2_take_19 rfl ?_
  refine lv_lmul hx hb dX2_take_20 ?_
  refine lv_ladd hx hb dX2_take_21 ?_
  refine gq_backl C hM (gq_runSN (As := [.long ((Int32.toInt64 (I p0 2)) * (1000000 : Int64)), .long ((Int32.toInt64 (I p0 2)) + ((1000 : Int64) * (Int32.toInt64 p1)))]) (rest := [.ref (gx_ad L a0)]) C hM (c_X7_quotient l L ((Int32.toInt64 (I p0 2)) * (1000000 : Int64)) ((Int32.toInt64 (I p0 2)) + ((1000 : Int64) * (Int32.toInt64 p1))) I _ h) k_X7_quotient gw_436 rfl hl.1 rfl (Nat.le_of_ble_eq_true rfl) ⟨⟨rfl, rfl⟩, Nat.le_of_ble_eq_true rfl, Nat.le_of_ble_eq_true rfl⟩ ⟨Nat.zero_le _, Nat.zero_le _⟩ dX2_take_22) (fun r1 I1 H locs h hM => ?_)
  refine lv_l2i hx hb dX2_take_25 rfl ?_
  obtain ⟨I2, eI2⟩ : ∃ z : gx_M, z = up I1 a0 6 (Int64.toInt32 r1) := ⟨_, rfl⟩
  replace h := h I2 eI2
  refine pX2_6 C hM hk0 eI2 gw_294 dX2_take_26 (fun H locs hM => ?_)
  refine lv_aload_n hx hb dX2_take_29 rfl (lv_at hl 0 rfl) ?_
  refine lv_iconst (v := (0 : Int32)) hx hb dX2_take_30 (by decide) ?_
  obtain ⟨I3, eI3⟩ : ∃ z : gx_M, z = up I2 a0 7 (0 : Int32) := ⟨_, rfl⟩
  replace h := h I3 eI3
  refine pX2_7 C hM hk0 eI3 gw_296 dX2_take_31 (fun H locs hM => ?_)
  refine lv_aload_n hx hb dX2_take_34 rfl (lv_at hl 0 rfl) ?_
  refine lv_iconst (v := (0 : Int32)) hx hb dX2_take_35 (by decide) ?_
  obtain ⟨I4, eI4⟩ : ∃ z : gx_M, z = up I3 a0 8 (0 : Int32) := ⟨_, rfl⟩
  replace h := h I4 eI4
  refine pX2_8 C hM hk0 rfl eI4 gw_298 dX2_take_36 (fun H locs hM => ?_)
  refine lv_aload_n hx hb dX2_take_39 rfl (lv_at hl 0 rfl) ?_
  refine lv_aload_n hx hb dX2_take_40 rfl (lv_at hl 1 rfl) ?_
  refine gq_backv C hM (gq_runV (As := [.ref (gx_ad L p0)]) (rest := []) C hM (kX_lt hk0 (by decide)) (cX_2 hk0) rfl (c_X2_findStrains l L a0 hk0 p0 hp0 I4 _ h) k_X2_findStrains gw_439 rfl hl.1 rfl (Nat.le_of_ble_eq_true rfl) ⟨⟨rfl, rfl⟩, Nat.le_of_ble_eq_true rfl, Nat.le_of_ble_eq_true rfl⟩ ⟨Nat.zero_le _, Nat.zero_le _⟩ dX2_take_41) (fun I5 H locs h hM => ?_)
  refine lv_iconst (v := (0 : Int32)) hx hb dX2_take_44 (by decide) ?_
  refine lv_istore_n (lv' := [(3, .int (0 : Int32)), (0, .ref (gx_ad L a0)), (1, .ref (gx_ad L p0)), (2, .int p1)]) hx hb dX2_take_45 rfl hl (by decide) rfl (fun ls hl => ?_)
  obtain ⟨fu, h⟩ := h
  exact tl_X2_take_46 C fu a0 p0 (0 : Int32) (hk0) (hp0) I5 _ _ _ hM (lv_sub hl [1, 2, 0] rfl) h
theorem k_X2_take : gx_kV yX2_take cX2_take 4 none 2 := ⟨⟨gw_433, gw_66, by decide, by decide, by decide +kernel⟩, gw_431, gw_432⟩
abbrev rm_X3_begin : Room := { frames := 0, cells := 0, slots := 0, locals := 0 }
set_option maxHeartbeats 4000000 in
set_option maxRecDepth 100000 in
theorem tl_X3_begin_2 (C : gx_C L 282 p s m args meth c RX3 cX3_begin 3 none) {Q : gx_M → Prop} : ∀ (fu : Nat) (v0 : Nat) (v1 : Nat) (v2 : Int32) (hv0 : kX v0 = 3) (hv1 : kX v1 = 6) (I : gx_M) (H : Heap) (locs : List Loc) (ls : Array Slot), gx_S L 282 (cellX L I) s.heap H locs → lv_has ls 3 [(0, .ref (gx_ad L v0)), (1, .ref (gx_ad L v1)), (2, .int v2)] → wl_X3_begin_2 Q fu v0 v1 v2 I → W p l e rm_X3_begin s m args below meth c H locs 0 0 (MQ below (va_Qv Q (fun I' t => gx_U L 282 (cellX L I') t) (gx_A L)) args s 0 0 (gx_A L)) (F0 m 2 ls []) := by
  have hx := C.1
  have hb := C.2.1
  intro fu
  induction fu with
  | zero => intros; rename_i h; exact False.elim h
  | succ fu ih =>
    intro v0 v1 v2 hv0 hv1 I H locs ls hM hl h
    rw [wl_X3_begin_2] at h
    refine lv_iload_n hx hb dX3_begin_2 rfl (lv_at hl 2 rfl) ?_
    refine lv_bipush (v := (20 : Int32)) hx hb dX3_begin_3 (by decide) ?_
    refine lv_icmp_ge (tgt := 21) hx hb dX3_begin_5 (by decide) (fun hc => ?_) (fun hc => ?_)
    · replace h := h.1 hc
      refine lv_aload_n hx hb dX3_begin_21 rfl (lv_at hl 0 rfl) ?_
      refine lv_iconst (v := (-1 : Int32)) hx hb dX3_begin_22 (by decide) ?_
      obtain ⟨I1, eI1⟩ : ∃ z : gx_M, z = up I v0 1 (-1 : Int32) := ⟨_, rfl⟩
      replace h := h I1 eI1
      refine pX3_1 C hM hv0 eI1 gw_262 dX3_begin_23 (fun H locs hM => ?_)
      refine lv_aload_n hx hb dX3_begin_26 rfl (lv_at hl 0 rfl) ?_
      refine lv_aload_n hx hb dX3_begin_27 rfl (lv_at hl 1 rfl) ?_
      refine gX6_5 C hM hv1 gw_183 dX3_begin_28 ?_
      obtain ⟨I2, eI2⟩ : ∃ z : gx_M, z = up I1 v0 2 (I1 v1 5) := ⟨_, rfl⟩
      replace h := h I2 eI2
      refine pX3_2 C hM hv0 eI2 gw_264 dX3_begin_31 (fun H locs hM => ?_)
      refine lv_aload_n hx hb dX3_begin_34 rfl (lv_at hl 0 rfl) ?_
      refine lv_iconst (v := (0 : Int32)) hx hb dX3_begin_35 (by decide) ?_
      obtain ⟨I3, eI3⟩ : ∃ z : gx_M, z = up I2 v0 3 (0 : Int32) := ⟨_, rfl⟩
      replace h := h I3 eI3
      refine pX3_3 C hM hv0 eI3 gw_265 dX3_begin_36 (fun H locs hM => ?_)
      exact gq_vret C hM h dX3_begin_39
    · replace h := h.2 hc
      refine lv_aload_n hx hb dX3_begin_8 rfl (lv_at hl 0 rfl) ?_
      refine gX3_0 C hM hv0 gw_261 dX3_begin_9 ?_
      refine lv_iload_n hx hb dX3_begin_12 rfl (lv_at hl 2 rfl) ?_
      refine lv_iconst (v := (0 : Int32)) hx hb dX3_begin_13 (by decide) ?_
      have hi := h.1
      replace h := h.2
      obtain ⟨I4, eI4⟩ : ∃ z : gx_M, z = up I (v0 + 1) v2.toNatClampNeg ((0 : Int32) &&& 1) := ⟨_, rfl⟩
      replace h := h I4 eI4
      refine gzastX C hM (kX_3_0 hv0) hi eI4 dX3_begin_14 (fun H locs hM => ?_)
      obtain ⟨x1, ex1⟩ : ∃ z : Int32, z = v2 + (1 : Int32) := ⟨_, rfl⟩
      replace h := h x1 ex1
      refine lv_iinc (v := x1) (lv' := [(2, .int x1), (0, .ref (gx_ad L v0)), (1, .ref (gx_ad L v1))]) hx hb dX3_begin_15 hl (k := 2) rfl (by rw [ex1]; rfl) (by decide) rfl (fun ls hl => ?_)
      refine lv_goto (tgt := 2) hx hb dX3_begin_18 (by decide) ?_
      exact ih v0 v1 x1 (hv0) (hv1) I4 _ _ _ hM (lv_sub hl [1, 2, 0] rfl) h
set_option maxHeartbeats 4000000 in
set_option maxRecDepth 100000 in
theorem c_X3_begin (l : Launch) (L : gx_L) (a0 : Nat) (hk0 : kX a0 = 3) (p0 : Nat) (hp0 : kX p0 = 6) (I : gx_M) (Q : gx_M → Prop) (h : wp_X3_begin a0 p0 I Q) : Met l yX3_begin (gx_w yX3_begin cX3_begin 3 none) rm_X3_begin (va_Pc [.ref (gx_ad L a0), .ref (gx_ad L p0)] (gx_U L 282 (cellX L I))) (va_Qv Q (fun I' t => gx_U L 282 (cellX L I') t) (gx_A L)) 0 0 (gx_A L) := by
  refine gq_enter (by decide) (Nat.le_of_ble_eq_true rfl) (fun p e s m below meth c ls C hM hl => ?_)
  have C : gx_C L 282 p s m _ meth c RX3 cX3_begin 3 none := C
  have hl : lv_has ls 3 [(0, .ref (gx_ad L a0)), (1, .ref (gx_ad L p0))] := hl
  have hx := C.1
  have hb := C.2.1
  unfold wp_X3_begin at h
  refine lv_iconst (v := (0 : Int32)) hx hb dX3_begin_0 (by decide) ?_
  refine lv_istore_n (lv' := [(2, .int (0 : Int32)), (0, .ref (gx_ad L a0)), (1, .ref (gx_ad L p0))]) hx hb dX3_begin_1 rfl hl (by decide) rfl (fun ls hl => ?_)
  obtain ⟨fu, h⟩ := h
  exact tl_X3_begin_2 C fu a0 p0 (0 : Int32) (hk0) (hp0) I _ _ _ hM (lv_sub hl [1, 2, 0] rfl) h
theorem k_X3_begin : gx_kV yX3_begin cX3_begin 3 none 1 := ⟨⟨gw_552, gw_65, by decide, by decide, by decide +kernel⟩, gw_550, gw_551⟩
abbrev rm_X5_at : Room := { frames := 1, cells := 0, slots := 0, locals := 22 }
set_option maxHeartbeats 4000000 in
set_option maxRecDepth 100000 in
theorem c_X5_at (l : Launch) (L : gx_L) (a0 : Nat) (hk0 : kX a0 = 5) (p0 : Int32) (p1 : Int32) (I : gx_M) (Q : Int32 → gx_M → Prop) (h : wp_X5_at a0 p0 p1 I Q) : Met l yX5_at (gx_w yX5_at cX5_at 3 (some .int)) rm_X5_at (va_Pc [.ref (gx_ad L a0), .int p0, .int p1] (gx_U L 282 (cellX L I))) (va_Qi Q (fun I' t => gx_U L 282 (cellX L I') t) (gx_A L)) 0 0 (gx_A L) := by
  refine gq_enter (by decide) (Nat.le_of_ble_eq_true rfl) (fun p e s m below meth c ls C hM hl => ?_)
  have C : gx_C L 282 p s m _ meth c RX5 cX5_at 3 (some .int) := C
  have hl : lv_has ls 3 [(0, .ref (gx_ad L a0)), (1, .int p0), (2, .int p1)] := hl
  have hx := C.1
  have hb := C.2.1
  unfold wp_X5_at at h
  refine lv_iload_n hx hb dX5_at_0 rfl (lv_at hl 1 rfl) ?_
  refine lv_if_lt (tgt := 21) hx hb dX5_at_1 (by decide) (fun hc => ?_) (fun hc => ?_)
  · replace h := h.1 hc
    refine gq_ldc (v := (-1000004 : Int32)) C gw_536 dX5_at_21 ?_
    exact gq_iret C hM h dX5_at_23
  · replace h := h.2 hc
    refine lv_iload_n hx hb dX5_at_4 rfl (lv_at hl 1 rfl) ?_
    refine lv_aload_n hx hb dX5_at_5 rfl (lv_at hl 0 rfl) ?_
    refine gX5_1 C hM hk0 gw_95 dX5_at_6 ?_
    refine lv_icmp_ge (tgt := 21) hx hb dX5_at_9 (by decide) (fun hc => ?_) (fun hc => ?_)
    · replace h := h.1 hc
      refine gq_ldc (v := (-1000004 : Int32)) C gw_536 dX5_at_21 ?_
      exact gq_iret C hM h dX5_at_23
    · replace h := h.2 hc
      refine lv_iload_n hx hb dX5_at_12 rfl (lv_at hl 2 rfl) ?_
      refine lv_iconst (v := (0 : Int32)) hx hb dX5_at_13 (by decide) ?_
      refine lv_iconst (v := (3 : Int32)) hx hb dX5_at_14 (by decide) ?_
      refine gq_backi C hM (gq_runSN (As := [.int p1, .int (0 : Int32), .int (3 : Int32)]) (rest := []) C hM (c_X7_isWithin l L p1 (0 : Int32) (3 : Int32) I _ h) k_X7_isWithin gw_535 rfl hl.1 rfl (Nat.le_of_ble_eq_true rfl) ⟨⟨rfl, rfl⟩, Nat.le_of_ble_eq_true rfl, Nat.le_of_ble_eq_true rfl⟩ ⟨Nat.zero_le _, Nat.zero_le _⟩ dX5_at_15) (fun r1 I1 H locs h hM => ?_)
      obtain ⟨hz1, h⟩ := h
      refine lv_if_ne (tgt := 24) hx hb dX5_at_18 (by decide) (fun hc => ?_) (fun hc => ?_)
      · replace h := h.2 hc
        refine lv_aload_n hx hb dX5_at_24 rfl (lv_at hl 0 rfl) ?_
        refine gX5_0 C hM hk0 gw_94 dX5_at_25 ?_
        refine lv_iload_n hx hb dX5_at_28 rfl (lv_at hl 1 rfl) ?_
        refine lv_iconst (v := (4 : Int32)) hx hb dX5_at_29 (by decide) ?_
        refine lv_imul hx hb dX5_at_30 ?_
        refine lv_iload_n hx hb dX5_at_31 rfl (lv_at hl 2 rfl) ?_
        refine lv_iadd hx hb dX5_at_32 ?_
        refine gialdX C hM (kX_5_0 hk0) h.1 dX5_at_33 ?_
        replace h := h.2
        exact gq_iret C hM h dX5_at_34
      · replace h := h.1 hc
        refine gq_ldc (v := (-1000004 : Int32)) C gw_536 dX5_at_21 ?_
        exact gq_iret C hM h dX5_at_23
theorem k_X5_at : gx_kV yX5_at cX5_at 3 (some .int) 2 := ⟨⟨gw_534, gw_60, by decide, by decide, by decide +kernel⟩, gw_532, gw_533⟩
abbrev rm_X6_find : Room := { frames := 0, cells := 0, slots := 0, locals := 0 }
set_option maxHeartbeats 4000000 in
set_option maxRecDepth 100000 in
theorem c_X6_find (l : Launch) (L : gx_L) (a0 : Nat) (hk0 : kX a0 = 6) (p0 : Int32) (I : gx_M) (Q : Option Nat → gx_M → Prop) (h : wp_X6_find a0 p0 I Q) : Met l yX6_find (gx_w yX6_find cX6_find 2 (some (.object RX4))) rm_X6_find (va_Pc [.ref (gx_ad L a0), .int p0] (gx_U L 282 (cellX L I))) (va_Qe (gx_ad L) (fun r I' => (∀ b, r = some b → kX b = 4) ∧ Q r I') (fun I' t => gx_U L 282 (cellX L I') t) (gx_A L)) 0 0 (gx_A L) := by
  refine gq_enter (by decide) (Nat.le_of_ble_eq_true rfl) (fun p e s m below meth c ls C hM hl => ?_)
  have C : gx_C L 282 p s m _ meth c RX6 cX6_find 2 (some (.object RX4)) := C
  have hl : lv_has ls 2 [(0, .ref (gx_ad L a0)), (1, .int p0)] := hl
  have hx := C.1
  have hb := C.2.1
  unfold wp_X6_find at h
  refine lv_iload_n hx hb dX6_find_0 rfl (lv_at hl 1 rfl) ?_
  refine lv_if_lt (tgt := 21) hx hb dX6_find_1 (by decide) (fun hc => ?_) (fun hc => ?_)
  · replace h := h.1 hc
    refine lv_null hx hb dX6_find_21 ?_
    exact gq_nret C hM ⟨fun b hb => (by cases hb), h⟩ dX6_find_22
  · replace h := h.2 hc
    refine lv_iload_n hx hb dX6_find_4 rfl (lv_at hl 1 rfl) ?_
    refine lv_aload_n hx hb dX6_find_5 rfl (lv_at hl 0 rfl) ?_
    refine gX6_3 C hM hk0 gw_179 dX6_find_6 ?_
    refine lv_icmp_ge (tgt := 21) hx hb dX6_find_9 (by decide) (fun hc => ?_) (fun hc => ?_)
    · replace h := h.1 hc
      refine lv_null hx hb dX6_find_21 ?_
      exact gq_nret C hM ⟨fun b hb => (by cases hb), h⟩ dX6_find_22
    · replace h := h.2 hc
      refine lv_iload_n hx hb dX6_find_12 rfl (lv_at hl 1 rfl) ?_
      refine lv_aload_n hx hb dX6_find_13 rfl (lv_at hl 0 rfl) ?_
      refine gX6_0 C hM hk0 gw_172 dX6_find_14 ?_
      refine galenX_23 C hM (kX_6_0 hk0) dX6_find_17 ?_
      refine lv_icmp_lt (tgt := 23) hx hb dX6_find_18 (by decide) (fun hc => ?_) (fun hc => ?_)
      · replace h := h.1 hc
        refine lv_aload_n hx hb dX6_find_23 rfl (lv_at hl 0 rfl) ?_
        refine gX6_0 C hM hk0 gw_172 dX6_find_24 ?_
        refine lv_iload_n hx hb dX6_find_27 rfl (lv_at hl 1 rfl) ?_
        have hi := h.1
        replace h := h.2
        refine gaald_23 C hM (kX_6_0 hk0) hi dX6_find_28 ?_
        have hk1 := kX_23 (kX_6_0 hk0) (Nat.not_le.mp fun q => hi (Or.inr q))
        exact gq_aret C hM ⟨fun b hb => (by cases hb; exact hk1), h⟩ dX6_find_29
      · replace h := h.2 hc
        refine lv_null hx hb dX6_find_21 ?_
        exact gq_nret C hM ⟨fun b hb => (by cases hb), h⟩ dX6_find_22
theorem k_X6_find : gx_kV yX6_find cX6_find 2 (some (.object RX4)) 1 := ⟨⟨gw_392, gw_59, by decide, by decide, by decide +kernel⟩, gw_390, gw_391⟩
abbrev rm_X6_placeOf : Room := { frames := 1, cells := 0, slots := 0, locals := 21 }
set_option maxHeartbeats 4000000 in
set_option maxRecDepth 100000 in
theorem c_X6_placeOf (l : Launch) (L : gx_L) (a0 : Nat) (hk0 : kX a0 = 6) (p0 : Int32) (I : gx_M) (Q : Int32 → gx_M → Prop) (h : wp_X6_placeOf a0 p0 I Q) : Met l yX6_placeOf (gx_w yX6_placeOf cX6_placeOf 3 (some .int)) rm_X6_placeOf (va_Pc [.ref (gx_ad L a0), .int p0] (gx_U L 282 (cellX L I))) (va_Qi Q (fun I' t => gx_U L 282 (cellX L I') t) (gx_A L)) 0 0 (gx_A L) := by
  refine gq_enter (by decide) (Nat.le_of_ble_eq_true rfl) (fun p e s m below meth c ls C hM hl => ?_)
  have C : gx_C L 282 p s m _ meth c RX6 cX6_placeOf 3 (some .int) := C
  have hl : lv_has ls 3 [(0, .ref (gx_ad L a0)), (1, .int p0)] := hl
  have hx := C.1
  have hb := C.2.1
  unfold wp_X6_placeOf at h
  refine lv_aload_n hx hb dX6_placeOf_0 rfl (lv_at hl 0 rfl) ?_
  refine lv_iload_n hx hb dX6_placeOf_1 rfl (lv_at hl 1 rfl) ?_
  refine gq_backe C hM (gq_runV (As := [.int p0]) (rest := []) C hM (kX_lt hk0 (by decide)) (cX_6 hk0) rfl (c_X6_find l L a0 hk0 p0 I _ h) k_X6_find gw_389 rfl hl.1 rfl (Nat.le_of_ble_eq_true rfl) ⟨⟨rfl, rfl⟩, Nat.le_of_ble_eq_true rfl, Nat.le_of_ble_eq_true rfl⟩ ⟨Nat.zero_le _, Nat.zero_le _⟩ dX6_placeOf_2) (fun r1 I1 H locs h hM => ?_)
  obtain ⟨hk1, h⟩ := h
  rcases r1 with _ | b1
  · replace h := h.1 rfl
    refine W.eq (g2 := F0 m 5 ls [.null]) rfl ?_
    refine lv_astore_nN (lv' := [(2, .null), (0, .ref (gx_ad L a0)), (1, .int p0)]) hx hb dX6_placeOf_5 rfl hl (by decide) rfl (fun ls hl => ?_)
    refine lv_aload_nN hx hb dX6_placeOf_6 rfl (lv_at hl 0 rfl) ?_
    refine lv_ifnonnullN hx hb dX6_placeOf_7 ?_
    refine lv_iconst (v := (0 : Int32)) hx hb dX6_placeOf_10 (by decide) ?_
    refine lv_goto (tgt := 18) hx hb dX6_placeOf_11 (by decide) ?_
    exact gq_iret C hM h dX6_placeOf_18
  · have hk := hk1 b1 rfl
    replace h := h.2 b1 rfl hk
    have hk2 := hk
    refine W.eq (g2 := F0 m 5 ls [.ref (gx_ad L b1)]) rfl ?_
    refine lv_astore_n (lv' := [(2, .ref (gx_ad L b1)), (0, .ref (gx_ad L a0)), (1, .int p0)]) hx hb dX6_placeOf_5 rfl hl (by decide) rfl (fun ls hl => ?_)
    refine lv_aload_n hx hb dX6_placeOf_6 rfl (lv_at hl 0 rfl) ?_
    refine lv_ifnonnull (tgt := 14) hx hb dX6_placeOf_7 (by decide) ?_
    refine lv_aload_n hx hb dX6_placeOf_14 rfl (lv_at hl 0 rfl) ?_
    refine gX4_0 C hM hk2 gw_112 dX6_placeOf_15 ?_
    exact gq_iret C hM h dX6_placeOf_18
theorem k_X6_placeOf : gx_kV yX6_placeOf cX6_placeOf 3 (some .int) 1 := ⟨⟨gw_388, gw_59, by decide, by decide, by decide +kernel⟩, gw_386, gw_387⟩
abbrev rm_X3_distance : Room := { frames := 2, cells := 0, slots := 0, locals := 44 }
set_option maxHeartbeats 4000000 in
set_option maxRecDepth 100000 in
theorem c_X3_distance (l : Launch) (L : gx_L) (a0 : Nat) (hk0 : kX a0 = 3) (p0 : Nat) (hp0 : kX p0 = 6) (p1 : Int32) (I : gx_M) (Q : Int32 → gx_M → Prop) (h : wp_X3_distance a0 p0 p1 I Q) : Met l yX3_distance (gx_w yX3_distance cX3_distance 3 (some .int)) rm_X3_distance (va_Pc [.ref (gx_ad L a0), .ref (gx_ad L p0), .int p1] (gx_U L 282 (cellX L I))) (va_Qi Q (fun I' t => gx_U L 282 (cellX L I') t) (gx_A L)) 0 0 (gx_A L) := by
  refine gq_enter (by decide) (Nat.le_of_ble_eq_true rfl) (fun p e s m below meth c ls C hM hl => ?_)
  have C : gx_C L 282 p s m _ meth c RX3 cX3_distance 3 (some .int) := C
  have hl : lv_has ls 3 [(0, .ref (gx_ad L a0)), (1, .ref (gx_ad L p0)), (2, .int p1)] := hl
  have hx := C.1
  have hb := C.2.1
  unfold wp_X3_distance at h
  refine lv_aload_n hx hb dX3_distance_0 rfl (lv_at hl 1 rfl) ?_
  refine lv_aload_n hx hb dX3_distance_1 rfl (lv_at hl 1 rfl) ?_
  refine gX6_1 C hM hp0 gw_175 dX3_distance_2 ?_
  refine lv_iload_n hx hb dX3_distance_5 rfl (lv_at hl 2 rfl) ?_
  refine lv_iconst (v := (2 : Int32)) hx hb dX3_distance_6 (by decide) ?_
  refine gq_backi C hM (gq_runV (As := [.int p1, .int (2 : Int32)]) (rest := [.ref (gx_ad L p0)]) C hM (kX_lt (kX_6_1 hp0) (by decide)) (cX_5 (kX_6_1 hp0)) rfl (c_X5_at l L (p0 + 2) (kX_6_1 hp0) p1 (2 : Int32) I _ h) k_X5_at gw_561 rfl hl.1 rfl (Nat.le_of_ble_eq_true rfl) ⟨⟨rfl, rfl⟩, Nat.le_of_ble_eq_true rfl, Nat.le_of_ble_eq_true rfl⟩ ⟨Nat.zero_le _, Nat.zero_le _⟩ dX3_distance_7) (fun r1 I1 H locs h hM => ?_)
  refine gq_backi C hM (gq_runV (As := [.int r1]) (rest := []) C hM (kX_lt hp0 (by decide)) (cX_6 hp0) rfl (c_X6_placeOf l L p0 hp0 r1 I1 _ h) k_X6_placeOf gw_566 rfl hl.1 rfl (Nat.le_of_ble_eq_true rfl) ⟨⟨rfl, rfl⟩, Nat.le_of_ble_eq_true rfl, Nat.le_of_ble_eq_true rfl⟩ ⟨Nat.zero_le _, Nat.zero_le _⟩ dX3_distance_10) (fun r2 I2 H locs h hM => ?_)
  refine lv_aload_n hx hb dX3_distance_13 rfl (lv_at hl 0 rfl) ?_
  refine gX3_2 C hM hk0 gw_264 dX3_distance_14 ?_
  refine lv_isub hx hb dX3_distance_17 ?_
  refine gq_abs C hl.1 gw_567 gw_568 gw_61 gw_569 (Nat.le_of_ble_eq_true rfl) (Nat.le_of_ble_eq_true rfl) (Nat.zero_le _) (Nat.zero_le _) dX3_distance_18 ?_
  exact gq_iret C hM h dX3_distance_21
theorem k_X3_distance : gx_kV yX3_distance cX3_distance 3 (some .int) 2 := ⟨⟨gw_565, gw_65, by decide, by decide, by decide +kernel⟩, gw_564, gw_8⟩
abbrev rm_X3_isAhead : Room := { frames := 3, cells := 0, slots := 0, locals := 66 }
set_option maxHeartbeats 4000000 in
set_option maxRecDepth 100000 in
theorem c_X3_isAhead (l : Launch) (L : gx_L) (a0 : Nat) (hk0 : kX a0 = 3) (p0 : Nat) (hp0 : kX p0 = 6) (p1 : Int32) (p2 : Int32) (I : gx_M) (Q : Int32 → gx_M → Prop) (h : wp_X3_isAhead a0 p0 p1 p2 I Q) : Met l yX3_isAhead (gx_w yX3_isAhead cX3_isAhead 7 (some .boolean)) rm_X3_isAhead (va_Pc [.ref (gx_ad L a0), .ref (gx_ad L p0), .int p1, .int p2] (gx_U L 282 (cellX L I))) (va_Qi (fun r I' => r &&& 1 = r ∧ Q r I') (fun I' t => gx_U L 282 (cellX L I') t) (gx_A L)) 0 0 (gx_A L) := by
  refine gq_enter (by decide) (Nat.le_of_ble_eq_true rfl) (fun p e s m below meth c ls C hM hl => ?_)
  have C : gx_C L 282 p s m _ meth c RX3 cX3_isAhead 7 (some .boolean) := C
  have hl : lv_has ls 7 [(0, .ref (gx_ad L a0)), (1, .ref (gx_ad L p0)), (2, .int p1), (3, .int p2)] := hl
  have hx := C.1
  have hb := C.2.1
  unfold wp_X3_isAhead at h
  refine lv_aload_n hx hb dX3_isAhead_0 rfl (lv_at hl 1 rfl) ?_
  refine gX6_1 C hM hp0 gw_175 dX3_isAhead_1 ?_
  refine lv_astore (lv' := [(4, .ref (gx_ad L (p0 + 2))), (0, .ref (gx_ad L a0)), (1, .ref (gx_ad L p0)), (2, .int p1), (3, .int p2)]) hx hb dX3_isAhead_4 hl (by decide) rfl (fun ls hl => ?_)
  refine lv_aload hx hb dX3_isAhead_6 (lv_at hl 0 rfl) ?_
  refine lv_iload_n hx hb dX3_isAhead_8 rfl (lv_at hl 3 rfl) ?_
  refine lv_iconst (v := (3 : Int32)) hx hb dX3_isAhead_9 (by decide) ?_
  refine gq_backi C hM (gq_runV (As := [.int p1, .int (3 : Int32)]) (rest := []) C hM (kX_lt (kX_6_1 hp0) (by decide)) (cX_5 (kX_6_1 hp0)) rfl (c_X5_at l L (p0 + 2) (kX_6_1 hp0) p1 (3 : Int32) I _ h) k_X5_at gw_561 rfl hl.1 rfl (Nat.le_of_ble_eq_true rfl) ⟨⟨rfl, rfl⟩, Nat.le_of_ble_eq_true rfl, Nat.le_of_ble_eq_true rfl⟩ ⟨Nat.zero_le _, Nat.zero_le _⟩ dX3_isAhead_10) (fun r1 I1 H locs h hM => ?_)
  refine lv_aload hx hb dX3_isAhead_13 (lv_at hl 0 rfl) ?_
  refine lv_iload_n hx hb dX3_isAhead_15 rfl (lv_at hl 4 rfl) ?_
  refine lv_iconst (v := (3 : Int32)) hx hb dX3_isAhead_16 (by decide) ?_
  refine gq_backi C hM (gq_runV (As := [.int p2, .int (3 : Int32)]) (rest := [.int r1]) C hM (kX_lt (kX_6_1 hp0) (by decide)) (cX_5 (kX_6_1 hp0)) rfl (c_X5_at l L (p0 + 2) (kX_6_1 hp0) p2 (3 : Int32) I1 _ h) k_X5_at gw_561 rfl hl.1 rfl (Nat.le_of_ble_eq_true rfl) ⟨⟨rfl, rfl⟩, Nat.le_of_ble_eq_true rfl, Nat.le_of_ble_eq_true rfl⟩ ⟨Nat.zero_le _, Nat.zero_le _⟩ dX3_isAhead_17) (fun r2 I2 H locs h hM => ?_)
  refine lv_isub hx hb dX3_isAhead_20 ?_
  refine lv_topi (fun x1 ex1 => ?_)
  replace h := h x1 ex1
  refine lv_istore (lv' := [(5, .int x1), (4, .ref (gx_ad L (p0 + 2))), (0, .ref (gx_ad L a0)), (1, .ref (gx_ad L p0)), (2, .int p1), (3, .int p2)]) hx hb dX3_isAhead_21 hl (by decide) rfl (fun ls hl => ?_)
  refine lv_iload hx hb dX3_isAhead_23 (lv_at hl 0 rfl) ?_
  refine lv_if_eq (tgt := 39) hx hb dX3_isAhead_25 (by decide) (fun hc => ?_) (fun hc => ?_)
  · replace h := h.1 hc
    refine lv_aload_n hx hb dX3_isAhead_39 rfl (lv_at hl 2 rfl) ?_
    refine lv_aload_n hx hb dX3_isAhead_40 rfl (lv_at hl 3 rfl) ?_
    refine lv_iload_n hx hb dX3_isAhead_41 rfl (lv_at hl 4 rfl) ?_
    refine gq_backi C hM (gq_runV (As := [.ref (gx_ad L p0), .int p1]) (rest := []) C hM (kX_lt hk0 (by decide)) (cX_3 hk0) rfl (c_X3_distance l L a0 hk0 p0 hp0 p1 I2 _ h) k_X3_distance gw_562 rfl hl.1 rfl (Nat.le_of_ble_eq_true rfl) ⟨⟨rfl, rfl⟩, Nat.le_of_ble_eq_true rfl, Nat.le_of_ble_eq_true rfl⟩ ⟨Nat.zero_le _, Nat.zero_le _⟩ dX3_isAhead_42) (fun r3 I3 H locs h hM => ?_)
    refine lv_aload_n hx hb dX3_isAhead_45 rfl (lv_at hl 2 rfl) ?_
    refine lv_aload_n hx hb dX3_isAhead_46 rfl (lv_at hl 3 rfl) ?_
    refine lv_iload_n hx hb dX3_isAhead_47 rfl (lv_at hl 5 rfl) ?_
    refine gq_backi C hM (gq_runV (As := [.ref (gx_ad L p0), .int p2]) (rest := [.int r3]) C hM (kX_lt hk0 (by decide)) (cX_3 hk0) rfl (c_X3_distance l L a0 hk0 p0 hp0 p2 I3 _ h) k_X3_distance gw_562 rfl hl.1 rfl (Nat.le_of_ble_eq_true rfl) ⟨⟨rfl, rfl⟩, Nat.le_of_ble_eq_true rfl, Nat.le_of_ble_eq_true rfl⟩ ⟨Nat.zero_le _, Nat.zero_le _⟩ dX3_isAhead_48) (fun r4 I4 H locs h hM => ?_)
    refine lv_isub hx hb dX3_isAhead_51 ?_
    refine lv_topi (fun x2 ex2 => ?_)
    replace h := h x2 ex2
    refine lv_istore (lv' := [(6, .int x2), (5, .int x1), (4, .ref (gx_ad L (p0 + 2))), (0, .ref (gx_ad L a0)), (1, .ref (gx_ad L p0)), (2, .int p1), (3, .int p2)]) hx hb dX3_isAhead_52 hl (by decide) rfl (fun ls hl => ?_)
    refine lv_iload hx hb dX3_isAhead_54 (lv_at hl 0 rfl) ?_
    refine lv_if_eq (tgt := 70) hx hb dX3_isAhead_56 (by decide) (fun hc => ?_) (fun hc => ?_)
    · replace h := h.1 hc
      refine lv_aload hx hb dX3_isAhead_70 (lv_at hl 2 rfl) ?_
      refine lv_iload_n hx hb dX3_isAhead_72 rfl (lv_at hl 5 rfl) ?_
      refine lv_iconst (v := (0 : Int32)) hx hb dX3_isAhead_73 (by decide) ?_
      refine gq_backi C hM (gq_runV (As := [.int p1, .int (0 : Int32)]) (rest := []) C hM (kX_lt (kX_6_1 hp0) (by decide)) (cX_5 (kX_6_1 hp0)) rfl (c_X5_at l L (p0 + 2) (kX_6_1 hp0) p1 (0 : Int32) I4 _ h) k_X5_at gw_561 rfl hl.1 rfl (Nat.le_of_ble_eq_true rfl) ⟨⟨rfl, rfl⟩, Nat.le_of_ble_eq_true rfl, Nat.le_of_ble_eq_true rfl⟩ ⟨Nat.zero_le _, Nat.zero_le _⟩ dX3_isAhead_74) (fun r5 I5 H locs h hM => ?_)
      refine lv_aload hx hb dX3_isAhead_77 (lv_at hl 2 rfl) ?_
      refine lv_iload_n hx hb dX3_isAhead_79 rfl (lv_at hl 6 rfl) ?_
      refine lv_iconst (v := (0 : Int32)) hx hb dX3_isAhead_80 (by decide) ?_
      refine gq_backi C hM (gq_runV (As := [.int p2, .int (0 : Int32)]) (rest := [.int r5]) C hM (kX_lt (kX_6_1 hp0) (by decide)) (cX_5 (kX_6_1 hp0)) rfl (c_X5_at l L (p0 + 2) (kX_6_1 hp0) p2 (0 : Int32) I5 _ h) k_X5_at gw_561 rfl hl.1 rfl (Nat.le_of_ble_eq_true rfl) ⟨⟨rfl, rfl⟩, Nat.le_of_ble_eq_true rfl, Nat.le_of_ble_eq_true rfl⟩ ⟨Nat.zero_le _, Nat.zero_le _⟩ dX3_isAhead_81) (fun r6 I6 H locs h hM => ?_)
      refine lv_icmp_ge (tgt := 91) hx hb dX3_isAhead_84 (by decide) (fun hc => ?_) (fun hc => ?_)
      · replace h := h.1 hc
        refine lv_iconst (v := (0 : Int32)) hx hb dX3_isAhead_91 (by decide) ?_
        exact gq_zret C hM ⟨rfl, h⟩ (rfl) dX3_isAhead_92
      · replace h := h.2 hc
        refine lv_iconst (v := (1 : Int32)) hx hb dX3_isAhead_87 (by decide) ?_
        refine lv_goto (tgt := 92) hx hb dX3_isAhead_88 (by decide) ?_
        exact gq_zret C hM ⟨rfl, h⟩ (rfl) dX3_isAhead_92
    · replace h := h.2 hc
      refine lv_iload hx hb dX3_isAhead_59 (lv_at hl 0 rfl) ?_
      refine lv_if_ge (tgt := 68) hx hb dX3_isAhead_61 (by decide) (fun hc => ?_) (fun hc => ?_)
      · replace h := h.1 hc
        refine lv_iconst (v := (0 : Int32)) hx hb dX3_isAhead_68 (by decide) ?_
        exact gq_zret C hM ⟨rfl, h⟩ (rfl) dX3_isAhead_69
      · replace h := h.2 hc
        refine lv_iconst (v := (1 : Int32)) hx hb dX3_isAhead_64 (by decide) ?_
        refine lv_goto (tgt := 69) hx hb dX3_isAhead_65 (by decide) ?_
        exact gq_zret C hM ⟨rfl, h⟩ (rfl) dX3_isAhead_69
  · replace h := h.2 hc
    refine lv_iload hx hb dX3_isAhead_28 (lv_at hl 0 rfl) ?_
    refine lv_if_le (tgt := 37) hx hb dX3_isAhead_30 (by decide) (fun hc => ?_) (fun hc => ?_)
    · replace h := h.1 hc
      refine lv_iconst (v := (0 : Int32)) hx hb dX3_isAhead_37 (by decide) ?_
      exact gq_zret C hM ⟨rfl, h⟩ (rfl) dX3_isAhead_38
    · replace h := h.2 hc
      refine lv_iconst (v := (1 : Int32)) hx hb dX3_isAhead_33 (by decide) ?_
      refine lv_goto (tgt := 38) hx hb dX3_isAhead_34 (by decide) ?_
      exact gq_zret C hM ⟨rfl, h⟩ (rfl) dX3_isAhead_38
theorem k_X3_isAhead : gx_kV yX3_isAhead cX3_isAhead 7 (some .boolean) 3 := ⟨⟨gw_560, gw_65, by decide, by decide, by decide +kernel⟩, gw_559, gw_7⟩
abbrev rm_X3_goOn : Room := { frames := 4, cells := 0, slots := 0, locals := 92 }
set_option maxHeartbeats 4000000 in
set_option maxRecDepth 100000 in
theorem tj_X3_goOn_58 (C : gx_C L 282 p s m args meth c RX3 cX3_goOn 3 none) {Q : gx_M → Prop} {K7 : Nat → Nat → Int32 → gx_M → Prop} (hK7 : ∀ (v0 : Nat) (v1 : Nat) (v2 : Int32) (hv0 : kX v0 = 3) (hv1 : kX v1 = 6) (I : gx_M) (H : Heap) (locs : List Loc) (ls : Array Slot), gx_S L 282 (cellX L I) s.heap H locs → lv_has ls 3 [(0, .ref (gx_ad L v0)), (1, .ref (gx_ad L v1)), (2, .int v2)] → K7 v0 v1 v2 I → W p l e rm_X3_goOn s m args below meth c H locs 0 0 (MQ below (va_Qv Q (fun I' t => gx_U L 282 (cellX L I') t) (gx_A L)) args s 0 0 (gx_A L)) (F0 m 7 ls [])) : ∀ (v0 : Nat) (v1 : Nat) (v2 : Int32) (hv0 : kX v0 = 3) (hv1 : kX v1 = 6) (I : gx_M) (H : Heap) (locs : List Loc) (ls : Array Slot), gx_S L 282 (cellX L I) s.heap H locs → lv_has ls 3 [(0, .ref (gx_ad L v0)), (1, .ref (gx_ad L v1)), (2, .int v2)] → wj_X3_goOn_58 Q K7 v0 v1 v2 I → W p l e rm_X3_goOn s m args below meth c H locs 0 0 (MQ below (va_Qv Q (fun I' t => gx_U L 282 (cellX L I') t) (gx_A L)) args s 0 0 (gx_A L)) (F0 m 58 ls []) := by
  have hx := C.1
  have hb := C.2.1
  intro v0 v1 v2 hv0 hv1 I H locs ls hM hl h
  unfold wj_X3_goOn_58 at h
  obtain ⟨x1, ex1⟩ : ∃ z : Int32, z = v2 + (1 : Int32) := ⟨_, rfl⟩
  replace h := h x1 ex1
  refine lv_iinc (v := x1) (lv' := [(2, .int x1), (0, .ref (gx_ad L v0)), (1, .ref (gx_ad L v1))]) hx hb dX3_goOn_58 hl (k := 2) rfl (by rw [ex1]; rfl) (by decide) rfl (fun ls hl => ?_)
  refine lv_goto (tgt := 7) hx hb dX3_goOn_61 (by decide) ?_
  exact hK7 v0 v1 x1 (hv0) (hv1) I _ _ _ hM (lv_sub hl [1, 2, 0] rfl) h
set_option maxHeartbeats 4000000 in
set_option maxRecDepth 100000 in
theorem tj_X3_goOn_53 (C : gx_C L 282 p s m args meth c RX3 cX3_goOn 3 none) {Q : gx_M → Prop} {K7 : Nat → Nat → Int32 → gx_M → Prop} (hK7 : ∀ (v0 : Nat) (v1 : Nat) (v2 : Int32) (hv0 : kX v0 = 3) (hv1 : kX v1 = 6) (I : gx_M) (H : Heap) (locs : List Loc) (ls : Array Slot), gx_S L 282 (cellX L I) s.heap H locs → lv_has ls 3 [(0, .ref (gx_ad L v0)), (1, .ref (gx_ad L v1)), (2, .int v2)] → K7 v0 v1 v2 I → W p l e rm_X3_goOn s m args below meth c H locs 0 0 (MQ below (va_Qv Q (fun I' t => gx_U L 282 (cellX L I') t) (gx_A L)) args s 0 0 (gx_A L)) (F0 m 7 ls [])) : ∀ (v0 : Nat) (v1 : Nat) (v2 : Int32) (hv0 : kX v0 = 3) (hv1 : kX v1 = 6) (I : gx_M) (H : Heap) (locs : List Loc) (ls : Array Slot), gx_S L 282 (cellX L I) s.heap H locs → lv_has ls 3 [(0, .ref (gx_ad L v0)), (1, .ref (gx_ad L v1)), (2, .int v2)] → wj_X3_goOn_53 Q K7 v0 v1 v2 I → W p l e rm_X3_goOn s m args below meth c H locs 0 0 (MQ below (va_Qv Q (fun I' t => gx_U L 282 (cellX L I') t) (gx_A L)) args s 0 0 (gx_A L)) (F0 m 53 ls []) := by
  have hx := C.1
  have hb := C.2.1
  intro v0 v1 v2 hv0 hv1 I H locs ls hM hl h
  unfold wj_X3_goOn_53 at h
  refine lv_aload_n hx hb dX3_goOn_53 rfl (lv_at hl 0 rfl) ?_
  refine lv_iload_n hx hb dX3_goOn_54 rfl (lv_at hl 2 rfl) ?_
  obtain ⟨I1, eI1⟩ : ∃ z : gx_M, z = up I v0 1 v2 := ⟨_, rfl⟩
  replace h := h I1 eI1
  refine pX3_1 C hM hv0 eI1 gw_262 dX3_goOn_55 (fun H locs hM => ?_)
  exact tj_X3_goOn_58 C hK7 v0 v1 v2 (hv0) (hv1) I1 _ _ _ hM (lv_sub hl [0, 1, 2] rfl) h
set_option maxHeartbeats 4000000 in
set_option maxRecDepth 100000 in
theorem tj_X3_goOn_64 (C : gx_C L 282 p s m args meth c RX3 cX3_goOn 3 none) {Q : gx_M → Prop} : ∀ (v0 : Nat) (v1 : Nat) (hv0 : kX v0 = 3) (hv1 : kX v1 = 6) (I : gx_M) (H : Heap) (locs : List Loc) (ls : Array Slot), gx_S L 282 (cellX L I) s.heap H locs → lv_has ls 3 [(0, .ref (gx_ad L v0)), (1, .ref (gx_ad L v1))] → wj_X3_goOn_64 Q v0 v1 I → W p l e rm_X3_goOn s m args below meth c H locs 0 0 (MQ below (va_Qv Q (fun I' t => gx_U L 282 (cellX L I') t) (gx_A L)) args s 0 0 (gx_A L)) (F0 m 64 ls []) := by
  have hx := C.1
  have hb := C.2.1
  intro v0 v1 hv0 hv1 I H locs ls hM hl h
  unfold wj_X3_goOn_64 at h
  refine lv_aload_n hx hb dX3_goOn_64 rfl (lv_at hl 0 rfl) ?_
  refine gX3_1 C hM hv0 gw_262 dX3_goOn_65 ?_
  refine lv_if_lt (tgt := 121) hx hb dX3_goOn_68 (by decide) (fun hc => ?_) (fun hc => ?_)
  · replace h := h.1 hc
    exact gq_vret C hM h dX3_goOn_121
  · replace h := h.2 hc
    refine lv_aload_n hx hb dX3_goOn_71 rfl (lv_at hl 0 rfl) ?_
    refine gX3_0 C hM hv0 gw_261 dX3_goOn_72 ?_
    refine lv_aload_n hx hb dX3_goOn_75 rfl (lv_at hl 0 rfl) ?_
    refine gX3_1 C hM hv0 gw_262 dX3_goOn_76 ?_
    refine lv_iconst (v := (1 : Int32)) hx hb dX3_goOn_79 (by decide) ?_
    have hi := h.1
    replace h := h.2
    obtain ⟨I1, eI1⟩ : ∃ z : gx_M, z = up I (v0 + 1) (I v0 1).toNatClampNeg ((1 : Int32) &&& 1) := ⟨_, rfl⟩
    replace h := h I1 eI1
    refine gzastX C hM (kX_3_0 hv0) hi eI1 dX3_goOn_80 (fun H locs hM => ?_)
    refine lv_aload_n hx hb dX3_goOn_81 rfl (lv_at hl 1 rfl) ?_
    refine lv_aload_n hx hb dX3_goOn_82 rfl (lv_at hl 1 rfl) ?_
    refine gX6_1 C hM hv1 gw_175 dX3_goOn_83 ?_
    refine lv_aload_n hx hb dX3_goOn_86 rfl (lv_at hl 0 rfl) ?_
    refine gX3_1 C hM hv0 gw_262 dX3_goOn_87 ?_
    refine lv_iconst (v := (2 : Int32)) hx hb dX3_goOn_90 (by decide) ?_
    refine gq_backi C hM (gq_runV (As := [.int (I1 v0 1), .int (2 : Int32)]) (rest := [.ref (gx_ad L v1)]) C hM (kX_lt (kX_6_1 hv1) (by decide)) (cX_5 (kX_6_1 hv1)) rfl (c_X5_at l L (v1 + 2) (kX_6_1 hv1) (I1 v0 1) (2 : Int32) I1 _ h) k_X5_at gw_561 rfl hl.1 rfl (Nat.le_of_ble_eq_true rfl) ⟨⟨rfl, rfl⟩, Nat.le_of_ble_eq_true rfl, Nat.le_of_ble_eq_true rfl⟩ ⟨Nat.zero_le _, Nat.zero_le _⟩ dX3_goOn_91) (fun r1 I2 H locs h hM => ?_)
    refine gq_backi C hM (gq_runV (As := [.int r1]) (rest := []) C hM (kX_lt hv1 (by decide)) (cX_6 hv1) rfl (c_X6_placeOf l L v1 hv1 r1 I2 _ h) k_X6_placeOf gw_566 rfl hl.1 rfl (Nat.le_of_ble_eq_true rfl) ⟨⟨rfl, rfl⟩, Nat.le_of_ble_eq_true rfl, Nat.le_of_ble_eq_true rfl⟩ ⟨Nat.zero_le _, Nat.zero_le _⟩ dX3_goOn_94) (fun r2 I3 H locs h hM => ?_)
    refine lv_istore_n (lv' := [(2, .int r2), (0, .ref (gx_ad L v0)), (1, .ref (gx_ad L v1))]) hx hb dX3_goOn_97 rfl hl (by decide) rfl (fun ls hl => ?_)
    refine lv_aload_n hx hb dX3_goOn_98 rfl (lv_at hl 1 rfl) ?_
    refine lv_dup hx hb dX3_goOn_99 rfl ?_
    refine gX3_3 C hM hv0 gw_265 dX3_goOn_100 ?_
    refine lv_iload_n hx hb dX3_goOn_103 rfl (lv_at hl 0 rfl) ?_
    refine lv_aload_n hx hb dX3_goOn_104 rfl (lv_at hl 1 rfl) ?_
    refine gX3_2 C hM hv0 gw_264 dX3_goOn_105 ?_
    refine lv_isub hx hb dX3_goOn_108 ?_
    refine gq_abs C hl.1 gw_567 gw_568 gw_61 gw_569 (Nat.le_of_ble_eq_true rfl) (Nat.le_of_ble_eq_true rfl) (Nat.zero_le _) (Nat.zero_le _) dX3_goOn_109 ?_
    refine lv_iadd hx hb dX3_goOn_112 ?_
    obtain ⟨I4, eI4⟩ : ∃ z : gx_M, z = up I3 v0 3 ((I3 v0 3) + (if 0 ≤ (r2 - (I3 v0 2)) then (r2 - (I3 v0 2)) else 0 - (r2 - (I3 v0 2)))) := ⟨_, rfl⟩
    replace h := h I4 eI4
    refine pX3_3 C hM hv0 eI4 gw_265 dX3_goOn_113 (fun H locs hM => ?_)
    refine lv_aload_n hx hb dX3_goOn_116 rfl (lv_at hl 1 rfl) ?_
    refine lv_iload_n hx hb dX3_goOn_117 rfl (lv_at hl 0 rfl) ?_
    obtain ⟨I5, eI5⟩ : ∃ z : gx_M, z = up I4 v0 2 r2 := ⟨_, rfl⟩
    replace h := h I5 eI5
    refine pX3_2 C hM hv0 eI5 gw_264 dX3_goOn_118 (fun H locs hM => ?_)
    exact gq_vret C hM h dX3_goOn_121
set_option maxHeartbeats 4000000 in
set_option maxRecDepth 100000 in
theorem tl_X3_goOn_7 (C : gx_C L 282 p s m args meth c RX3 cX3_goOn 3 none) {Q : gx_M → Prop} : ∀ (fu : Nat) (v0 : Nat) (v1 : Nat) (v2 : Int32) (hv0 : kX v0 = 3) (hv1 : kX v1 = 6) (I : gx_M) (H : Heap) (locs : List Loc) (ls : Array Slot), gx_S L 282 (cellX L I) s.heap H locs → lv_has ls 3 [(0, .ref (gx_ad L v0)), (1, .ref (gx_ad L v1)), (2, .int v2)] → wl_X3_goOn_7 Q fu v0 v1 v2 I → W p l e rm_X3_goOn s m args below meth c H locs 0 0 (MQ below (va_Qv Q (fun I' t => gx_U L 282 (cellX L I') t) (gx_A L)) args s 0 0 (gx_A L)) (F0 m 7 ls []) := by
  have hx := C.1
  have hb := C.2.1
  intro fu
  induction fu with
  | zero => intros; rename_i h; exact False.elim h
  | succ fu ih =>
    intro v0 v1 v2 hv0 hv1 I H locs ls hM hl h
    rw [wl_X3_goOn_7] at h
    refine lv_iload_n hx hb dX3_goOn_7 rfl (lv_at hl 2 rfl) ?_
    refine lv_aload_n hx hb dX3_goOn_8 rfl (lv_at hl 1 rfl) ?_
    refine gX6_1 C hM hv1 gw_175 dX3_goOn_9 ?_
    refine gX5_1 C hM (kX_6_1 hv1) gw_97 dX3_goOn_12 ?_
    refine lv_icmp_ge (tgt := 64) hx hb dX3_goOn_15 (by decide) (fun hc => ?_) (fun hc => ?_)
    · replace h := h.1 hc
      exact tj_X3_goOn_64 C v0 v1 (hv0) (hv1) I _ _ _ hM (lv_sub hl [0, 1] rfl) h
    · replace h := h.2 hc
      refine lv_iload_n hx hb dX3_goOn_18 rfl (lv_at hl 2 rfl) ?_
      refine lv_bipush (v := (20 : Int32)) hx hb dX3_goOn_19 (by decide) ?_
      refine lv_icmp_ge (tgt := 64) hx hb dX3_goOn_21 (by decide) (fun hc => ?_) (fun hc => ?_)
      · replace h := h.1 hc
        exact tj_X3_goOn_64 C v0 v1 (hv0) (hv1) I _ _ _ hM (lv_sub hl [0, 1] rfl) h
      · replace h := h.2 hc
        refine lv_aload_n hx hb dX3_goOn_24 rfl (lv_at hl 0 rfl) ?_
        refine gX3_0 C hM hv0 gw_261 dX3_goOn_25 ?_
        refine lv_iload_n hx hb dX3_goOn_28 rfl (lv_at hl 2 rfl) ?_
        refine gzaldX C hM (kX_3_0 hv0) h.1 dX3_goOn_29 ?_
        replace h := h.2
        refine lv_if_ne (tgt := 58) hx hb dX3_goOn_30 (by decide) (fun hc => ?_) (fun hc => ?_)
        · replace h := h.2 hc
          exact tj_X3_goOn_58 C ih v0 v1 v2 (hv0) (hv1) I _ _ _ hM (lv_sub hl [0, 1, 2] rfl) h
        · replace h := h.1 hc
          refine lv_aload_n hx hb dX3_goOn_33 rfl (lv_at hl 0 rfl) ?_
          refine gX3_1 C hM hv0 gw_262 dX3_goOn_34 ?_
          refine lv_if_lt (tgt := 53) hx hb dX3_goOn_37 (by decide) (fun hc => ?_) (fun hc => ?_)
          · replace h := h.1 hc
            exact tj_X3_goOn_53 C ih v0 v1 v2 (hv0) (hv1) I _ _ _ hM (lv_sub hl [0, 1, 2] rfl) h
          · replace h := h.2 hc
            refine lv_aload_n hx hb dX3_goOn_40 rfl (lv_at hl 0 rfl) ?_
            refine lv_aload_n hx hb dX3_goOn_41 rfl (lv_at hl 1 rfl) ?_
            refine lv_iload_n hx hb dX3_goOn_42 rfl (lv_at hl 2 rfl) ?_
            refine lv_aload_n hx hb dX3_goOn_43 rfl (lv_at hl 0 rfl) ?_
            refine gX3_1 C hM hv0 gw_262 dX3_goOn_44 ?_
            refine gq_backi C hM (gq_runV (As := [.ref (gx_ad L v1), .int v2, .int (I v0 1)]) (rest := []) C hM (kX_lt hv0 (by decide)) (cX_3 hv0) rfl (c_X3_isAhead l L v0 hv0 v1 hv1 v2 (I v0 1) I _ h) k_X3_isAhead gw_557 rfl hl.1 rfl (Nat.le_of_ble_eq_true rfl) ⟨⟨rfl, rfl⟩, Nat.le_of_ble_eq_true rfl, Nat.le_of_ble_eq_true rfl⟩ ⟨Nat.zero_le _, Nat.zero_le _⟩ dX3_goOn_47) (fun r1 I1 H locs h hM => ?_)
            obtain ⟨hz1, h⟩ := h
            refine lv_if_eq (tgt := 58) hx hb dX3_goOn_50 (by decide) (fun hc => ?_) (fun hc => ?_)
            · replace h := h.1 hc
              exact tj_X3_goOn_58 C ih v0 v1 v2 (hv0) (hv1) I1 _ _ _ hM (lv_sub hl [0, 1, 2] rfl) h
            · replace h := h.2 hc
              exact tj_X3_goOn_53 C ih v0 v1 v2 (hv0) (hv1) I1 _ _ _ hM (lv_sub hl [0, 1, 2] rfl) h
set_option maxHeartbeats 4000000 in
set_option maxRecDepth 100000 in
theorem c_X3_goOn (l : Launch) (L : gx_L) (a0 : Nat) (hk0 : kX a0 = 3) (p0 : Nat) (hp0 : kX p0 = 6) (I : gx_M) (Q : gx_M → Prop) (h : wp_X3_goOn a0 p0 I Q) : Met l yX3_goOn (gx_w yX3_goOn cX3_goOn 3 none) rm_X3_goOn (va_Pc [.ref (gx_ad L a0), .ref (gx_ad L p0)] (gx_U L 282 (cellX L I))) (va_Qv Q (fun I' t => gx_U L 282 (cellX L I') t) (gx_A L)) 0 0 (gx_A L) := by
  refine gq_enter (by decide) (Nat.le_of_ble_eq_true rfl) (fun p e s m below meth c ls C hM hl => ?_)
  have C : gx_C L 282 p s m _ meth c RX3 cX3_goOn 3 none := C
  have hl : lv_has ls 3 [(0, .ref (gx_ad L a0)), (1, .ref (gx_ad L p0))] := hl
  have hx := C.1
  have hb := C.2.1
  unfold wp_X3_goOn at h
  refine lv_aload_n hx hb dX3_goOn_0 rfl (lv_at hl 0 rfl) ?_
  refine lv_iconst (v := (-1 : Int32)) hx hb dX3_goOn_1 (by decide) ?_
  obtain ⟨I1, eI1⟩ : ∃ z : gx_M, z = up I a0 1 (-1 : Int32) := ⟨_, rfl⟩
  replace h := h I1 eI1
  refine pX3_1 C hM hk0 eI1 gw_262 dX3_goOn_2 (fun H locs hM => ?_)
  refine lv_iconst (v := (0 : Int32)) hx hb dX3_goOn_5 (by decide) ?_
  refine lv_istore_n (lv' := [(2, .int (0 : Int32)), (0, .ref (gx_ad L a0)), (1, .ref (gx_ad L p0))]) hx hb dX3_goOn_6 rfl hl (by decide) rfl (fun ls hl => ?_)
  obtain ⟨fu, h⟩ := h
  exact tl_X3_goOn_7 C fu a0 p0 (0 : Int32) (hk0) (hp0) I1 _ _ _ hM (lv_sub hl [1, 2, 0] rfl) h
theorem k_X3_goOn : gx_kV yX3_goOn cX3_goOn 3 none 1 := ⟨⟨gw_556, gw_65, by decide, by decide, by decide +kernel⟩, gw_554, gw_555⟩
abbrev rm_X4_begin : Room := { frames := 0, cells := 0, slots := 0, locals := 0 }
set_option maxHeartbeats 4000000 in
set_option maxRecDepth 100000 in
theorem tl_X4_begin_49 (C : gx_C L 282 p s m args meth c RX4 cX4_begin 6 none) {Q : gx_M → Prop} : ∀ (fu : Nat) (v0 : Nat) (v5 : Int32) (hv0 : kX v0 = 4) (I : gx_M) (H : Heap) (locs : List Loc) (ls : Array Slot), gx_S L 282 (cellX L I) s.heap H locs → lv_has ls 6 [(0, .ref (gx_ad L v0)), (5, .int v5)] → wl_X4_begin_49 Q fu v0 v5 I → W p l e rm_X4_begin s m args below meth c H locs 0 0 (MQ below (va_Qv Q (fun I' t => gx_U L 282 (cellX L I') t) (gx_A L)) args s 0 0 (gx_A L)) (F0 m 49 ls []) := by
  have hx := C.1
  have hb := C.2.1
  intro fu
  induction fu with
  | zero => intros; rename_i h; exact False.elim h
  | succ fu ih =>
    intro v0 v5 hv0 I H locs ls hM hl h
    rw [wl_X4_begin_49] at h
    refine lv_iload hx hb dX4_begin_49 (lv_at hl 1 rfl) ?_
    refine lv_iconst (v := (3 : Int32)) hx hb dX4_begin_51 (by decide) ?_
    refine lv_icmp_ge (tgt := 87) hx hb dX4_begin_52 (by decide) (fun hc => ?_) (fun hc => ?_)
    · replace h := h.1 hc
      exact gq_vret C hM h dX4_begin_87
    · replace h := h.2 hc
      refine lv_aload_n hx hb dX4_begin_55 rfl (lv_at hl 0 rfl) ?_
      refine gX4_9 C hM hv0 gw_138 dX4_begin_56 ?_
      refine lv_iload hx hb dX4_begin_59 (lv_at hl 1 rfl) ?_
      refine lv_iconst (v := (0 : Int32)) hx hb dX4_begin_61 (by decide) ?_
      have hi := h.1
      replace h := h.2
      obtain ⟨I1, eI1⟩ : ∃ z : gx_M, z = up I (v0 + 1) v5.toNatClampNeg (0 : Int32) := ⟨_, rfl⟩
      replace h := h I1 eI1
      refine giastX C hM (kX_4_9 hv0) hi eI1 dX4_begin_62 (fun H locs hM => ?_)
      refine lv_aload_n hx hb dX4_begin_63 rfl (lv_at hl 0 rfl) ?_
      refine gX4_10 C hM hv0 gw_141 dX4_begin_64 ?_
      refine lv_iload hx hb dX4_begin_67 (lv_at hl 1 rfl) ?_
      refine lv_iconst (v := (0 : Int32)) hx hb dX4_begin_69 (by decide) ?_
      have hi := h.1
      replace h := h.2
      obtain ⟨I2, eI2⟩ : ∃ z : gx_M, z = up I1 (v0 + 2) v5.toNatClampNeg (0 : Int32) := ⟨_, rfl⟩
      replace h := h I2 eI2
      refine giastX C hM (kX_4_10 hv0) hi eI2 dX4_begin_70 (fun H locs hM => ?_)
      refine lv_aload_n hx hb dX4_begin_71 rfl (lv_at hl 0 rfl) ?_
      refine gX4_11 C hM hv0 gw_144 dX4_begin_72 ?_
      refine lv_iload hx hb dX4_begin_75 (lv_at hl 1 rfl) ?_
      refine lv_sipush (v := (1000 : Int32)) hx hb dX4_begin_77 (by decide) ?_
      have hi := h.1
      replace h := h.2
      obtain ⟨I3, eI3⟩ : ∃ z : gx_M, z = up I2 (v0 + 3) v5.toNatClampNeg (1000 : Int32) := ⟨_, rfl⟩
      replace h := h I3 eI3
      refine giastX C hM (kX_4_11 hv0) hi eI3 dX4_begin_80 (fun H locs hM => ?_)
      obtain ⟨x1, ex1⟩ : ∃ z : Int32, z = v5 + (1 : Int32) := ⟨_, rfl⟩
      replace h := h x1 ex1
      refine lv_iinc (v := x1) (lv' := [(5, .int x1), (0, .ref (gx_ad L v0))]) hx hb dX4_begin_81 hl (k := 1) rfl (by rw [ex1]; rfl) (by decide) rfl (fun ls hl => ?_)
      refine lv_goto (tgt := 49) hx hb dX4_begin_84 (by decide) ?_
      exact ih v0 x1 (hv0) I3 _ _ _ hM (lv_sub hl [1, 0] rfl) h
set_option maxHeartbeats 4000000 in
set_option maxRecDepth 100000 in
theorem c_X4_begin (l : Launch) (L : gx_L) (a0 : Nat) (hk0 : kX a0 = 4) (p0 : Int32) (p1 : Int32) (p2 : Int32) (p3 : Int32) (I : gx_M) (Q : gx_M → Prop) (h : wp_X4_begin a0 p0 p1 p2 p3 I Q) : Met l yX4_begin (gx_w yX4_begin cX4_begin 6 none) rm_X4_begin (va_Pc [.ref (gx_ad L a0), .int p0, .int p1, .int p2, .int p3] (gx_U L 282 (cellX L I))) (va_Qv Q (fun I' t => gx_U L 282 (cellX L I') t) (gx_A L)) 0 0 (gx_A L) := by
  refine gq_enter (by decide) (Nat.le_of_ble_eq_true rfl) (fun p e s m below meth c ls C hM hl => ?_)
  have C : gx_C L 282 p s m _ meth c RX4 cX4_begin 6 none := C
  have hl : lv_has ls 6 [(0, .ref (gx_ad L a0)), (1, .int p0), (2, .int p1), (3, .int p2), (4, .int p3)] := hl
  have hx := C.1
  have hb := C.2.1
  unfold wp_X4_begin at h
  refine lv_aload_n hx hb dX4_begin_0 rfl (lv_at hl 0 rfl) ?_
  refine lv_iload_n hx hb dX4_begin_1 rfl (lv_at hl 1 rfl) ?_
  obtain ⟨I1, eI1⟩ : ∃ z : gx_M, z = up I a0 0 p0 := ⟨_, rfl⟩
  replace h := h I1 eI1
  refine pX4_0 C hM hk0 eI1 gw_111 dX4_begin_2 (fun H locs hM => ?_)
  refine lv_aload_n hx hb dX4_begin_5 rfl (lv_at hl 0 rfl) ?_
  refine lv_iload_n hx hb dX4_begin_6 rfl (lv_at hl 2 rfl) ?_
  have hz := h.1
  replace h := h.2
  obtain ⟨I2, eI2⟩ : ∃ z : gx_M, z = up I1 a0 1 p1 := ⟨_, rfl⟩
  replace h := h I2 eI2
  refine pX4_1 C hM hk0 hz eI2 gw_114 dX4_begin_7 (fun H locs hM => ?_)
  refine lv_aload_n hx hb dX4_begin_10 rfl (lv_at hl 0 rfl) ?_
  refine lv_iload_n hx hb dX4_begin_11 rfl (lv_at hl 3 rfl) ?_
  obtain ⟨I3, eI3⟩ : ∃ z : gx_M, z = up I2 a0 2 p2 := ⟨_, rfl⟩
  replace h := h I3 eI3
  refine pX4_2 C hM hk0 eI3 gw_118 dX4_begin_12 (fun H locs hM => ?_)
  refine lv_aload_n hx hb dX4_begin_15 rfl (lv_at hl 0 rfl) ?_
  refine lv_iload hx hb dX4_begin_16 (lv_at hl 4 rfl) ?_
  obtain ⟨I4, eI4⟩ : ∃ z : gx_M, z = up I3 a0 3 p3 := ⟨_, rfl⟩
  replace h := h I4 eI4
  refine pX4_3 C hM hk0 eI4 gw_120 dX4_begin_18 (fun H locs hM => ?_)
  refine lv_aload_n hx hb dX4_begin_21 rfl (lv_at hl 0 rfl) ?_
  refine lv_iconst (v := (0 : Int32)) hx hb dX4_begin_22 (by decide) ?_
  obtain ⟨I5, eI5⟩ : ∃ z : gx_M, z = up I4 a0 4 (0 : Int32) := ⟨_, rfl⟩
  replace h := h I5 eI5
  refine pX4_4 C hM hk0 eI5 gw_123 dX4_begin_23 (fun H locs hM => ?_)
  refine lv_aload_n hx hb dX4_begin_26 rfl (lv_at hl 0 rfl) ?_
  refine lv_iconst (v := (0 : Int32)) hx hb dX4_begin_27 (by decide) ?_
  obtain ⟨I6, eI6⟩ : ∃ z : gx_M, z = up I5 a0 5 (0 : Int32) := ⟨_, rfl⟩
  replace h := h I6 eI6
  refine pX4_5 C hM hk0 eI6 gw_126 dX4_begin_28 (fun H locs hM => ?_)
  refine lv_aload_n hx hb dX4_begin_31 rfl (lv_at hl 0 rfl) ?_
  refine lv_iconst (v := (0 : Int32)) hx hb dX4_begin_32 (by decide) ?_
  obtain ⟨I7, eI7⟩ : ∃ z : gx_M, z = up I6 a0 6 (0 : Int32) := ⟨_, rfl⟩
  replace h := h I7 eI7
  refine pX4_6 C hM hk0 eI7 gw_129 dX4_begin_33 (fun H locs hM => ?_)
  refine lv_aload_n hx hb dX4_begin_36 rfl (lv_at hl 0 rfl) ?_
  refine lv_iconst (v := (0 : Int32)) hx hb dX4_begin_37 (by decide) ?_
  obtain ⟨I8, eI8⟩ : ∃ z : gx_M, z = up I7 a0 7 (0 : Int32) := ⟨_, rfl⟩
  replace h := h I8 eI8
  refine pX4_7 C hM hk0 eI8 gw_132 dX4_begin_38 (fun H locs hM => ?_)
  refine lv_aload_n hx hb dX4_begin_41 rfl (lv_at hl 0 rfl) ?_
  refine lv_iconst (v := (0 : Int32)) hx hb dX4_begin_42 (by decide) ?_
  obtain ⟨I9, eI9⟩ : ∃ z : gx_M, z = up I8 a0 8 (0 : Int32) := ⟨_, rfl⟩
  replace h := h I9 eI9
  refine pX4_8 C hM hk0 rfl eI9 gw_135 dX4_begin_43 (fun H locs hM => ?_)
  refine lv_iconst (v := (0 : Int32)) hx hb dX4_begin_46 (by decide) ?_
  refine lv_istore (lv' := [(5, .int (0 : Int32)), (0, .ref (gx_ad L a0)), (1, .int p0), (2, .int p1), (3, .int p2), (4, .int p3)]) hx hb dX4_begin_47 hl (by decide) rfl (fun ls hl => ?_)
  obtain ⟨fu, h⟩ := h
  exact tl_X4_begin_49 C fu a0 (0 : Int32) (hk0) I9 _ _ _ hM (lv_sub hl [1, 0] rfl) h
theorem k_X4_begin : gx_kV yX4_begin cX4_begin 6 none 4 := ⟨⟨gw_419, gw_62, by decide, by decide, by decide +kernel⟩, gw_417, gw_418⟩
abbrev rm_X5_drop : Room := { frames := 1, cells := 0, slots := 0, locals := 26 }
set_option maxHeartbeats 4000000 in
set_option maxRecDepth 100000 in
theorem c_X5_drop (l : Launch) (L : gx_L) (a0 : Nat) (hk0 : kX a0 = 5) (p0 : Int32) (I : gx_M) (Q : gx_M → Prop) (h : wp_X5_drop a0 p0 I Q) : Met l yX5_drop (gx_w yX5_drop cX5_drop 3 none) rm_X5_drop (va_Pc [.ref (gx_ad L a0), .int p0] (gx_U L 282 (cellX L I))) (va_Qv Q (fun I' t => gx_U L 282 (cellX L I') t) (gx_A L)) 0 0 (gx_A L) := by
  refine gq_enter (by decide) (Nat.le_of_ble_eq_true rfl) (fun p e s m below meth c ls C hM hl => ?_)
  have C : gx_C L 282 p s m _ meth c RX5 cX5_drop 3 none := C
  have hl : lv_has ls 3 [(0, .ref (gx_ad L a0)), (1, .int p0)] := hl
  have hx := C.1
  have hb := C.2.1
  unfold wp_X5_drop at h
  refine lv_iload_n hx hb dX5_drop_0 rfl (lv_at hl 1 rfl) ?_
  refine lv_if_lt (tgt := 12) hx hb dX5_drop_1 (by decide) (fun hc => ?_) (fun hc => ?_)
  · replace h := h.1 hc
    exact gq_vret C hM h dX5_drop_12
  · replace h := h.2 hc
    refine lv_iload_n hx hb dX5_drop_4 rfl (lv_at hl 1 rfl) ?_
    refine lv_aload_n hx hb dX5_drop_5 rfl (lv_at hl 0 rfl) ?_
    refine gX5_1 C hM hk0 gw_95 dX5_drop_6 ?_
    refine lv_icmp_lt (tgt := 13) hx hb dX5_drop_9 (by decide) (fun hc => ?_) (fun hc => ?_)
    · replace h := h.1 hc
      refine lv_iload_n hx hb dX5_drop_13 rfl (lv_at hl 1 rfl) ?_
      refine lv_iconst (v := (1 : Int32)) hx hb dX5_drop_14 (by decide) ?_
      refine lv_iadd hx hb dX5_drop_15 ?_
      refine lv_iconst (v := (4 : Int32)) hx hb dX5_drop_16 (by decide) ?_
      refine lv_imul hx hb dX5_drop_17 ?_
      refine lv_topi (fun x1 ex1 => ?_)
      replace h := h x1 ex1
      refine lv_istore_n (lv' := [(2, .int x1), (0, .ref (gx_ad L a0)), (1, .int p0)]) hx hb dX5_drop_18 rfl hl (by decide) rfl (fun ls hl => ?_)
      refine lv_aload_n hx hb dX5_drop_19 rfl (lv_at hl 1 rfl) ?_
      refine gX5_0 C hM hk0 gw_94 dX5_drop_20 ?_
      refine lv_iload_n hx hb dX5_drop_23 rfl (lv_at hl 0 rfl) ?_
      refine lv_aload_n hx hb dX5_drop_24 rfl (lv_at hl 1 rfl) ?_
      refine gX5_0 C hM hk0 gw_94 dX5_drop_25 ?_
      refine lv_iload_n hx hb dX5_drop_28 rfl (lv_at hl 2 rfl) ?_
      refine lv_iconst (v := (4 : Int32)) hx hb dX5_drop_29 (by decide) ?_
      refine lv_imul hx hb dX5_drop_30 ?_
      refine lv_aload_n hx hb dX5_drop_31 rfl (lv_at hl 1 rfl) ?_
      refine gX5_1 C hM hk0 gw_95 dX5_drop_32 ?_
      refine lv_iconst (v := (4 : Int32)) hx hb dX5_drop_35 (by decide) ?_
      refine lv_imul hx hb dX5_drop_36 ?_
      refine lv_iload_n hx hb dX5_drop_37 rfl (lv_at hl 0 rfl) ?_
      refine lv_isub hx hb dX5_drop_38 ?_
      have hi := h.1
      replace h := h.2
      obtain ⟨I1, eI1⟩ : ∃ z : gx_M, z = upr I (a0 + 1) (va_cpy (I (a0 + 1)) (I (a0 + 1)) x1.toNatClampNeg (p0 * (4 : Int32)).toNatClampNeg (((I a0 1) * (4 : Int32)) - x1).toNatClampNeg) := ⟨_, rfl⟩
      replace h := h I1 eI1
      refine gcopyX C hM (kX_5_0 hk0) (kX_5_0 hk0) gw_413 hl.1 hi eI1 (Nat.le_of_ble_eq_true rfl) (Nat.le_of_ble_eq_true rfl) dX5_drop_39 (fun H locs hM => ?_)
      refine lv_aload_n hx hb dX5_drop_42 rfl (lv_at hl 1 rfl) ?_
      refine lv_dup hx hb dX5_drop_43 rfl ?_
      refine gX5_1 C hM hk0 gw_95 dX5_drop_44 ?_
      refine lv_iconst (v := (1 : Int32)) hx hb dX5_drop_47 (by decide) ?_
      refine lv_isub hx hb dX5_drop_48 ?_
      obtain ⟨I2, eI2⟩ : ∃ z : gx_M, z = up I1 a0 1 ((I1 a0 1) - (1 : Int32)) := ⟨_, rfl⟩
      replace h := h I2 eI2
      refine pX5_1 C hM hk0 eI2 gw_95 dX5_drop_49 (fun H locs hM => ?_)
      exact gq_vret C hM h dX5_drop_52
    · replace h := h.2 hc
      exact gq_vret C hM h dX5_drop_12
theorem k_X5_drop : gx_kV yX5_drop cX5_drop 3 none 1 := ⟨⟨gw_544, gw_60, by decide, by decide, by decide +kernel⟩, gw_542, gw_543⟩
abbrev rm_X6_addJob : Room := { frames := 1, cells := 0, slots := 0, locals := 25 }
set_option maxHeartbeats 4000000 in
set_option maxRecDepth 100000 in
theorem c_X6_addJob (l : Launch) (L : gx_L) (a0 : Nat) (hk0 : kX a0 = 6) (p0 : Int32) (p1 : Int32) (p2 : Int32) (I : gx_M) (Q : Int32 → gx_M → Prop) (h : wp_X6_addJob a0 p0 p1 p2 I Q) : Met l yX6_addJob (gx_w yX6_addJob cX6_addJob 5 (some .int)) rm_X6_addJob (va_Pc [.ref (gx_ad L a0), .int p0, .int p1, .int p2] (gx_U L 282 (cellX L I))) (va_Qi Q (fun I' t => gx_U L 282 (cellX L I') t) (gx_A L)) 0 0 (gx_A L) := by
  refine gq_enter (by decide) (Nat.le_of_ble_eq_true rfl) (fun p e s m below meth c ls C hM hl => ?_)
  have C : gx_C L 282 p s m _ meth c RX6 cX6_addJob 5 (some .int) := C
  have hl : lv_has ls 5 [(0, .ref (gx_ad L a0)), (1, .int p0), (2, .int p1), (3, .int p2)] := hl
  have hx := C.1
  have hb := C.2.1
  unfold wp_X6_addJob at h
  refine lv_aload_n hx hb dX6_addJob_0 rfl (lv_at hl 0 rfl) ?_
  refine gX6_7 C hM hk0 gw_188 dX6_addJob_1 ?_
  refine lv_topi (fun x1 ex1 => ?_)
  replace h := h x1 ex1
  refine lv_istore (lv' := [(4, .int x1), (0, .ref (gx_ad L a0)), (1, .int p0), (2, .int p1), (3, .int p2)]) hx hb dX6_addJob_4 hl (by decide) rfl (fun ls hl => ?_)
  refine lv_aload_n hx hb dX6_addJob_6 rfl (lv_at hl 1 rfl) ?_
  refine gX6_1 C hM hk0 gw_174 dX6_addJob_7 ?_
  refine lv_iload hx hb dX6_addJob_10 (lv_at hl 0 rfl) ?_
  refine lv_iload_n hx hb dX6_addJob_12 rfl (lv_at hl 2 rfl) ?_
  refine lv_iload_n hx hb dX6_addJob_13 rfl (lv_at hl 3 rfl) ?_
  refine lv_iload_n hx hb dX6_addJob_14 rfl (lv_at hl 4 rfl) ?_
  refine gq_backv C hM (gq_runV (As := [.int x1, .int p0, .int p1, .int p2]) (rest := []) C hM (kX_lt (kX_6_1 hk0) (by decide)) (cX_5 (kX_6_1 hk0)) rfl (c_X5_add l L (a0 + 2) (kX_6_1 hk0) x1 p0 p1 p2 I _ h) k_X5_add gw_519 rfl hl.1 rfl (Nat.le_of_ble_eq_true rfl) ⟨⟨rfl, rfl⟩, Nat.le_of_ble_eq_true rfl, Nat.le_of_ble_eq_true rfl⟩ ⟨Nat.zero_le _, Nat.zero_le _⟩ dX6_addJob_15) (fun I1 H locs h hM => ?_)
  refine lv_aload_n hx hb dX6_addJob_18 rfl (lv_at hl 1 rfl) ?_
  refine lv_dup hx hb dX6_addJob_19 rfl ?_
  refine gX6_7 C hM hk0 gw_188 dX6_addJob_20 ?_
  refine lv_iconst (v := (1 : Int32)) hx hb dX6_addJob_23 (by decide) ?_
  refine lv_iadd hx hb dX6_addJob_24 ?_
  obtain ⟨I2, eI2⟩ : ∃ z : gx_M, z = up I1 a0 7 ((I1 a0 7) + (1 : Int32)) := ⟨_, rfl⟩
  replace h := h I2 eI2
  refine pX6_7 C hM hk0 eI2 gw_188 dX6_addJob_25 (fun H locs hM => ?_)
  refine lv_iload hx hb dX6_addJob_28 (lv_at hl 0 rfl) ?_
  exact gq_iret C hM h dX6_addJob_30
theorem k_X6_addJob : gx_kV yX6_addJob cX6_addJob 5 (some .int) 3 := ⟨⟨gw_518, gw_59, by decide, by decide, by decide +kernel⟩, gw_516, gw_517⟩
abbrev rm_X6_dropJobsFor : Room := { frames := 2, cells := 0, slots := 0, locals := 48 }
set_option maxHeartbeats 4000000 in
set_option maxRecDepth 100000 in
theorem tj_X6_dropJobsFor_35 (C : gx_C L 282 p s m args meth c RX6 cX6_dropJobsFor 3 none) {Q : gx_M → Prop} {K10 : Nat → Int32 → Int32 → gx_M → Prop} (hK10 : ∀ (v0 : Nat) (v1 : Int32) (v2 : Int32) (hv0 : kX v0 = 6) (I : gx_M) (H : Heap) (locs : List Loc) (ls : Array Slot), gx_S L 282 (cellX L I) s.heap H locs → lv_has ls 3 [(0, .ref (gx_ad L v0)), (1, .int v1), (2, .int v2)] → K10 v0 v1 v2 I → W p l e rm_X6_dropJobsFor s m args below meth c H locs 0 0 (MQ below (va_Qv Q (fun I' t => gx_U L 282 (cellX L I') t) (gx_A L)) args s 0 0 (gx_A L)) (F0 m 10 ls [])) : ∀ (v0 : Nat) (v1 : Int32) (v2 : Int32) (hv0 : kX v0 = 6) (I : gx_M) (H : Heap) (locs : List Loc) (ls : Array Slot), gx_S L 282 (cellX L I) s.heap H locs → lv_has ls 3 [(0, .ref (gx_ad L v0)), (1, .int v1), (2, .int v2)] → wj_X6_dropJobsFor_35 Q K10 v0 v1 v2 I → W p l e rm_X6_dropJobsFor s m args below meth c H locs 0 0 (MQ below (va_Qv Q (fun I' t => gx_U L 282 (cellX L I') t) (gx_A L)) args s 0 0 (gx_A L)) (F0 m 35 ls []) := by
  have hx := C.1
  have hb := C.2.1
  intro v0 v1 v2 hv0 I H locs ls hM hl h
  unfold wj_X6_dropJobsFor_35 at h
  obtain ⟨x1, ex1⟩ : ∃ z : Int32, z = v2 + (-1 : Int32) := ⟨_, rfl⟩
  replace h := h x1 ex1
  refine lv_iinc (v := x1) (lv' := [(2, .int x1), (0, .ref (gx_ad L v0)), (1, .int v1)]) hx hb dX6_dropJobsFor_35 hl (k := 2) rfl (by rw [ex1]; rfl) (by decide) rfl (fun ls hl => ?_)
  refine lv_goto (tgt := 10) hx hb dX6_dropJobsFor_38 (by decide) ?_
  exact hK10 v0 v1 x1 (hv0) I _ _ _ hM (lv_sub hl [1, 2, 0] rfl) h
set_option maxHeartbeats 4000000 in
set_option maxRecDepth 100000 in
theorem tl_X6_dropJobsFor_10 (C : gx_C L 282 p s m args meth c RX6 cX6_dropJobsFor 3 none) {Q : gx_M → Prop} : ∀ (fu : Nat) (v0 : Nat) (v1 : Int32) (v2 : Int32) (hv0 : kX v0 = 6) (I : gx_M) (H : Heap) (locs : List Loc) (ls : Array Slot), gx_S L 282 (cellX L I) s.heap H locs → lv_has ls 3 [(0, .ref (gx_ad L v0)), (1, .int v1), (2, .int v2)] → wl_X6_dropJobsFor_10 Q fu v0 v1 v2 I → W p l e rm_X6_dropJobsFor s m args below meth c H locs 0 0 (MQ below (va_Qv Q (fun I' t => gx_U L 282 (cellX L I') t) (gx_A L)) args s 0 0 (gx_A L)) (F0 m 10 ls []) := by
  have hx := C.1
  have hb := C.2.1
  intro fu
  induction fu with
  | zero => intros; rename_i h; exact False.elim h
  | succ fu ih =>
    intro v0 v1 v2 hv0 I H locs ls hM hl h
    rw [wl_X6_dropJobsFor_10] at h
    refine lv_iload_n hx hb dX6_dropJobsFor_10 rfl (lv_at hl 2 rfl) ?_
    refine lv_if_lt (tgt := 41) hx hb dX6_dropJobsFor_11 (by decide) (fun hc => ?_) (fun hc => ?_)
    · replace h := h.1 hc
      exact gq_vret C hM h dX6_dropJobsFor_41
    · replace h := h.2 hc
      refine lv_aload_n hx hb dX6_dropJobsFor_14 rfl (lv_at hl 0 rfl) ?_
      refine gX6_1 C hM hv0 gw_174 dX6_dropJobsFor_15 ?_
      refine lv_iload_n hx hb dX6_dropJobsFor_18 rfl (lv_at hl 2 rfl) ?_
      refine lv_iconst (v := (2 : Int32)) hx hb dX6_dropJobsFor_19 (by decide) ?_
      refine gq_backi C hM (gq_runV (As := [.int v2, .int (2 : Int32)]) (rest := []) C hM (kX_lt (kX_6_1 hv0) (by decide)) (cX_5 (kX_6_1 hv0)) rfl (c_X5_at l L (v0 + 2) (kX_6_1 hv0) v2 (2 : Int32) I _ h) k_X5_at gw_531 rfl hl.1 rfl (Nat.le_of_ble_eq_true rfl) ⟨⟨rfl, rfl⟩, Nat.le_of_ble_eq_true rfl, Nat.le_of_ble_eq_true rfl⟩ ⟨Nat.zero_le _, Nat.zero_le _⟩ dX6_dropJobsFor_20) (fun r1 I1 H locs h hM => ?_)
      refine lv_iload_n hx hb dX6_dropJobsFor_23 rfl (lv_at hl 1 rfl) ?_
      refine lv_icmp_ne (tgt := 35) hx hb dX6_dropJobsFor_24 (by decide) (fun hc => ?_) (fun hc => ?_)
      · replace h := h.2 hc
        exact tj_X6_dropJobsFor_35 C ih v0 v1 v2 (hv0) I1 _ _ _ hM (lv_sub hl [0, 1, 2] rfl) h
      · replace h := h.1 hc
        refine lv_aload_n hx hb dX6_dropJobsFor_27 rfl (lv_at hl 0 rfl) ?_
        refine gX6_1 C hM hv0 gw_174 dX6_dropJobsFor_28 ?_
        refine lv_iload_n hx hb dX6_dropJobsFor_31 rfl (lv_at hl 2 rfl) ?_
        refine gq_backv C hM (gq_runV (As := [.int v2]) (rest := []) C hM (kX_lt (kX_6_1 hv0) (by decide)) (cX_5 (kX_6_1 hv0)) rfl (c_X5_drop l L (v0 + 2) (kX_6_1 hv0) v2 I1 _ h) k_X5_drop gw_541 rfl hl.1 rfl (Nat.le_of_ble_eq_true rfl) ⟨⟨rfl, rfl⟩, Nat.le_of_ble_eq_true rfl, Nat.le_of_ble_eq_true rfl⟩ ⟨Nat.zero_le _, Nat.zero_le _⟩ dX6_dropJobsFor_32) (fun I2 H locs h hM => ?_)
        exact tj_X6_dropJobsFor_35 C ih v0 v1 v2 (hv0) I2 _ _ _ hM (lv_sub hl [0, 1, 2] rfl) h
set_option maxHeartbeats 4000000 in
set_option maxRecDepth 100000 in
theorem c_X6_dropJobsFor (l : Launch) (L : gx_L) (a0 : Nat) (hk0 : kX a0 = 6) (p0 : Int32) (I : gx_M) (Q : gx_M → Prop) (h : wp_X6_dropJobsFor a0 p0 I Q) : Met l yX6_dropJobsFor (gx_w yX6_dropJobsFor cX6_dropJobsFor 3 none) rm_X6_dropJobsFor (va_Pc [.ref (gx_ad L a0), .int p0] (gx_U L 282 (cellX L I))) (va_Qv Q (fun I' t => gx_U L 282 (cellX L I') t) (gx_A L)) 0 0 (gx_A L) := by
  refine gq_enter (by decide) (Nat.le_of_ble_eq_true rfl) (fun p e s m below meth c ls C hM hl => ?_)
  have C : gx_C L 282 p s m _ meth c RX6 cX6_dropJobsFor 3 none := C
  have hl : lv_has ls 3 [(0, .ref (gx_ad L a0)), (1, .int p0)] := hl
  have hx := C.1
  have hb := C.2.1
  unfold wp_X6_dropJobsFor at h
  refine lv_aload_n hx hb dX6_dropJobsFor_0 rfl (lv_at hl 0 rfl) ?_
  refine gX6_1 C hM hk0 gw_174 dX6_dropJobsFor_1 ?_
  refine gX5_1 C hM (kX_6_1 hk0) gw_98 dX6_dropJobsFor_4 ?_
  refine lv_iconst (v := (1 : Int32)) hx hb dX6_dropJobsFor_7 (by decide) ?_
  refine lv_isub hx hb dX6_dropJobsFor_8 ?_
  refine lv_topi (fun x1 ex1 => ?_)
  replace h := h x1 ex1
  refine lv_istore_n (lv' := [(2, .int x1), (0, .ref (gx_ad L a0)), (1, .int p0)]) hx hb dX6_dropJobsFor_9 rfl hl (by decide) rfl (fun ls hl => ?_)
  obtain ⟨fu, h⟩ := h
  exact tl_X6_dropJobsFor_10 C fu a0 p0 x1 (hk0) I _ _ _ hM (lv_sub hl [1, 2, 0] rfl) h
theorem k_X6_dropJobsFor : gx_kV yX6_dropJobsFor cX6_dropJobsFor 3 none 1 := ⟨⟨gw_540, gw_59, by decide, by decide, by decide +kernel⟩, gw_538, gw_539⟩
abbrev rm_X6_goTo : Room := { frames := 1, cells := 0, slots := 0, locals := 21 }
set_option maxHeartbeats 4000000 in
set_option maxRecDepth 100000 in
theorem c_X6_goTo (l : Launch) (L : gx_L) (a0 : Nat) (hk0 : kX a0 = 6) (p0 : Int32) (I : gx_M) (Q : gx_M → Prop) (h : wp_X6_goTo a0 p0 I Q) : Met l yX6_goTo (gx_w yX6_goTo cX6_goTo 2 none) rm_X6_goTo (va_Pc [.ref (gx_ad L a0), .int p0] (gx_U L 282 (cellX L I))) (va_Qv Q (fun I' t => gx_U L 282 (cellX L I') t) (gx_A L)) 0 0 (gx_A L) := by
  refine gq_enter (by decide) (Nat.le_of_ble_eq_true rfl) (fun p e s m below meth c ls C hM hl => ?_)
  have C : gx_C L 282 p s m _ meth c RX6 cX6_goTo 2 none := C
  have hl : lv_has ls 2 [(0, .ref (gx_ad L a0)), (1, .int p0)] := hl
  have hx := C.1
  have hb := C.2.1
  unfold wp_X6_goTo at h
  refine lv_aload_n hx hb dX6_goTo_0 rfl (lv_at hl 0 rfl) ?_
  refine lv_dup hx hb dX6_goTo_1 rfl ?_
  refine gX6_6 C hM hk0 gw_186 dX6_goTo_2 ?_
  refine lv_iload_n hx hb dX6_goTo_5 rfl (lv_at hl 1 rfl) ?_
  refine lv_aload_n hx hb dX6_goTo_6 rfl (lv_at hl 0 rfl) ?_
  refine gX6_5 C hM hk0 gw_184 dX6_goTo_7 ?_
  refine lv_isub hx hb dX6_goTo_10 ?_
  refine gq_abs C hl.1 gw_580 gw_568 gw_61 gw_569 (Nat.le_of_ble_eq_true rfl) (Nat.le_of_ble_eq_true rfl) (Nat.zero_le _) (Nat.zero_le _) dX6_goTo_11 ?_
  refine lv_iadd hx hb dX6_goTo_14 ?_
  obtain ⟨I1, eI1⟩ : ∃ z : gx_M, z = up I a0 6 ((I a0 6) + (if 0 ≤ (p0 - (I a0 5)) then (p0 - (I a0 5)) else 0 - (p0 - (I a0 5)))) := ⟨_, rfl⟩
  replace h := h I1 eI1
  refine pX6_6 C hM hk0 eI1 gw_186 dX6_goTo_15 (fun H locs hM => ?_)
  refine lv_aload_n hx hb dX6_goTo_18 rfl (lv_at hl 0 rfl) ?_
  refine lv_iload_n hx hb dX6_goTo_19 rfl (lv_at hl 1 rfl) ?_
  obtain ⟨I2, eI2⟩ : ∃ z : gx_M, z = up I1 a0 5 p0 := ⟨_, rfl⟩
  replace h := h I2 eI2
  refine pX6_5 C hM hk0 eI2 gw_184 dX6_goTo_20 (fun H locs hM => ?_)
  exact gq_vret C hM h dX6_goTo_23
theorem k_X6_goTo : gx_kV yX6_goTo cX6_goTo 2 none 1 := ⟨⟨gw_579, gw_59, by decide, by decide, by decide +kernel⟩, gw_577, gw_578⟩
abbrev rm_X6_hasRosetteAt : Room := { frames := 2, cells := 0, slots := 0, locals := 43 }
set_option maxHeartbeats 4000000 in
set_option maxRecDepth 100000 in
theorem tl_X6_hasRosetteAt_2 (C : gx_C L 282 p s m args meth c RX6 cX6_hasRosetteAt 3 (some .boolean)) {Q : Int32 → gx_M → Prop} : ∀ (fu : Nat) (v0 : Nat) (v1 : Int32) (v2 : Int32) (hv0 : kX v0 = 6) (I : gx_M) (H : Heap) (locs : List Loc) (ls : Array Slot), gx_S L 282 (cellX L I) s.heap H locs → lv_has ls 3 [(0, .ref (gx_ad L v0)), (1, .int v1), (2, .int v2)] → wl_X6_hasRosetteAt_2 Q fu v0 v1 v2 I → W p l e rm_X6_hasRosetteAt s m args below meth c H locs 0 0 (MQ below (va_Qi (fun r I' => r &&& 1 = r ∧ Q r I') (fun I' t => gx_U L 282 (cellX L I') t) (gx_A L)) args s 0 0 (gx_A L)) (F0 m 2 ls []) := by
  have hx := C.1
  have hb := C.2.1
  intro fu
  induction fu with
  | zero => intros; rename_i h; exact False.elim h
  | succ fu ih =>
    intro v0 v1 v2 hv0 I H locs ls hM hl h
    rw [wl_X6_hasRosetteAt_2] at h
    refine lv_iload_n hx hb dX6_hasRosetteAt_2 rfl (lv_at hl 2 rfl) ?_
    refine lv_aload_n hx hb dX6_hasRosetteAt_3 rfl (lv_at hl 0 rfl) ?_
    refine gX6_3 C hM hv0 gw_179 dX6_hasRosetteAt_4 ?_
    refine lv_icmp_ge (tgt := 27) hx hb dX6_hasRosetteAt_7 (by decide) (fun hc => ?_) (fun hc => ?_)
    · replace h := h.1 hc
      refine lv_iconst (v := (0 : Int32)) hx hb dX6_hasRosetteAt_27 (by decide) ?_
      exact gq_zret C hM ⟨rfl, h⟩ (rfl) dX6_hasRosetteAt_28
    · replace h := h.2 hc
      refine lv_aload_n hx hb dX6_hasRosetteAt_10 rfl (lv_at hl 0 rfl) ?_
      refine lv_iload_n hx hb dX6_hasRosetteAt_11 rfl (lv_at hl 2 rfl) ?_
      refine gq_backi C hM (gq_runV (As := [.int v2]) (rest := []) C hM (kX_lt hv0 (by decide)) (cX_6 hv0) rfl (c_X6_placeOf l L v0 hv0 v2 I _ h) k_X6_placeOf gw_385 rfl hl.1 rfl (Nat.le_of_ble_eq_true rfl) ⟨⟨rfl, rfl⟩, Nat.le_of_ble_eq_true rfl, Nat.le_of_ble_eq_true rfl⟩ ⟨Nat.zero_le _, Nat.zero_le _⟩ dX6_hasRosetteAt_12) (fun r1 I1 H locs h hM => ?_)
      refine lv_iload_n hx hb dX6_hasRosetteAt_15 rfl (lv_at hl 1 rfl) ?_
      refine lv_icmp_ne (tgt := 21) hx hb dX6_hasRosetteAt_16 (by decide) (fun hc => ?_) (fun hc => ?_)
      · replace h := h.2 hc
        obtain ⟨x1, ex1⟩ : ∃ z : Int32, z = v2 + (1 : Int32) := ⟨_, rfl⟩
        replace h := h x1 ex1
        refine lv_iinc (v := x1) (lv' := [(2, .int x1), (0, .ref (gx_ad L v0)), (1, .int v1)]) hx hb dX6_hasRosetteAt_21 hl (k := 2) rfl (by rw [ex1]; rfl) (by decide) rfl (fun ls hl => ?_)
        refine lv_goto (tgt := 2) hx hb dX6_hasRosetteAt_24 (by decide) ?_
        exact ih v0 v1 x1 (hv0) I1 _ _ _ hM (lv_sub hl [1, 2, 0] rfl) h
      · replace h := h.1 hc
        refine lv_iconst (v := (1 : Int32)) hx hb dX6_hasRosetteAt_19 (by decide) ?_
        exact gq_zret C hM ⟨rfl, h⟩ (rfl) dX6_hasRosetteAt_20
set_option maxHeartbeats 4000000 in
set_option maxRecDepth 100000 in
theorem c_X6_hasRosetteAt (l : Launch) (L : gx_L) (a0 : Nat) (hk0 : kX a0 = 6) (p0 : Int32) (I : gx_M) (Q : Int32 → gx_M → Prop) (h : wp_X6_hasRosetteAt a0 p0 I Q) : Met l yX6_hasRosetteAt (gx_w yX6_hasRosetteAt cX6_hasRosetteAt 3 (some .boolean)) rm_X6_hasRosetteAt (va_Pc [.ref (gx_ad L a0), .int p0] (gx_U L 282 (cellX L I))) (va_Qi (fun r I' => r &&& 1 = r ∧ Q r I') (fun I' t => gx_U L 282 (cellX L I') t) (gx_A L)) 0 0 (gx_A L) := by
  refine gq_enter (by decide) (Nat.le_of_ble_eq_true rfl) (fun p e s m below meth c ls C hM hl => ?_)
  have C : gx_C L 282 p s m _ meth c RX6 cX6_hasRosetteAt 3 (some .boolean) := C
  have hl : lv_has ls 3 [(0, .ref (gx_ad L a0)), (1, .int p0)] := hl
  have hx := C.1
  have hb := C.2.1
  unfold wp_X6_hasRosetteAt at h
  refine lv_iconst (v := (0 : Int32)) hx hb dX6_hasRosetteAt_0 (by decide) ?_
  refine lv_istore_n (lv' := [(2, .int (0 : Int32)), (0, .ref (gx_ad L a0)), (1, .int p0)]) hx hb dX6_hasRosetteAt_1 rfl hl (by decide) rfl (fun ls hl => ?_)
  obtain ⟨fu, h⟩ := h
  exact tl_X6_hasRosetteAt_2 C fu a0 p0 (0 : Int32) (hk0) I _ _ _ hM (lv_sub hl [1, 2, 0] rfl) h
theorem k_X6_hasRosetteAt : gx_kV yX6_hasRosetteAt cX6_hasRosetteAt 3 (some .boolean) 1 := ⟨⟨gw_384, gw_59, by decide, by decide, by decide +kernel⟩, gw_382, gw_383⟩
end
