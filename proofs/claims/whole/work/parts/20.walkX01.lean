section
variable {p : Program} {l : Launch} {e : Env} {s : State} {m : MethodId} {args : Array Value} {below : List Frame} {meth : Method} {c : Code} {L : gx_L}
abbrev rm_X0_dropOldest : Room := { frames := 0, cells := 0, slots := 0, locals := 0 }
set_option maxHeartbeats 4000000 in
set_option maxRecDepth 100000 in
theorem tl_X0_dropOldest_9 (C : gx_C L 282 p s m args meth c RX0 cX0_dropOldest 3 none) {Q : gx_M → Prop} : ∀ (fu : Nat) (v0 : Nat) (v1 : Int32) (v2 : Int32) (hv0 : kX v0 = 0) (I : gx_M) (H : Heap) (locs : List Loc) (ls : Array Slot), gx_S L 282 (cellX L I) s.heap H locs → lv_has ls 3 [(0, .ref (gx_ad L v0)), (1, .ref (gx_ad L (sd v1))), (2, .int v2)] → wl_X0_dropOldest_9 Q fu v0 v1 v2 I → W p l e rm_X0_dropOldest s m args below meth c H locs 0 0 (MQ below (va_Qv Q (fun I' t => gx_U L 282 (cellX L I') t) (gx_A L)) args s 0 0 (gx_A L)) (F0 m 9 ls []) := by
  have hx := C.1
  have hb := C.2.1
  intro fu
  induction fu with
  | zero => intros; rename_i h; exact False.elim h
  | succ fu ih =>
    intro v0 v1 v2 hv0 I H locs ls hM hl h
    rw [wl_X0_dropOldest_9] at h
    refine lv_iload_n hx hb dX0_dropOldest_9 rfl (lv_at hl 2 rfl) ?_
    refine lv_iconst (v := (5 : Int32)) hx hb dX0_dropOldest_10 (by decide) ?_
    refine lv_icmp_ge (tgt := 34) hx hb dX0_dropOldest_11 (by decide) (fun hc => ?_) (fun hc => ?_)
    · replace h := h.1 hc
      refine lv_aload_n hx hb dX0_dropOldest_34 rfl (lv_at hl 0 rfl) ?_
      refine gX0_0 C hM hv0 gw_224 dX0_dropOldest_35 ?_
      refine lv_iconst (v := (4 : Int32)) hx hb dX0_dropOldest_38 (by decide) ?_
      refine lv_aload_n hx hb dX0_dropOldest_39 rfl (lv_at hl 1 rfl) ?_
      have hi := h.1
      replace h := h.2
      obtain ⟨I1, eI1⟩ : ∃ z : gx_M, z = up I (v0 + 1) (4 : Int32).toNatClampNeg (v1) := ⟨_, rfl⟩
      replace h := h I1 eI1
      refine gaast_24 C hM (kX_0_0 hv0) hi eI1 dX0_dropOldest_40 (fun H locs hM => ?_)
      refine lv_aload_n hx hb dX0_dropOldest_41 rfl (lv_at hl 0 rfl) ?_
      refine lv_iconst (v := (4 : Int32)) hx hb dX0_dropOldest_42 (by decide) ?_
      obtain ⟨I2, eI2⟩ : ∃ z : gx_M, z = up I1 v0 1 (4 : Int32) := ⟨_, rfl⟩
      replace h := h I2 eI2
      refine pX0_1 C hM hv0 eI2 gw_225 dX0_dropOldest_43 (fun H locs hM => ?_)
      exact gq_vret C hM h dX0_dropOldest_46
    · replace h := h.2 hc
      refine lv_aload_n hx hb dX0_dropOldest_14 rfl (lv_at hl 0 rfl) ?_
      refine gX0_0 C hM hv0 gw_224 dX0_dropOldest_15 ?_
      refine lv_iload_n hx hb dX0_dropOldest_18 rfl (lv_at hl 2 rfl) ?_
      refine lv_iconst (v := (1 : Int32)) hx hb dX0_dropOldest_19 (by decide) ?_
      refine lv_isub hx hb dX0_dropOldest_20 ?_
      refine lv_aload_n hx hb dX0_dropOldest_21 rfl (lv_at hl 0 rfl) ?_
      refine gX0_0 C hM hv0 gw_224 dX0_dropOldest_22 ?_
      refine lv_iload_n hx hb dX0_dropOldest_25 rfl (lv_at hl 2 rfl) ?_
      have hi := h.1
      replace h := h.2
      refine gaald_24 C hM (kX_0_0 hv0) hi dX0_dropOldest_26 ?_
      have hi := h.1
      replace h := h.2
      obtain ⟨I3, eI3⟩ : ∃ z : gx_M, z = up I (v0 + 1) (v2 - (1 : Int32)).toNatClampNeg (I (v0 + 1) v2.toNatClampNeg) := ⟨_, rfl⟩
      replace h := h I3 eI3
      refine gaast_24 C hM (kX_0_0 hv0) hi eI3 dX0_dropOldest_27 (fun H locs hM => ?_)
      obtain ⟨x1, ex1⟩ : ∃ z : Int32, z = v2 + (1 : Int32) := ⟨_, rfl⟩
      replace h := h x1 ex1
      refine lv_iinc (v := x1) (lv' := [(2, .int x1), (0, .ref (gx_ad L v0)), (1, .ref (gx_ad L (sd v1)))]) hx hb dX0_dropOldest_28 hl (k := 2) rfl (by rw [ex1]; rfl) (by decide) rfl (fun ls hl => ?_)
      refine lv_goto (tgt := 9) hx hb dX0_dropOldest_31 (by decide) ?_
      exact ih v0 v1 x1 (hv0) I3 _ _ _ hM (lv_sub hl [1, 2, 0] rfl) h
set_option maxHeartbeats 4000000 in
set_option maxRecDepth 100000 in
theorem c_X0_dropOldest (l : Launch) (L : gx_L) (a0 : Nat) (hk0 : kX a0 = 0) (I : gx_M) (Q : gx_M → Prop) (h : wp_X0_dropOldest a0 I Q) : Met l yX0_dropOldest (gx_w yX0_dropOldest cX0_dropOldest 3 none) rm_X0_dropOldest (va_Pc [.ref (gx_ad L a0)] (gx_U L 282 (cellX L I))) (va_Qv Q (fun I' t => gx_U L 282 (cellX L I') t) (gx_A L)) 0 0 (gx_A L) := by
  refine gq_enter (by decide) (Nat.le_of_ble_eq_true rfl) (fun p e s m below meth c ls C hM hl => ?_)
  have C : gx_C L 282 p s m _ meth c RX0 cX0_dropOldest 3 none := C
  have hl : lv_has ls 3 [(0, .ref (gx_ad L a0))] := hl
  have hx := C.1
  have hb := C.2.1
  unfold wp_X0_dropOldest at h
  refine lv_aload_n hx hb dX0_dropOldest_0 rfl (lv_at hl 0 rfl) ?_
  refine gX0_0 C hM hk0 gw_224 dX0_dropOldest_1 ?_
  refine lv_iconst (v := (0 : Int32)) hx hb dX0_dropOldest_4 (by decide) ?_
  have hi := h.1
  replace h := h.2
  refine gaald_24 C hM (kX_0_0 hk0) hi dX0_dropOldest_5 ?_
  refine lv_astore_n (lv' := [(1, .ref (gx_ad L (sd (I (a0 + 1) (0 : Int32).toNatClampNeg)))), (0, .ref (gx_ad L a0))]) hx hb dX0_dropOldest_6 rfl hl (by decide) rfl (fun ls hl => ?_)
  refine lv_iconst (v := (1 : Int32)) hx hb dX0_dropOldest_7 (by decide) ?_
  refine lv_istore_n (lv' := [(2, .int (1 : Int32)), (1, .ref (gx_ad L (sd (I (a0 + 1) (0 : Int32).toNatClampNeg)))), (0, .ref (gx_ad L a0))]) hx hb dX0_dropOldest_8 rfl hl (by decide) rfl (fun ls hl => ?_)
  obtain ⟨fu, h⟩ := h
  exact tl_X0_dropOldest_9 C fu a0 (I (a0 + 1) (0 : Int32).toNatClampNeg) (1 : Int32) (hk0) I _ _ _ hM (lv_sub hl [2, 1, 0] rfl) h
theorem k_X0_dropOldest : gx_kV yX0_dropOldest cX0_dropOldest 3 none 0 := ⟨⟨gw_400, gw_63, by decide, by decide, by decide +kernel⟩, gw_399, gw_1⟩
abbrev rm_X4_copyFrom : Room := { frames := 0, cells := 0, slots := 0, locals := 0 }
set_option maxHeartbeats 4000000 in
set_option maxRecDepth 100000 in
theorem tl_X4_copyFrom_74 (C : gx_C L 282 p s m args meth c RX4 cX4_copyFrom 3 none) {Q : gx_M → Prop} : ∀ (fu : Nat) (v0 : Nat) (v1 : Nat) (v2 : Int32) (hv0 : kX v0 = 4) (hv1 : kX v1 = 4) (I : gx_M) (H : Heap) (locs : List Loc) (ls : Array Slot), gx_S L 282 (cellX L I) s.heap H locs → lv_has ls 3 [(0, .ref (gx_ad L v0)), (1, .ref (gx_ad L v1)), (2, .int v2)] → wl_X4_copyFrom_74 Q fu v0 v1 v2 I → W p l e rm_X4_copyFrom s m args below meth c H locs 0 0 (MQ below (va_Qv Q (fun I' t => gx_U L 282 (cellX L I') t) (gx_A L)) args s 0 0 (gx_A L)) (F0 m 74 ls []) := by
  have hx := C.1
  have hb := C.2.1
  intro fu
  induction fu with
  | zero => intros; rename_i h; exact False.elim h
  | succ fu ih =>
    intro v0 v1 v2 hv0 hv1 I H locs ls hM hl h
    rw [wl_X4_copyFrom_74] at h
    refine lv_iload_n hx hb dX4_copyFrom_74 rfl (lv_at hl 2 rfl) ?_
    refine lv_iconst (v := (3 : Int32)) hx hb dX4_copyFrom_75 (by decide) ?_
    refine lv_icmp_ge (tgt := 121) hx hb dX4_copyFrom_76 (by decide) (fun hc => ?_) (fun hc => ?_)
    · replace h := h.1 hc
      exact gq_vret C hM h dX4_copyFrom_121
    · replace h := h.2 hc
      refine lv_aload_n hx hb dX4_copyFrom_79 rfl (lv_at hl 0 rfl) ?_
      refine gX4_9 C hM hv0 gw_138 dX4_copyFrom_80 ?_
      refine lv_iload_n hx hb dX4_copyFrom_83 rfl (lv_at hl 2 rfl) ?_
      refine lv_aload_n hx hb dX4_copyFrom_84 rfl (lv_at hl 1 rfl) ?_
      refine gX4_9 C hM hv1 gw_138 dX4_copyFrom_85 ?_
      refine lv_iload_n hx hb dX4_copyFrom_88 rfl (lv_at hl 2 rfl) ?_
      refine gialdX C hM (kX_4_9 hv1) h.1 dX4_copyFrom_89 ?_
      replace h := h.2
      have hi := h.1
      replace h := h.2
      obtain ⟨I1, eI1⟩ : ∃ z : gx_M, z = up I (v0 + 1) v2.toNatClampNeg (I (v1 + 1) v2.toNatClampNeg) := ⟨_, rfl⟩
      replace h := h I1 eI1
      refine giastX C hM (kX_4_9 hv0) hi eI1 dX4_copyFrom_90 (fun H locs hM => ?_)
      refine lv_aload_n hx hb dX4_copyFrom_91 rfl (lv_at hl 0 rfl) ?_
      refine gX4_10 C hM hv0 gw_141 dX4_copyFrom_92 ?_
      refine lv_iload_n hx hb dX4_copyFrom_95 rfl (lv_at hl 2 rfl) ?_
      refine lv_aload_n hx hb dX4_copyFrom_96 rfl (lv_at hl 1 rfl) ?_
      refine gX4_10 C hM hv1 gw_141 dX4_copyFrom_97 ?_
      refine lv_iload_n hx hb dX4_copyFrom_100 rfl (lv_at hl 2 rfl) ?_
      refine gialdX C hM (kX_4_10 hv1) h.1 dX4_copyFrom_101 ?_
      replace h := h.2
      have hi := h.1
      replace h := h.2
      obtain ⟨I2, eI2⟩ : ∃ z : gx_M, z = up I1 (v0 + 2) v2.toNatClampNeg (I1 (v1 + 2) v2.toNatClampNeg) := ⟨_, rfl⟩
      replace h := h I2 eI2
      refine giastX C hM (kX_4_10 hv0) hi eI2 dX4_copyFrom_102 (fun H locs hM => ?_)
      refine lv_aload_n hx hb dX4_copyFrom_103 rfl (lv_at hl 0 rfl) ?_
      refine gX4_11 C hM hv0 gw_144 dX4_copyFrom_104 ?_
      refine lv_iload_n hx hb dX4_copyFrom_107 rfl (lv_at hl 2 rfl) ?_
      refine lv_aload_n hx hb dX4_copyFrom_108 rfl (lv_at hl 1 rfl) ?_
      refine gX4_11 C hM hv1 gw_144 dX4_copyFrom_109 ?_
      refine lv_iload_n hx hb dX4_copyFrom_112 rfl (lv_at hl 2 rfl) ?_
      refine gialdX C hM (kX_4_11 hv1) h.1 dX4_copyFrom_113 ?_
      replace h := h.2
      have hi := h.1
      replace h := h.2
      obtain ⟨I3, eI3⟩ : ∃ z : gx_M, z = up I2 (v0 + 3) v2.toNatClampNeg (I2 (v1 + 3) v2.toNatClampNeg) := ⟨_, rfl⟩
      replace h := h I3 eI3
      refine giastX C hM (kX_4_11 hv0) hi eI3 dX4_copyFrom_114 (fun H locs hM => ?_)
      obtain ⟨x1, ex1⟩ : ∃ z : Int32, z = v2 + (1 : Int32) := ⟨_, rfl⟩
      replace h := h x1 ex1
      refine lv_iinc (v := x1) (lv' := [(2, .int x1), (0, .ref (gx_ad L v0)), (1, .ref (gx_ad L v1))]) hx hb dX4_copyFrom_115 hl (k := 2) rfl (by rw [ex1]; rfl) (by decide) rfl (fun ls hl => ?_)
      refine lv_goto (tgt := 74) hx hb dX4_copyFrom_118 (by decide) ?_
      exact ih v0 v1 x1 (hv0) (hv1) I3 _ _ _ hM (lv_sub hl [1, 2, 0] rfl) h
set_option maxHeartbeats 4000000 in
set_option maxRecDepth 100000 in
theorem c_X4_copyFrom (l : Launch) (L : gx_L) (a0 : Nat) (hk0 : kX a0 = 4) (p0 : Nat) (hp0 : kX p0 = 4) (I : gx_M) (Q : gx_M → Prop) (h : wp_X4_copyFrom a0 p0 I Q) : Met l yX4_copyFrom (gx_w yX4_copyFrom cX4_copyFrom 3 none) rm_X4_copyFrom (va_Pc [.ref (gx_ad L a0), .ref (gx_ad L p0)] (gx_U L 282 (cellX L I))) (va_Qv Q (fun I' t => gx_U L 282 (cellX L I') t) (gx_A L)) 0 0 (gx_A L) := by
  refine gq_enter (by decide) (Nat.le_of_ble_eq_true rfl) (fun p e s m below meth c ls C hM hl => ?_)
  have C : gx_C L 282 p s m _ meth c RX4 cX4_copyFrom 3 none := C
  have hl : lv_has ls 3 [(0, .ref (gx_ad L a0)), (1, .ref (gx_ad L p0))] := hl
  have hx := C.1
  have hb := C.2.1
  unfold wp_X4_copyFrom at h
  refine lv_aload_n hx hb dX4_copyFrom_0 rfl (lv_at hl 0 rfl) ?_
  refine lv_aload_n hx hb dX4_copyFrom_1 rfl (lv_at hl 1 rfl) ?_
  refine gX4_0 C hM hp0 gw_111 dX4_copyFrom_2 ?_
  obtain ⟨I1, eI1⟩ : ∃ z : gx_M, z = up I a0 0 (I p0 0) := ⟨_, rfl⟩
  replace h := h I1 eI1
  refine pX4_0 C hM hk0 eI1 gw_111 dX4_copyFrom_5 (fun H locs hM => ?_)
  refine lv_aload_n hx hb dX4_copyFrom_8 rfl (lv_at hl 0 rfl) ?_
  refine lv_aload_n hx hb dX4_copyFrom_9 rfl (lv_at hl 1 rfl) ?_
  refine gX4_1 C hM hp0 gw_114 dX4_copyFrom_10 ?_
  obtain ⟨I2, eI2⟩ : ∃ z : gx_M, z = up I1 a0 1 (I1 p0 1 &&& 1) := ⟨_, rfl⟩
  replace h := h I2 eI2
  refine pX4_1 C hM hk0 (gz_and _) eI2 gw_114 dX4_copyFrom_13 (fun H locs hM => ?_)
  refine lv_aload_n hx hb dX4_copyFrom_16 rfl (lv_at hl 0 rfl) ?_
  refine lv_aload_n hx hb dX4_copyFrom_17 rfl (lv_at hl 1 rfl) ?_
  refine gX4_2 C hM hp0 gw_118 dX4_copyFrom_18 ?_
  obtain ⟨I3, eI3⟩ : ∃ z : gx_M, z = up I2 a0 2 (I2 p0 2) := ⟨_, rfl⟩
  replace h := h I3 eI3
  refine pX4_2 C hM hk0 eI3 gw_118 dX4_copyFrom_21 (fun H locs hM => ?_)
  refine lv_aload_n hx hb dX4_copyFrom_24 rfl (lv_at hl 0 rfl) ?_
  refine lv_aload_n hx hb dX4_copyFrom_25 rfl (lv_at hl 1 rfl) ?_
  refine gX4_3 C hM hp0 gw_120 dX4_copyFrom_26 ?_
  obtain ⟨I4, eI4⟩ : ∃ z : gx_M, z = up I3 a0 3 (I3 p0 3) := ⟨_, rfl⟩
  replace h := h I4 eI4
  refine pX4_3 C hM hk0 eI4 gw_120 dX4_copyFrom_29 (fun H locs hM => ?_)
  refine lv_aload_n hx hb dX4_copyFrom_32 rfl (lv_at hl 0 rfl) ?_
  refine lv_aload_n hx hb dX4_copyFrom_33 rfl (lv_at hl 1 rfl) ?_
  refine gX4_4 C hM hp0 gw_123 dX4_copyFrom_34 ?_
  obtain ⟨I5, eI5⟩ : ∃ z : gx_M, z = up I4 a0 4 (I4 p0 4) := ⟨_, rfl⟩
  replace h := h I5 eI5
  refine pX4_4 C hM hk0 eI5 gw_123 dX4_copyFrom_37 (fun H locs hM => ?_)
  refine lv_aload_n hx hb dX4_copyFrom_40 rfl (lv_at hl 0 rfl) ?_
  refine lv_aload_n hx hb dX4_copyFrom_41 rfl (lv_at hl 1 rfl) ?_
  refine gX4_5 C hM hp0 gw_126 dX4_copyFrom_42 ?_
  obtain ⟨I6, eI6⟩ : ∃ z : gx_M, z = up I5 a0 5 (I5 p0 5) := ⟨_, rfl⟩
  replace h := h I6 eI6
  refine pX4_5 C hM hk0 eI6 gw_126 dX4_copyFrom_45 (fun H locs hM => ?_)
  refine lv_aload_n hx hb dX4_copyFrom_48 rfl (lv_at hl 0 rfl) ?_
  refine lv_aload_n hx hb dX4_copyFrom_49 rfl (lv_at hl 1 rfl) ?_
  refine gX4_6 C hM hp0 gw_129 dX4_copyFrom_50 ?_
  obtain ⟨I7, eI7⟩ : ∃ z : gx_M, z = up I6 a0 6 (I6 p0 6) := ⟨_, rfl⟩
  replace h := h I7 eI7
  refine pX4_6 C hM hk0 eI7 gw_129 dX4_copyFrom_53 (fun H locs hM => ?_)
  refine lv_aload_n hx hb dX4_copyFrom_56 rfl (lv_at hl 0 rfl) ?_
  refine lv_aload_n hx hb dX4_copyFrom_57 rfl (lv_at hl 1 rfl) ?_
  refine gX4_7 C hM hp0 gw_132 dX4_copyFrom_58 ?_
  obtain ⟨I8, eI8⟩ : ∃ z : gx_M, z = up I7 a0 7 (I7 p0 7) := ⟨_, rfl⟩
  replace h := h I8 eI8
  refine pX4_7 C hM hk0 eI8 gw_132 dX4_copyFrom_61 (fun H locs hM => ?_)
  refine lv_aload_n hx hb dX4_copyFrom_64 rfl (lv_at hl 0 rfl) ?_
  refine lv_aload_n hx hb dX4_copyFrom_65 rfl (lv_at hl 1 rfl) ?_
  refine gX4_8 C hM hp0 gw_135 dX4_copyFrom_66 ?_
  obtain ⟨I9, eI9⟩ : ∃ z : gx_M, z = up I8 a0 8 (I8 p0 8 &&& 1) := ⟨_, rfl⟩
  replace h := h I9 eI9
  refine pX4_8 C hM hk0 (gz_and _) eI9 gw_135 dX4_copyFrom_69 (fun H locs hM => ?_)
  refine lv_iconst (v := (0 : Int32)) hx hb dX4_copyFrom_72 (by decide) ?_
  refine lv_istore_n (lv' := [(2, .int (0 : Int32)), (0, .ref (gx_ad L a0)), (1, .ref (gx_ad L p0))]) hx hb dX4_copyFrom_73 rfl hl (by decide) rfl (fun ls hl => ?_)
  obtain ⟨fu, h⟩ := h
  exact tl_X4_copyFrom_74 C fu a0 p0 (0 : Int32) (hk0) (hp0) I9 _ _ _ hM (lv_sub hl [1, 2, 0] rfl) h
theorem k_X4_copyFrom : gx_kV yX4_copyFrom cX4_copyFrom 3 none 1 := ⟨⟨gw_408, gw_62, by decide, by decide, by decide +kernel⟩, gw_406, gw_407⟩
abbrev rm_X5_copyFrom : Room := { frames := 1, cells := 0, slots := 0, locals := 26 }
set_option maxHeartbeats 4000000 in
set_option maxRecDepth 100000 in
theorem c_X5_copyFrom (l : Launch) (L : gx_L) (a0 : Nat) (hk0 : kX a0 = 5) (p0 : Nat) (hp0 : kX p0 = 5) (I : gx_M) (Q : gx_M → Prop) (h : wp_X5_copyFrom a0 p0 I Q) : Met l yX5_copyFrom (gx_w yX5_copyFrom cX5_copyFrom 2 none) rm_X5_copyFrom (va_Pc [.ref (gx_ad L a0), .ref (gx_ad L p0)] (gx_U L 282 (cellX L I))) (va_Qv Q (fun I' t => gx_U L 282 (cellX L I') t) (gx_A L)) 0 0 (gx_A L) := by
  refine gq_enter (by decide) (Nat.le_of_ble_eq_true rfl) (fun p e s m below meth c ls C hM hl => ?_)
  have C : gx_C L 282 p s m _ meth c RX5 cX5_copyFrom 2 none := C
  have hl : lv_has ls 2 [(0, .ref (gx_ad L a0)), (1, .ref (gx_ad L p0))] := hl
  have hx := C.1
  have hb := C.2.1
  unfold wp_X5_copyFrom at h
  refine lv_aload_n hx hb dX5_copyFrom_0 rfl (lv_at hl 1 rfl) ?_
  refine gX5_0 C hM hp0 gw_94 dX5_copyFrom_1 ?_
  refine galenX_20 C hM (kX_5_0 hp0) dX5_copyFrom_4 ?_
  refine lv_aload_n hx hb dX5_copyFrom_5 rfl (lv_at hl 0 rfl) ?_
  refine gX5_0 C hM hk0 gw_94 dX5_copyFrom_6 ?_
  refine galenX_20 C hM (kX_5_0 hk0) dX5_copyFrom_9 ?_
  refine lv_icmp_ne (tgt := 39) hx hb dX5_copyFrom_10 (by decide) (fun hc => ?_) (fun hc => ?_)
  · replace h := h.2 hc
    exact gq_vret C hM h dX5_copyFrom_39
  · replace h := h.1 hc
    refine lv_aload_n hx hb dX5_copyFrom_13 rfl (lv_at hl 1 rfl) ?_
    refine gX5_0 C hM hp0 gw_94 dX5_copyFrom_14 ?_
    refine lv_iconst (v := (0 : Int32)) hx hb dX5_copyFrom_17 (by decide) ?_
    refine lv_aload_n hx hb dX5_copyFrom_18 rfl (lv_at hl 0 rfl) ?_
    refine gX5_0 C hM hk0 gw_94 dX5_copyFrom_19 ?_
    refine lv_iconst (v := (0 : Int32)) hx hb dX5_copyFrom_22 (by decide) ?_
    refine lv_aload_n hx hb dX5_copyFrom_23 rfl (lv_at hl 0 rfl) ?_
    refine gX5_0 C hM hk0 gw_94 dX5_copyFrom_24 ?_
    refine galenX_20 C hM (kX_5_0 hk0) dX5_copyFrom_27 ?_
    have hi := h.1
    replace h := h.2
    obtain ⟨I1, eI1⟩ : ∃ z : gx_M, z = upr I (a0 + 1) (va_cpy (I (p0 + 1)) (I (a0 + 1)) (0 : Int32).toNatClampNeg (0 : Int32).toNatClampNeg (nI (nX (a0 + 1))).toNatClampNeg) := ⟨_, rfl⟩
    replace h := h I1 eI1
    refine gcopyX C hM (kX_5_0 hp0) (kX_5_0 hk0) gw_413 hl.1 hi eI1 (Nat.le_of_ble_eq_true rfl) (Nat.le_of_ble_eq_true rfl) dX5_copyFrom_28 (fun H locs hM => ?_)
    refine lv_aload_n hx hb dX5_copyFrom_31 rfl (lv_at hl 0 rfl) ?_
    refine lv_aload_n hx hb dX5_copyFrom_32 rfl (lv_at hl 1 rfl) ?_
    refine gX5_1 C hM hp0 gw_95 dX5_copyFrom_33 ?_
    obtain ⟨I2, eI2⟩ : ∃ z : gx_M, z = up I1 a0 1 (I1 p0 1) := ⟨_, rfl⟩
    replace h := h I2 eI2
    refine pX5_1 C hM hk0 eI2 gw_95 dX5_copyFrom_36 (fun H locs hM => ?_)
    exact gq_vret C hM h dX5_copyFrom_39
theorem k_X5_copyFrom : gx_kV yX5_copyFrom cX5_copyFrom 2 none 1 := ⟨⟨gw_412, gw_60, by decide, by decide, by decide +kernel⟩, gw_410, gw_411⟩
abbrev rm_X6_copyFrom : Room := { frames := 2, cells := 0, slots := 0, locals := 47 }
set_option maxHeartbeats 4000000 in
set_option maxRecDepth 100000 in
theorem tl_X6_copyFrom_2 (C : gx_C L 282 p s m args meth c RX6 cX6_copyFrom 3 none) {Q : gx_M → Prop} : ∀ (fu : Nat) (v0 : Nat) (v1 : Nat) (v2 : Int32) (hv0 : kX v0 = 6) (hv1 : kX v1 = 6) (I : gx_M) (H : Heap) (locs : List Loc) (ls : Array Slot), gx_S L 282 (cellX L I) s.heap H locs → lv_has ls 3 [(0, .ref (gx_ad L v0)), (1, .ref (gx_ad L v1)), (2, .int v2)] → wl_X6_copyFrom_2 Q fu v0 v1 v2 I → W p l e rm_X6_copyFrom s m args below meth c H locs 0 0 (MQ below (va_Qv Q (fun I' t => gx_U L 282 (cellX L I') t) (gx_A L)) args s 0 0 (gx_A L)) (F0 m 2 ls []) := by
  have hx := C.1
  have hb := C.2.1
  intro fu
  induction fu with
  | zero => intros; rename_i h; exact False.elim h
  | succ fu ih =>
    intro v0 v1 v2 hv0 hv1 I H locs ls hM hl h
    rw [wl_X6_copyFrom_2] at h
    refine lv_iload_n hx hb dX6_copyFrom_2 rfl (lv_at hl 2 rfl) ?_
    refine lv_bipush (v := (8 : Int32)) hx hb dX6_copyFrom_3 (by decide) ?_
    refine lv_icmp_ge (tgt := 29) hx hb dX6_copyFrom_5 (by decide) (fun hc => ?_) (fun hc => ?_)
    · replace h := h.1 hc
      refine lv_aload_n hx hb dX6_copyFrom_29 rfl (lv_at hl 0 rfl) ?_
      refine gX6_1 C hM hv0 gw_174 dX6_copyFrom_30 ?_
      refine lv_aload_n hx hb dX6_copyFrom_33 rfl (lv_at hl 1 rfl) ?_
      refine gX6_1 C hM hv1 gw_174 dX6_copyFrom_34 ?_
      refine gq_backv C hM (gq_runV (As := [.ref (gx_ad L (v1 + 2))]) (rest := []) C hM (kX_lt (kX_6_1 hv0) (by decide)) (cX_5 (kX_6_1 hv0)) rfl (c_X5_copyFrom l L (v0 + 2) (kX_6_1 hv0) (v1 + 2) (kX_6_1 hv1) I _ h) k_X5_copyFrom gw_409 rfl hl.1 rfl (Nat.le_of_ble_eq_true rfl) ⟨⟨rfl, rfl⟩, Nat.le_of_ble_eq_true rfl, Nat.le_of_ble_eq_true rfl⟩ ⟨Nat.zero_le _, Nat.zero_le _⟩ dX6_copyFrom_37) (fun I1 H locs h hM => ?_)
      refine lv_aload_n hx hb dX6_copyFrom_40 rfl (lv_at hl 0 rfl) ?_
      refine gX6_2 C hM hv0 gw_177 dX6_copyFrom_41 ?_
      refine lv_aload_n hx hb dX6_copyFrom_44 rfl (lv_at hl 1 rfl) ?_
      refine gX6_2 C hM hv1 gw_177 dX6_copyFrom_45 ?_
      refine gq_backv C hM (gq_runV (As := [.ref (gx_ad L (v1 + 4))]) (rest := []) C hM (kX_lt (kX_6_2 hv0) (by decide)) (cX_5 (kX_6_2 hv0)) rfl (c_X5_copyFrom l L (v0 + 4) (kX_6_2 hv0) (v1 + 4) (kX_6_2 hv1) I1 _ h) k_X5_copyFrom gw_409 rfl hl.1 rfl (Nat.le_of_ble_eq_true rfl) ⟨⟨rfl, rfl⟩, Nat.le_of_ble_eq_true rfl, Nat.le_of_ble_eq_true rfl⟩ ⟨Nat.zero_le _, Nat.zero_le _⟩ dX6_copyFrom_48) (fun I2 H locs h hM => ?_)
      refine lv_aload_n hx hb dX6_copyFrom_51 rfl (lv_at hl 0 rfl) ?_
      refine lv_aload_n hx hb dX6_copyFrom_52 rfl (lv_at hl 1 rfl) ?_
      refine gX6_3 C hM hv1 gw_179 dX6_copyFrom_53 ?_
      obtain ⟨I3, eI3⟩ : ∃ z : gx_M, z = up I2 v0 3 (I2 v1 3) := ⟨_, rfl⟩
      replace h := h I3 eI3
      refine pX6_3 C hM hv0 eI3 gw_179 dX6_copyFrom_56 (fun H locs hM => ?_)
      refine lv_aload_n hx hb dX6_copyFrom_59 rfl (lv_at hl 0 rfl) ?_
      refine lv_aload_n hx hb dX6_copyFrom_60 rfl (lv_at hl 1 rfl) ?_
      refine gX6_4 C hM hv1 gw_181 dX6_copyFrom_61 ?_
      obtain ⟨I4, eI4⟩ : ∃ z : gx_M, z = up I3 v0 4 (I3 v1 4) := ⟨_, rfl⟩
      replace h := h I4 eI4
      refine pX6_4 C hM hv0 eI4 gw_181 dX6_copyFrom_64 (fun H locs hM => ?_)
      refine lv_aload_n hx hb dX6_copyFrom_67 rfl (lv_at hl 0 rfl) ?_
      refine lv_aload_n hx hb dX6_copyFrom_68 rfl (lv_at hl 1 rfl) ?_
      refine gX6_5 C hM hv1 gw_184 dX6_copyFrom_69 ?_
      obtain ⟨I5, eI5⟩ : ∃ z : gx_M, z = up I4 v0 5 (I4 v1 5) := ⟨_, rfl⟩
      replace h := h I5 eI5
      refine pX6_5 C hM hv0 eI5 gw_184 dX6_copyFrom_72 (fun H locs hM => ?_)
      refine lv_aload_n hx hb dX6_copyFrom_75 rfl (lv_at hl 0 rfl) ?_
      refine lv_aload_n hx hb dX6_copyFrom_76 rfl (lv_at hl 1 rfl) ?_
      refine gX6_6 C hM hv1 gw_186 dX6_copyFrom_77 ?_
      obtain ⟨I6, eI6⟩ : ∃ z : gx_M, z = up I5 v0 6 (I5 v1 6) := ⟨_, rfl⟩
      replace h := h I6 eI6
      refine pX6_6 C hM hv0 eI6 gw_186 dX6_copyFrom_80 (fun H locs hM => ?_)
      refine lv_aload_n hx hb dX6_copyFrom_83 rfl (lv_at hl 0 rfl) ?_
      refine lv_aload_n hx hb dX6_copyFrom_84 rfl (lv_at hl 1 rfl) ?_
      refine gX6_7 C hM hv1 gw_188 dX6_copyFrom_85 ?_
      obtain ⟨I7, eI7⟩ : ∃ z : gx_M, z = up I6 v0 7 (I6 v1 7) := ⟨_, rfl⟩
      replace h := h I7 eI7
      refine pX6_7 C hM hv0 eI7 gw_188 dX6_copyFrom_88 (fun H locs hM => ?_)
      refine lv_aload_n hx hb dX6_copyFrom_91 rfl (lv_at hl 0 rfl) ?_
      refine lv_aload_n hx hb dX6_copyFrom_92 rfl (lv_at hl 1 rfl) ?_
      refine gX6_8 C hM hv1 gw_190 dX6_copyFrom_93 ?_
      obtain ⟨I8, eI8⟩ : ∃ z : gx_M, z = up I7 v0 8 (I7 v1 8) := ⟨_, rfl⟩
      replace h := h I8 eI8
      refine pX6_8 C hM hv0 eI8 gw_190 dX6_copyFrom_96 (fun H locs hM => ?_)
      refine lv_aload_n hx hb dX6_copyFrom_99 rfl (lv_at hl 0 rfl) ?_
      refine lv_aload_n hx hb dX6_copyFrom_100 rfl (lv_at hl 1 rfl) ?_
      refine gX6_9 C hM hv1 gw_192 dX6_copyFrom_101 ?_
      obtain ⟨I9, eI9⟩ : ∃ z : gx_M, z = up I8 v0 9 (I8 v1 9) := ⟨_, rfl⟩
      replace h := h I9 eI9
      refine pX6_9 C hM hv0 eI9 gw_192 dX6_copyFrom_104 (fun H locs hM => ?_)
      exact gq_vret C hM h dX6_copyFrom_107
    · replace h := h.2 hc
      refine lv_aload_n hx hb dX6_copyFrom_8 rfl (lv_at hl 0 rfl) ?_
      refine gX6_0 C hM hv0 gw_172 dX6_copyFrom_9 ?_
      refine lv_iload_n hx hb dX6_copyFrom_12 rfl (lv_at hl 2 rfl) ?_
      have hi := h.1
      replace h := h.2
      refine gaald_23 C hM (kX_6_0 hv0) hi dX6_copyFrom_13 ?_
      have hk1 := kX_23 (kX_6_0 hv0) (Nat.not_le.mp fun q => hi (Or.inr q))
      refine lv_aload_n hx hb dX6_copyFrom_14 rfl (lv_at hl 1 rfl) ?_
      refine gX6_0 C hM hv1 gw_172 dX6_copyFrom_15 ?_
      refine lv_iload_n hx hb dX6_copyFrom_18 rfl (lv_at hl 2 rfl) ?_
      have hi := h.1
      replace h := h.2
      refine gaald_23 C hM (kX_6_0 hv1) hi dX6_copyFrom_19 ?_
      have hk2 := kX_23 (kX_6_0 hv1) (Nat.not_le.mp fun q => hi (Or.inr q))
      refine gq_backv C hM (gq_runV (As := [.ref (gx_ad L ((v1 + 1) + 5 + 4 * v2.toNatClampNeg))]) (rest := []) C hM (kX_lt hk1 (by decide)) (cX_4 hk1) rfl (c_X4_copyFrom l L ((v0 + 1) + 5 + 4 * v2.toNatClampNeg) hk1 ((v1 + 1) + 5 + 4 * v2.toNatClampNeg) hk2 I _ h) k_X4_copyFrom gw_405 rfl hl.1 rfl (Nat.le_of_ble_eq_true rfl) ⟨⟨rfl, rfl⟩, Nat.le_of_ble_eq_true rfl, Nat.le_of_ble_eq_true rfl⟩ ⟨Nat.zero_le _, Nat.zero_le _⟩ dX6_copyFrom_20) (fun I10 H locs h hM => ?_)
      obtain ⟨x1, ex1⟩ : ∃ z : Int32, z = v2 + (1 : Int32) := ⟨_, rfl⟩
      replace h := h x1 ex1
      refine lv_iinc (v := x1) (lv' := [(2, .int x1), (0, .ref (gx_ad L v0)), (1, .ref (gx_ad L v1))]) hx hb dX6_copyFrom_23 hl (k := 2) rfl (by rw [ex1]; rfl) (by decide) rfl (fun ls hl => ?_)
      refine lv_goto (tgt := 2) hx hb dX6_copyFrom_26 (by decide) ?_
      exact ih v0 v1 x1 (hv0) (hv1) I10 _ _ _ hM (lv_sub hl [1, 2, 0] rfl) h
set_option maxHeartbeats 4000000 in
set_option maxRecDepth 100000 in
theorem c_X6_copyFrom (l : Launch) (L : gx_L) (a0 : Nat) (hk0 : kX a0 = 6) (p0 : Nat) (hp0 : kX p0 = 6) (I : gx_M) (Q : gx_M → Prop) (h : wp_X6_copyFrom a0 p0 I Q) : Met l yX6_copyFrom (gx_w yX6_copyFrom cX6_copyFrom 3 none) rm_X6_copyFrom (va_Pc [.ref (gx_ad L a0), .ref (gx_ad L p0)] (gx_U L 282 (cellX L I))) (va_Qv Q (fun I' t => gx_U L 282 (cellX L I') t) (gx_A L)) 0 0 (gx_A L) := by
  refine gq_enter (by decide) (Nat.le_of_ble_eq_true rfl) (fun p e s m below meth c ls C hM hl => ?_)
  have C : gx_C L 282 p s m _ meth c RX6 cX6_copyFrom 3 none := C
  have hl : lv_has ls 3 [(0, .ref (gx_ad L a0)), (1, .ref (gx_ad L p0))] := hl
  have hx := C.1
  have hb := C.2.1
  unfold wp_X6_copyFrom at h
  refine lv_iconst (v := (0 : Int32)) hx hb dX6_copyFrom_0 (by decide) ?_
  refine lv_istore_n (lv' := [(2, .int (0 : Int32)), (0, .ref (gx_ad L a0)), (1, .ref (gx_ad L p0))]) hx hb dX6_copyFrom_1 rfl hl (by decide) rfl (fun ls hl => ?_)
  obtain ⟨fu, h⟩ := h
  exact tl_X6_copyFrom_2 C fu a0 p0 (0 : Int32) (hk0) (hp0) I _ _ _ hM (lv_sub hl [1, 2, 0] rfl) h
theorem k_X6_copyFrom : gx_kV yX6_copyFrom cX6_copyFrom 3 none 1 := ⟨⟨gw_404, gw_59, by decide, by decide, by decide +kernel⟩, gw_402, gw_403⟩
abbrev rm_X0_add : Room := { frames := 3, cells := 0, slots := 0, locals := 69 }
set_option maxHeartbeats 4000000 in
set_option maxRecDepth 100000 in
theorem tj_X0_add_12 (C : gx_C L 282 p s m args meth c RX0 cX0_add 2 none) {Q : gx_M → Prop} : ∀ (v0 : Nat) (v1 : Nat) (hv0 : kX v0 = 0) (hv1 : kX v1 = 6) (I : gx_M) (H : Heap) (locs : List Loc) (ls : Array Slot), gx_S L 282 (cellX L I) s.heap H locs → lv_has ls 2 [(0, .ref (gx_ad L v0)), (1, .ref (gx_ad L v1))] → wj_X0_add_12 Q v0 v1 I → W p l e rm_X0_add s m args below meth c H locs 0 0 (MQ below (va_Qv Q (fun I' t => gx_U L 282 (cellX L I') t) (gx_A L)) args s 0 0 (gx_A L)) (F0 m 12 ls []) := by
  have hx := C.1
  have hb := C.2.1
  intro v0 v1 hv0 hv1 I H locs ls hM hl h
  unfold wj_X0_add_12 at h
  refine lv_aload_n hx hb dX0_add_12 rfl (lv_at hl 0 rfl) ?_
  refine gX0_1 C hM hv0 gw_225 dX0_add_13 ?_
  refine lv_if_lt (tgt := 54) hx hb dX0_add_16 (by decide) (fun hc => ?_) (fun hc => ?_)
  · replace h := h.1 hc
    exact gq_vret C hM h dX0_add_54
  · replace h := h.2 hc
    refine lv_aload_n hx hb dX0_add_19 rfl (lv_at hl 0 rfl) ?_
    refine gX0_1 C hM hv0 gw_225 dX0_add_20 ?_
    refine lv_aload_n hx hb dX0_add_23 rfl (lv_at hl 0 rfl) ?_
    refine gX0_0 C hM hv0 gw_224 dX0_add_24 ?_
    refine galenX_24 C hM (kX_0_0 hv0) dX0_add_27 ?_
    refine lv_icmp_ge (tgt := 54) hx hb dX0_add_28 (by decide) (fun hc => ?_) (fun hc => ?_)
    · replace h := h.1 hc
      exact gq_vret C hM h dX0_add_54
    · replace h := h.2 hc
      refine lv_aload_n hx hb dX0_add_31 rfl (lv_at hl 0 rfl) ?_
      refine gX0_0 C hM hv0 gw_224 dX0_add_32 ?_
      refine lv_aload_n hx hb dX0_add_35 rfl (lv_at hl 0 rfl) ?_
      refine gX0_1 C hM hv0 gw_225 dX0_add_36 ?_
      have hi := h.1
      replace h := h.2
      refine gaald_24 C hM (kX_0_0 hv0) hi dX0_add_39 ?_
      refine lv_aload_n hx hb dX0_add_40 rfl (lv_at hl 1 rfl) ?_
      refine gq_backv C hM (gq_runV (As := [.ref (gx_ad L v1)]) (rest := []) C hM (kX_lt (kX_sd _) (by decide)) (cX_6 (kX_sd _)) rfl (c_X6_copyFrom l L (sd (I (v0 + 1) (I v0 1).toNatClampNeg)) (kX_sd _) v1 hv1 I _ h) k_X6_copyFrom gw_401 rfl hl.1 rfl (Nat.le_of_ble_eq_true rfl) ⟨⟨rfl, rfl⟩, Nat.le_of_ble_eq_true rfl, Nat.le_of_ble_eq_true rfl⟩ ⟨Nat.zero_le _, Nat.zero_le _⟩ dX0_add_41) (fun I1 H locs h hM => ?_)
      refine lv_aload_n hx hb dX0_add_44 rfl (lv_at hl 0 rfl) ?_
      refine lv_dup hx hb dX0_add_45 rfl ?_
      refine gX0_1 C hM hv0 gw_225 dX0_add_46 ?_
      refine lv_iconst (v := (1 : Int32)) hx hb dX0_add_49 (by decide) ?_
      refine lv_iadd hx hb dX0_add_50 ?_
      obtain ⟨I2, eI2⟩ : ∃ z : gx_M, z = up I1 v0 1 ((I1 v0 1) + (1 : Int32)) := ⟨_, rfl⟩
      replace h := h I2 eI2
      refine pX0_1 C hM hv0 eI2 gw_225 dX0_add_51 (fun H locs hM => ?_)
      exact gq_vret C hM h dX0_add_54
set_option maxHeartbeats 4000000 in
set_option maxRecDepth 100000 in
theorem c_X0_add (l : Launch) (L : gx_L) (a0 : Nat) (hk0 : kX a0 = 0) (p0 : Nat) (hp0 : kX p0 = 6) (I : gx_M) (Q : gx_M → Prop) (h : wp_X0_add a0 p0 I Q) : Met l yX0_add (gx_w yX0_add cX0_add 2 none) rm_X0_add (va_Pc [.ref (gx_ad L a0), .ref (gx_ad L p0)] (gx_U L 282 (cellX L I))) (va_Qv Q (fun I' t => gx_U L 282 (cellX L I') t) (gx_A L)) 0 0 (gx_A L) := by
  refine gq_enter (by decide) (Nat.le_of_ble_eq_true rfl) (fun p e s m below meth c ls C hM hl => ?_)
  have C : gx_C L 282 p s m _ meth c RX0 cX0_add 2 none := C
  have hl : lv_has ls 2 [(0, .ref (gx_ad L a0)), (1, .ref (gx_ad L p0))] := hl
  have hx := C.1
  have hb := C.2.1
  unfold wp_X0_add at h
  refine lv_aload_n hx hb dX0_add_0 rfl (lv_at hl 0 rfl) ?_
  refine gX0_1 C hM hk0 gw_225 dX0_add_1 ?_
  refine lv_iconst (v := (5 : Int32)) hx hb dX0_add_4 (by decide) ?_
  refine lv_icmp_lt (tgt := 12) hx hb dX0_add_5 (by decide) (fun hc => ?_) (fun hc => ?_)
  · replace h := h.1 hc
    exact tj_X0_add_12 C a0 p0 (hk0) (hp0) I _ _ _ hM (lv_sub hl [0, 1] rfl) h
  · replace h := h.2 hc
    refine lv_aload_n hx hb dX0_add_8 rfl (lv_at hl 0 rfl) ?_
    refine gq_backv C hM (gq_runV (As := []) (rest := []) C hM (kX_lt hk0 (by decide)) (cX_0 hk0) rfl (c_X0_dropOldest l L a0 hk0 I _ h) k_X0_dropOldest gw_397 rfl hl.1 rfl (Nat.le_of_ble_eq_true rfl) ⟨⟨rfl, rfl⟩, Nat.le_of_ble_eq_true rfl, Nat.le_of_ble_eq_true rfl⟩ ⟨Nat.zero_le _, Nat.zero_le _⟩ dX0_add_9) (fun I1 H locs h hM => ?_)
    exact tj_X0_add_12 C a0 p0 (hk0) (hp0) I1 _ _ _ hM (lv_sub hl [0, 1] rfl) h
theorem k_X0_add : gx_kV yX0_add cX0_add 2 none 1 := ⟨⟨gw_396, gw_63, by decide, by decide, by decide +kernel⟩, gw_394, gw_395⟩
abbrev rm_X0_takeLatest : Room := { frames := 0, cells := 0, slots := 0, locals := 0 }
set_option maxHeartbeats 4000000 in
set_option maxRecDepth 100000 in
theorem c_X0_takeLatest (l : Launch) (L : gx_L) (a0 : Nat) (hk0 : kX a0 = 0) (I : gx_M) (Q : Option Nat → gx_M → Prop) (h : wp_X0_takeLatest a0 I Q) : Met l yX0_takeLatest (gx_w yX0_takeLatest cX0_takeLatest 1 (some (.object RX6))) rm_X0_takeLatest (va_Pc [.ref (gx_ad L a0)] (gx_U L 282 (cellX L I))) (va_Qe (gx_ad L) (fun r I' => (∀ b, r = some b → kX b = 6) ∧ Q r I') (fun I' t => gx_U L 282 (cellX L I') t) (gx_A L)) 0 0 (gx_A L) := by
  refine gq_enter (by decide) (Nat.le_of_ble_eq_true rfl) (fun p e s m below meth c ls C hM hl => ?_)
  have C : gx_C L 282 p s m _ meth c RX0 cX0_takeLatest 1 (some (.object RX6)) := C
  have hl : lv_has ls 1 [(0, .ref (gx_ad L a0))] := hl
  have hx := C.1
  have hb := C.2.1
  unfold wp_X0_takeLatest at h
  refine lv_aload_n hx hb dX0_takeLatest_0 rfl (lv_at hl 0 rfl) ?_
  refine gX0_1 C hM hk0 gw_225 dX0_takeLatest_1 ?_
  refine lv_if_le (tgt := 19) hx hb dX0_takeLatest_4 (by decide) (fun hc => ?_) (fun hc => ?_)
  · replace h := h.1 hc
    refine lv_null hx hb dX0_takeLatest_19 ?_
    exact gq_nret C hM ⟨fun b hb => (by cases hb), h⟩ dX0_takeLatest_20
  · replace h := h.2 hc
    refine lv_aload_n hx hb dX0_takeLatest_7 rfl (lv_at hl 0 rfl) ?_
    refine gX0_1 C hM hk0 gw_225 dX0_takeLatest_8 ?_
    refine lv_aload_n hx hb dX0_takeLatest_11 rfl (lv_at hl 0 rfl) ?_
    refine gX0_0 C hM hk0 gw_224 dX0_takeLatest_12 ?_
    refine galenX_24 C hM (kX_0_0 hk0) dX0_takeLatest_15 ?_
    refine lv_icmp_le (tgt := 21) hx hb dX0_takeLatest_16 (by decide) (fun hc => ?_) (fun hc => ?_)
    · replace h := h.1 hc
      refine lv_aload_n hx hb dX0_takeLatest_21 rfl (lv_at hl 0 rfl) ?_
      refine lv_dup hx hb dX0_takeLatest_22 rfl ?_
      refine gX0_1 C hM hk0 gw_225 dX0_takeLatest_23 ?_
      refine lv_iconst (v := (1 : Int32)) hx hb dX0_takeLatest_26 (by decide) ?_
      refine lv_isub hx hb dX0_takeLatest_27 ?_
      obtain ⟨I1, eI1⟩ : ∃ z : gx_M, z = up I a0 1 ((I a0 1) - (1 : Int32)) := ⟨_, rfl⟩
      replace h := h I1 eI1
      refine pX0_1 C hM hk0 eI1 gw_225 dX0_takeLatest_28 (fun H locs hM => ?_)
      refine lv_aload_n hx hb dX0_takeLatest_31 rfl (lv_at hl 0 rfl) ?_
      refine gX0_0 C hM hk0 gw_224 dX0_takeLatest_32 ?_
      refine lv_aload_n hx hb dX0_takeLatest_35 rfl (lv_at hl 0 rfl) ?_
      refine gX0_1 C hM hk0 gw_225 dX0_takeLatest_36 ?_
      have hi := h.1
      replace h := h.2
      refine gaald_24 C hM (kX_0_0 hk0) hi dX0_takeLatest_39 ?_
      exact gq_aret C hM ⟨fun b hb => (by cases hb; exact kX_sd _), h⟩ dX0_takeLatest_40
    · replace h := h.2 hc
      refine lv_null hx hb dX0_takeLatest_19 ?_
      exact gq_nret C hM ⟨fun b hb => (by cases hb), h⟩ dX0_takeLatest_20
theorem k_X0_takeLatest : gx_kV yX0_takeLatest cX0_takeLatest 1 (some (.object RX6)) 0 := ⟨⟨gw_668, gw_63, by decide, by decide, by decide +kernel⟩, gw_666, gw_667⟩
abbrev rm_X1_append : Room := { frames := 0, cells := 0, slots := 0, locals := 0 }
set_option maxHeartbeats 4000000 in
set_option maxRecDepth 100000 in
theorem c_X1_append (l : Launch) (L : gx_L) (a0 : Nat) (hk0 : kX a0 = 1) (p0 : Int32) (I : gx_M) (Q : Int32 → gx_M → Prop) (h : wp_X1_append a0 p0 I Q) : Met l yX1_append (gx_w yX1_append cX1_append 2 (some .boolean)) rm_X1_append (va_Pc [.ref (gx_ad L a0), .int p0] (gx_U L 282 (cellX L I))) (va_Qi (fun r I' => r &&& 1 = r ∧ Q r I') (fun I' t => gx_U L 282 (cellX L I') t) (gx_A L)) 0 0 (gx_A L) := by
  refine gq_enter (by decide) (Nat.le_of_ble_eq_true rfl) (fun p e s m below meth c ls C hM hl => ?_)
  have C : gx_C L 282 p s m _ meth c RX1 cX1_append 2 (some .boolean) := C
  have hl : lv_has ls 2 [(0, .ref (gx_ad L a0)), (1, .int p0)] := hl
  have hx := C.1
  have hb := C.2.1
  unfold wp_X1_append at h
  refine lv_aload_n hx hb dX1_append_0 rfl (lv_at hl 0 rfl) ?_
  refine gX1_2 C hM hk0 gw_243 dX1_append_1 ?_
  refine lv_if_lt (tgt := 19) hx hb dX1_append_4 (by decide) (fun hc => ?_) (fun hc => ?_)
  · replace h := h.1 hc
    refine lv_iconst (v := (0 : Int32)) hx hb dX1_append_19 (by decide) ?_
    exact gq_zret C hM ⟨rfl, h⟩ (rfl) dX1_append_20
  · replace h := h.2 hc
    refine lv_aload_n hx hb dX1_append_7 rfl (lv_at hl 0 rfl) ?_
    refine gX1_2 C hM hk0 gw_243 dX1_append_8 ?_
    refine lv_aload_n hx hb dX1_append_11 rfl (lv_at hl 0 rfl) ?_
    refine gX1_0 C hM hk0 gw_240 dX1_append_12 ?_
    refine galenX_20 C hM (kX_1_0 hk0) dX1_append_15 ?_
    refine lv_icmp_lt (tgt := 21) hx hb dX1_append_16 (by decide) (fun hc => ?_) (fun hc => ?_)
    · replace h := h.1 hc
      refine lv_aload_n hx hb dX1_append_21 rfl (lv_at hl 0 rfl) ?_
      refine gX1_0 C hM hk0 gw_240 dX1_append_22 ?_
      refine lv_aload_n hx hb dX1_append_25 rfl (lv_at hl 0 rfl) ?_
      refine gX1_2 C hM hk0 gw_243 dX1_append_26 ?_
      refine lv_iload_n hx hb dX1_append_29 rfl (lv_at hl 1 rfl) ?_
      have hi := h.1
      replace h := h.2
      obtain ⟨I1, eI1⟩ : ∃ z : gx_M, z = up I (a0 + 1) (I a0 2).toNatClampNeg p0 := ⟨_, rfl⟩
      replace h := h I1 eI1
      refine giastX C hM (kX_1_0 hk0) hi eI1 dX1_append_30 (fun H locs hM => ?_)
      refine lv_aload_n hx hb dX1_append_31 rfl (lv_at hl 0 rfl) ?_
      refine lv_dup hx hb dX1_append_32 rfl ?_
      refine gX1_2 C hM hk0 gw_243 dX1_append_33 ?_
      refine lv_iconst (v := (1 : Int32)) hx hb dX1_append_36 (by decide) ?_
      refine lv_iadd hx hb dX1_append_37 ?_
      obtain ⟨I2, eI2⟩ : ∃ z : gx_M, z = up I1 a0 2 ((I1 a0 2) + (1 : Int32)) := ⟨_, rfl⟩
      replace h := h I2 eI2
      refine pX1_2 C hM hk0 eI2 gw_243 dX1_append_38 (fun H locs hM => ?_)
      refine lv_iconst (v := (1 : Int32)) hx hb dX1_append_41 (by decide) ?_
      exact gq_zret C hM ⟨rfl, h⟩ (rfl) dX1_append_42
    · replace h := h.2 hc
      refine lv_iconst (v := (0 : Int32)) hx hb dX1_append_19 (by decide) ?_
      exact gq_zret C hM ⟨rfl, h⟩ (rfl) dX1_append_20
theorem k_X1_append : gx_kV yX1_append cX1_append 2 (some .boolean) 1 := ⟨⟨gw_622, gw_64, by decide, by decide, by decide +kernel⟩, gw_620, gw_621⟩
abbrev rm_X1_takeComma : Room := { frames := 0, cells := 0, slots := 0, locals := 0 }
set_option maxHeartbeats 4000000 in
set_option maxRecDepth 100000 in
theorem c_X1_takeComma (l : Launch) (L : gx_L) (a0 : Nat) (hk0 : kX a0 = 1) (p0 : Int32) (I : gx_M) (Q : Int32 → gx_M → Prop) (h : wp_X1_takeComma a0 p0 I Q) : Met l yX1_takeComma (gx_w yX1_takeComma cX1_takeComma 2 (some .int)) rm_X1_takeComma (va_Pc [.ref (gx_ad L a0), .int p0] (gx_U L 282 (cellX L I))) (va_Qi Q (fun I' t => gx_U L 282 (cellX L I') t) (gx_A L)) 0 0 (gx_A L) := by
  refine gq_enter (by decide) (Nat.le_of_ble_eq_true rfl) (fun p e s m below meth c ls C hM hl => ?_)
  have C : gx_C L 282 p s m _ meth c RX1 cX1_takeComma 2 (some .int) := C
  have hl : lv_has ls 2 [(0, .ref (gx_ad L a0)), (1, .int p0)] := hl
  have hx := C.1
  have hb := C.2.1
  unfold wp_X1_takeComma at h
  refine lv_iload_n hx hb dX1_takeComma_0 rfl (lv_at hl 1 rfl) ?_
  refine lv_bipush (v := (44 : Int32)) hx hb dX1_takeComma_1 (by decide) ?_
  refine lv_icmp_ne (tgt := 10) hx hb dX1_takeComma_3 (by decide) (fun hc => ?_) (fun hc => ?_)
  · replace h := h.2 hc
    refine lv_iconst (v := (5 : Int32)) hx hb dX1_takeComma_10 (by decide) ?_
    exact gq_iret C hM h dX1_takeComma_11
  · replace h := h.1 hc
    refine lv_iconst (v := (0 : Int32)) hx hb dX1_takeComma_6 (by decide) ?_
    refine lv_goto (tgt := 11) hx hb dX1_takeComma_7 (by decide) ?_
    exact gq_iret C hM h dX1_takeComma_11
theorem k_X1_takeComma : gx_kV yX1_takeComma cX1_takeComma 2 (some .int) 1 := ⟨⟨gw_652, gw_64, by decide, by decide, by decide +kernel⟩, gw_651, gw_19⟩
abbrev rm_X1_takeLetter : Room := { frames := 0, cells := 0, slots := 0, locals := 0 }
set_option maxHeartbeats 4000000 in
set_option maxRecDepth 100000 in
theorem c_X1_takeLetter (l : Launch) (L : gx_L) (a0 : Nat) (hk0 : kX a0 = 1) (p0 : Int32) (I : gx_M) (Q : Int32 → gx_M → Prop) (h : wp_X1_takeLetter a0 p0 I Q) : Met l yX1_takeLetter (gx_w yX1_takeLetter cX1_takeLetter 2 (some .int)) rm_X1_takeLetter (va_Pc [.ref (gx_ad L a0), .int p0] (gx_U L 282 (cellX L I))) (va_Qi Q (fun I' t => gx_U L 282 (cellX L I') t) (gx_A L)) 0 0 (gx_A L) := by
  refine gq_enter (by decide) (Nat.le_of_ble_eq_true rfl) (fun p e s m below meth c ls C hM hl => ?_)
  have C : gx_C L 282 p s m _ meth c RX1 cX1_takeLetter 2 (some .int) := C
  have hl : lv_has ls 2 [(0, .ref (gx_ad L a0)), (1, .int p0)] := hl
  have hx := C.1
  have hb := C.2.1
  unfold wp_X1_takeLetter at h
  refine lv_iload_n hx hb dX1_takeLetter_0 rfl (lv_at hl 1 rfl) ?_
  by_cases hs0 : p0 = (98 : Int32)
  · replace h := h.1 hs0
    refine lv_lookup (tgt := 44) hx hb dX1_takeLetter_1 (by decide) (off := 43) (by rw [hs0]; decide) (by decide) ?_
    refine lv_aload_n hx hb dX1_takeLetter_44 rfl (lv_at hl 0 rfl) ?_
    refine lv_iconst (v := (1 : Int32)) hx hb dX1_takeLetter_45 (by decide) ?_
    obtain ⟨I1, eI1⟩ : ∃ z : gx_M, z = up I a0 3 (1 : Int32) := ⟨_, rfl⟩
    replace h := h I1 eI1
    refine pX1_3 C hM hk0 eI1 gw_245 dX1_takeLetter_46 (fun H locs hM => ?_)
    refine lv_goto (tgt := 62) hx hb dX1_takeLetter_49 (by decide) ?_
    refine lv_iconst (v := (1 : Int32)) hx hb dX1_takeLetter_62 (by decide) ?_
    exact gq_iret C hM h dX1_takeLetter_63
  by_cases hs1 : p0 = (114 : Int32)
  · replace h := h.2.1 hs1
    refine lv_lookup (tgt := 36) hx hb dX1_takeLetter_1 (by decide) (off := 35) (by rw [hs1]; decide) (by decide) ?_
    refine lv_aload_n hx hb dX1_takeLetter_36 rfl (lv_at hl 0 rfl) ?_
    refine lv_iconst (v := (0 : Int32)) hx hb dX1_takeLetter_37 (by decide) ?_
    obtain ⟨I2, eI2⟩ : ∃ z : gx_M, z = up I a0 3 (0 : Int32) := ⟨_, rfl⟩
    replace h := h I2 eI2
    refine pX1_3 C hM hk0 eI2 gw_245 dX1_takeLetter_38 (fun H locs hM => ?_)
    refine lv_goto (tgt := 62) hx hb dX1_takeLetter_41 (by decide) ?_
    refine lv_iconst (v := (1 : Int32)) hx hb dX1_takeLetter_62 (by decide) ?_
    exact gq_iret C hM h dX1_takeLetter_63
  by_cases hs2 : p0 = (115 : Int32)
  · replace h := h.2.2.1 hs2
    refine lv_lookup (tgt := 52) hx hb dX1_takeLetter_1 (by decide) (off := 51) (by rw [hs2]; decide) (by decide) ?_
    refine lv_aload_n hx hb dX1_takeLetter_52 rfl (lv_at hl 0 rfl) ?_
    refine lv_iconst (v := (2 : Int32)) hx hb dX1_takeLetter_53 (by decide) ?_
    obtain ⟨I3, eI3⟩ : ∃ z : gx_M, z = up I a0 3 (2 : Int32) := ⟨_, rfl⟩
    replace h := h I3 eI3
    refine pX1_3 C hM hk0 eI3 gw_245 dX1_takeLetter_54 (fun H locs hM => ?_)
    refine lv_goto (tgt := 62) hx hb dX1_takeLetter_57 (by decide) ?_
    refine lv_iconst (v := (1 : Int32)) hx hb dX1_takeLetter_62 (by decide) ?_
    exact gq_iret C hM h dX1_takeLetter_63
  replace h := h.2.2.2 hs0 hs1 hs2
  refine lv_lookup (tgt := 60) hx hb dX1_takeLetter_1 (by decide) (off := 59) (by rw [lv_osw (k := (98 : Int32)) hs0 (by decide)]; rw [lv_osw (k := (114 : Int32)) hs1 (by decide)]; rw [lv_osw (k := (115 : Int32)) hs2 (by decide)]; rfl) (by decide) ?_
  refine lv_iconst (v := (5 : Int32)) hx hb dX1_takeLetter_60 (by decide) ?_
  exact gq_iret C hM h dX1_takeLetter_61
theorem k_X1_takeLetter : gx_kV yX1_takeLetter cX1_takeLetter 2 (some .int) 1 := ⟨⟨gw_642, gw_64, by decide, by decide, by decide +kernel⟩, gw_641, gw_17⟩
abbrev rm_X5_add : Room := { frames := 0, cells := 0, slots := 0, locals := 0 }
set_option maxHeartbeats 4000000 in
set_option maxRecDepth 100000 in
theorem c_X5_add (l : Launch) (L : gx_L) (a0 : Nat) (hk0 : kX a0 = 5) (p0 : Int32) (p1 : Int32) (p2 : Int32) (p3 : Int32) (I : gx_M) (Q : gx_M → Prop) (h : wp_X5_add a0 p0 p1 p2 p3 I Q) : Met l yX5_add (gx_w yX5_add cX5_add 6 none) rm_X5_add (va_Pc [.ref (gx_ad L a0), .int p0, .int p1, .int p2, .int p3] (gx_U L 282 (cellX L I))) (va_Qv Q (fun I' t => gx_U L 282 (cellX L I') t) (gx_A L)) 0 0 (gx_A L) := by
  refine gq_enter (by decide) (Nat.le_of_ble_eq_true rfl) (fun p e s m below meth c ls C hM hl => ?_)
  have C : gx_C L 282 p s m _ meth c RX5 cX5_add 6 none := C
  have hl : lv_has ls 6 [(0, .ref (gx_ad L a0)), (1, .int p0), (2, .int p1), (3, .int p2), (4, .int p3)] := hl
  have hx := C.1
  have hb := C.2.1
  unfold wp_X5_add at h
  refine lv_aload_n hx hb dX5_add_0 rfl (lv_at hl 0 rfl) ?_
  refine gX5_1 C hM hk0 gw_95 dX5_add_1 ?_
  refine lv_iconst (v := (4 : Int32)) hx hb dX5_add_4 (by decide) ?_
  refine lv_imul hx hb dX5_add_5 ?_
  refine lv_topi (fun x1 ex1 => ?_)
  replace h := h x1 ex1
  refine lv_istore (lv' := [(5, .int x1), (0, .ref (gx_ad L a0)), (1, .int p0), (2, .int p1), (3, .int p2), (4, .int p3)]) hx hb dX5_add_6 hl (by decide) rfl (fun ls hl => ?_)
  refine lv_iload hx hb dX5_add_8 (lv_at hl 0 rfl) ?_
  refine lv_if_lt (tgt := 25) hx hb dX5_add_10 (by decide) (fun hc => ?_) (fun hc => ?_)
  · replace h := h.1 hc
    exact gq_vret C hM h dX5_add_25
  · replace h := h.2 hc
    refine lv_iload hx hb dX5_add_13 (lv_at hl 0 rfl) ?_
    refine lv_iconst (v := (4 : Int32)) hx hb dX5_add_15 (by decide) ?_
    refine lv_iadd hx hb dX5_add_16 ?_
    refine lv_aload_n hx hb dX5_add_17 rfl (lv_at hl 1 rfl) ?_
    refine gX5_0 C hM hk0 gw_94 dX5_add_18 ?_
    refine galenX_20 C hM (kX_5_0 hk0) dX5_add_21 ?_
    refine lv_icmp_le (tgt := 26) hx hb dX5_add_22 (by decide) (fun hc => ?_) (fun hc => ?_)
    · replace h := h.1 hc
      refine lv_aload_n hx hb dX5_add_26 rfl (lv_at hl 1 rfl) ?_
      refine gX5_0 C hM hk0 gw_94 dX5_add_27 ?_
      refine lv_iload hx hb dX5_add_30 (lv_at hl 0 rfl) ?_
      refine lv_iload_n hx hb dX5_add_32 rfl (lv_at hl 2 rfl) ?_
      have hi := h.1
      replace h := h.2
      obtain ⟨I1, eI1⟩ : ∃ z : gx_M, z = up I (a0 + 1) x1.toNatClampNeg p0 := ⟨_, rfl⟩
      replace h := h I1 eI1
      refine giastX C hM (kX_5_0 hk0) hi eI1 dX5_add_33 (fun H locs hM => ?_)
      refine lv_aload_n hx hb dX5_add_34 rfl (lv_at hl 1 rfl) ?_
      refine gX5_0 C hM hk0 gw_94 dX5_add_35 ?_
      refine lv_iload hx hb dX5_add_38 (lv_at hl 0 rfl) ?_
      refine lv_iconst (v := (1 : Int32)) hx hb dX5_add_40 (by decide) ?_
      refine lv_iadd hx hb dX5_add_41 ?_
      refine lv_iload_n hx hb dX5_add_42 rfl (lv_at hl 3 rfl) ?_
      have hi := h.1
      replace h := h.2
      obtain ⟨I2, eI2⟩ : ∃ z : gx_M, z = up I1 (a0 + 1) (x1 + (1 : Int32)).toNatClampNeg p1 := ⟨_, rfl⟩
      replace h := h I2 eI2
      refine giastX C hM (kX_5_0 hk0) hi eI2 dX5_add_43 (fun H locs hM => ?_)
      refine lv_aload_n hx hb dX5_add_44 rfl (lv_at hl 1 rfl) ?_
      refine gX5_0 C hM hk0 gw_94 dX5_add_45 ?_
      refine lv_iload hx hb dX5_add_48 (lv_at hl 0 rfl) ?_
      refine lv_iconst (v := (2 : Int32)) hx hb dX5_add_50 (by decide) ?_
      refine lv_iadd hx hb dX5_add_51 ?_
      refine lv_iload_n hx hb dX5_add_52 rfl (lv_at hl 4 rfl) ?_
      have hi := h.1
      replace h := h.2
      obtain ⟨I3, eI3⟩ : ∃ z : gx_M, z = up I2 (a0 + 1) (x1 + (2 : Int32)).toNatClampNeg p2 := ⟨_, rfl⟩
      replace h := h I3 eI3
      refine giastX C hM (kX_5_0 hk0) hi eI3 dX5_add_53 (fun H locs hM => ?_)
      refine lv_aload_n hx hb dX5_add_54 rfl (lv_at hl 1 rfl) ?_
      refine gX5_0 C hM hk0 gw_94 dX5_add_55 ?_
      refine lv_iload hx hb dX5_add_58 (lv_at hl 0 rfl) ?_
      refine lv_iconst (v := (3 : Int32)) hx hb dX5_add_60 (by decide) ?_
      refine lv_iadd hx hb dX5_add_61 ?_
      refine lv_iload hx hb dX5_add_62 (lv_at hl 5 rfl) ?_
      have hi := h.1
      replace h := h.2
      obtain ⟨I4, eI4⟩ : ∃ z : gx_M, z = up I3 (a0 + 1) (x1 + (3 : Int32)).toNatClampNeg p3 := ⟨_, rfl⟩
      replace h := h I4 eI4
      refine giastX C hM (kX_5_0 hk0) hi eI4 dX5_add_64 (fun H locs hM => ?_)
      refine lv_aload_n hx hb dX5_add_65 rfl (lv_at hl 1 rfl) ?_
      refine lv_dup hx hb dX5_add_66 rfl ?_
      refine gX5_1 C hM hk0 gw_95 dX5_add_67 ?_
      refine lv_iconst (v := (1 : Int32)) hx hb dX5_add_70 (by decide) ?_
      refine lv_iadd hx hb dX5_add_71 ?_
      obtain ⟨I5, eI5⟩ : ∃ z : gx_M, z = up I4 a0 1 ((I4 a0 1) + (1 : Int32)) := ⟨_, rfl⟩
      replace h := h I5 eI5
      refine pX5_1 C hM hk0 eI5 gw_95 dX5_add_72 (fun H locs hM => ?_)
      exact gq_vret C hM h dX5_add_75
    · replace h := h.2 hc
      exact gq_vret C hM h dX5_add_25
theorem k_X5_add : gx_kV yX5_add cX5_add 6 none 4 := ⟨⟨gw_522, gw_60, by decide, by decide, by decide +kernel⟩, gw_520, gw_521⟩
abbrev rm_X7_isWithin : Room := { frames := 0, cells := 0, slots := 0, locals := 0 }
set_option maxHeartbeats 4000000 in
set_option maxRecDepth 100000 in
theorem c_X7_isWithin (l : Launch) (L : gx_L) (p0 : Int32) (p1 : Int32) (p2 : Int32) (I : gx_M) (Q : Int32 → gx_M → Prop) (h : wp_X7_isWithin p0 p1 p2 I Q) : Met l yX7_isWithin (gx_w yX7_isWithin cX7_isWithin 3 (some .boolean)) rm_X7_isWithin (va_Pc [.int p0, .int p1, .int p2] (gx_U L 282 (cellX L I))) (va_Qi (fun r I' => r &&& 1 = r ∧ Q r I') (fun I' t => gx_U L 282 (cellX L I') t) (gx_A L)) 0 0 (gx_A L) := by
  refine gq_enter (by decide) (Nat.le_of_ble_eq_true rfl) (fun p e s m below meth c ls C hM hl => ?_)
  have C : gx_C L 282 p s m _ meth c RX7 cX7_isWithin 3 (some .boolean) := C
  have hl : lv_has ls 3 [(0, .int p0), (1, .int p1), (2, .int p2)] := hl
  have hx := C.1
  have hb := C.2.1
  unfold wp_X7_isWithin at h
  refine lv_iload_n hx hb dX7_isWithin_0 rfl (lv_at hl 0 rfl) ?_
  refine lv_iload_n hx hb dX7_isWithin_1 rfl (lv_at hl 1 rfl) ?_
  refine lv_icmp_lt (tgt := 14) hx hb dX7_isWithin_2 (by decide) (fun hc => ?_) (fun hc => ?_)
  · replace h := h.1 hc
    refine lv_iconst (v := (0 : Int32)) hx hb dX7_isWithin_14 (by decide) ?_
    exact gq_zret C hM ⟨rfl, h⟩ (rfl) dX7_isWithin_15
  · replace h := h.2 hc
    refine lv_iload_n hx hb dX7_isWithin_5 rfl (lv_at hl 0 rfl) ?_
    refine lv_iload_n hx hb dX7_isWithin_6 rfl (lv_at hl 2 rfl) ?_
    refine lv_icmp_gt (tgt := 14) hx hb dX7_isWithin_7 (by decide) (fun hc => ?_) (fun hc => ?_)
    · replace h := h.1 hc
      refine lv_iconst (v := (0 : Int32)) hx hb dX7_isWithin_14 (by decide) ?_
      exact gq_zret C hM ⟨rfl, h⟩ (rfl) dX7_isWithin_15
    · replace h := h.2 hc
      refine lv_iconst (v := (1 : Int32)) hx hb dX7_isWithin_10 (by decide) ?_
      refine lv_goto (tgt := 15) hx hb dX7_isWithin_11 (by decide) ?_
      exact gq_zret C hM ⟨rfl, h⟩ (rfl) dX7_isWithin_15
theorem k_X7_isWithin : gx_kS yX7_isWithin cX7_isWithin 3 (some .boolean) 3 := ⟨⟨gw_374, gw_58, by decide, by decide, by decide +kernel⟩, gw_373⟩
abbrev rm_X1_takeRosette : Room := { frames := 1, cells := 0, slots := 0, locals := 25 }
set_option maxHeartbeats 4000000 in
set_option maxRecDepth 100000 in
theorem c_X1_takeRosette (l : Launch) (L : gx_L) (a0 : Nat) (hk0 : kX a0 = 1) (p0 : Int32) (I : gx_M) (Q : Int32 → gx_M → Prop) (h : wp_X1_takeRosette a0 p0 I Q) : Met l yX1_takeRosette (gx_w yX1_takeRosette cX1_takeRosette 2 (some .int)) rm_X1_takeRosette (va_Pc [.ref (gx_ad L a0), .int p0] (gx_U L 282 (cellX L I))) (va_Qi Q (fun I' t => gx_U L 282 (cellX L I') t) (gx_A L)) 0 0 (gx_A L) := by
  refine gq_enter (by decide) (Nat.le_of_ble_eq_true rfl) (fun p e s m below meth c ls C hM hl => ?_)
  have C : gx_C L 282 p s m _ meth c RX1 cX1_takeRosette 2 (some .int) := C
  have hl : lv_has ls 2 [(0, .ref (gx_ad L a0)), (1, .int p0)] := hl
  have hx := C.1
  have hb := C.2.1
  unfold wp_X1_takeRosette at h
  refine lv_iload_n hx hb dX1_takeRosette_0 rfl (lv_at hl 1 rfl) ?_
  refine lv_bipush (v := (48 : Int32)) hx hb dX1_takeRosette_1 (by decide) ?_
  refine lv_bipush (v := (55 : Int32)) hx hb dX1_takeRosette_3 (by decide) ?_
  refine gq_backi C hM (gq_runSN (As := [.int p0, .int (48 : Int32), .int (55 : Int32)]) (rest := []) C hM (c_X7_isWithin l L p0 (48 : Int32) (55 : Int32) I _ h) k_X7_isWithin gw_647 rfl hl.1 rfl (Nat.le_of_ble_eq_true rfl) ⟨⟨rfl, rfl⟩, Nat.le_of_ble_eq_true rfl, Nat.le_of_ble_eq_true rfl⟩ ⟨Nat.zero_le _, Nat.zero_le _⟩ dX1_takeRosette_5) (fun r1 I1 H locs h hM => ?_)
  obtain ⟨hz1, h⟩ := h
  refine lv_if_ne (tgt := 13) hx hb dX1_takeRosette_8 (by decide) (fun hc => ?_) (fun hc => ?_)
  · replace h := h.2 hc
    refine lv_aload_n hx hb dX1_takeRosette_13 rfl (lv_at hl 0 rfl) ?_
    refine gX1_1 C hM hk0 gw_241 dX1_takeRosette_14 ?_
    refine lv_iconst (v := (0 : Int32)) hx hb dX1_takeRosette_17 (by decide) ?_
    refine lv_aload_n hx hb dX1_takeRosette_18 rfl (lv_at hl 0 rfl) ?_
    refine gX1_3 C hM hk0 gw_245 dX1_takeRosette_19 ?_
    refine lv_iload_n hx hb dX1_takeRosette_22 rfl (lv_at hl 1 rfl) ?_
    refine lv_bipush (v := (48 : Int32)) hx hb dX1_takeRosette_23 (by decide) ?_
    refine lv_isub hx hb dX1_takeRosette_25 ?_
    refine lv_iconst (v := (5 : Int32)) hx hb dX1_takeRosette_26 (by decide) ?_
    refine gq_backv C hM (gq_runV (As := [.int (0 : Int32), .int (I1 a0 3), .int (p0 - (48 : Int32)), .int (5 : Int32)]) (rest := []) C hM (kX_lt (kX_1_1 hk0) (by decide)) (cX_5 (kX_1_1 hk0)) rfl (c_X5_add l L (a0 + 2) (kX_1_1 hk0) (0 : Int32) (I1 a0 3) (p0 - (48 : Int32)) (5 : Int32) I1 _ h) k_X5_add gw_648 rfl hl.1 rfl (Nat.le_of_ble_eq_true rfl) ⟨⟨rfl, rfl⟩, Nat.le_of_ble_eq_true rfl, Nat.le_of_ble_eq_true rfl⟩ ⟨Nat.zero_le _, Nat.zero_le _⟩ dX1_takeRosette_27) (fun I2 H locs h hM => ?_)
    refine lv_iconst (v := (2 : Int32)) hx hb dX1_takeRosette_30 (by decide) ?_
    exact gq_iret C hM h dX1_takeRosette_31
  · replace h := h.1 hc
    refine lv_iconst (v := (5 : Int32)) hx hb dX1_takeRosette_11 (by decide) ?_
    exact gq_iret C hM h dX1_takeRosette_12
theorem k_X1_takeRosette : gx_kV yX1_takeRosette cX1_takeRosette 2 (some .int) 1 := ⟨⟨gw_646, gw_64, by decide, by decide, by decide +kernel⟩, gw_645, gw_18⟩
abbrev rm_X5_set : Room := { frames := 1, cells := 0, slots := 0, locals := 22 }
set_option maxHeartbeats 4000000 in
set_option maxRecDepth 100000 in
theorem c_X5_set (l : Launch) (L : gx_L) (a0 : Nat) (hk0 : kX a0 = 5) (p0 : Int32) (p1 : Int32) (p2 : Int32) (I : gx_M) (Q : gx_M → Prop) (h : wp_X5_set a0 p0 p1 p2 I Q) : Met l yX5_set (gx_w yX5_set cX5_set 4 none) rm_X5_set (va_Pc [.ref (gx_ad L a0), .int p0, .int p1, .int p2] (gx_U L 282 (cellX L I))) (va_Qv Q (fun I' t => gx_U L 282 (cellX L I') t) (gx_A L)) 0 0 (gx_A L) := by
  refine gq_enter (by decide) (Nat.le_of_ble_eq_true rfl) (fun p e s m below meth c ls C hM hl => ?_)
  have C : gx_C L 282 p s m _ meth c RX5 cX5_set 4 none := C
  have hl : lv_has ls 4 [(0, .ref (gx_ad L a0)), (1, .int p0), (2, .int p1), (3, .int p2)] := hl
  have hx := C.1
  have hb := C.2.1
  unfold wp_X5_set at h
  refine lv_iload_n hx hb dX5_set_0 rfl (lv_at hl 1 rfl) ?_
  refine lv_if_lt (tgt := 32) hx hb dX5_set_1 (by decide) (fun hc => ?_) (fun hc => ?_)
  · replace h := h.1 hc
    exact gq_vret C hM h dX5_set_32
  · replace h := h.2 hc
    refine lv_iload_n hx hb dX5_set_4 rfl (lv_at hl 1 rfl) ?_
    refine lv_aload_n hx hb dX5_set_5 rfl (lv_at hl 0 rfl) ?_
    refine gX5_1 C hM hk0 gw_95 dX5_set_6 ?_
    refine lv_icmp_ge (tgt := 32) hx hb dX5_set_9 (by decide) (fun hc => ?_) (fun hc => ?_)
    · replace h := h.1 hc
      exact gq_vret C hM h dX5_set_32
    · replace h := h.2 hc
      refine lv_iload_n hx hb dX5_set_12 rfl (lv_at hl 2 rfl) ?_
      refine lv_iconst (v := (0 : Int32)) hx hb dX5_set_13 (by decide) ?_
      refine lv_iconst (v := (3 : Int32)) hx hb dX5_set_14 (by decide) ?_
      refine gq_backi C hM (gq_runSN (As := [.int p1, .int (0 : Int32), .int (3 : Int32)]) (rest := []) C hM (c_X7_isWithin l L p1 (0 : Int32) (3 : Int32) I _ h) k_X7_isWithin gw_535 rfl hl.1 rfl (Nat.le_of_ble_eq_true rfl) ⟨⟨rfl, rfl⟩, Nat.le_of_ble_eq_true rfl, Nat.le_of_ble_eq_true rfl⟩ ⟨Nat.zero_le _, Nat.zero_le _⟩ dX5_set_15) (fun r1 I1 H locs h hM => ?_)
      obtain ⟨hz1, h⟩ := h
      refine lv_if_eq (tgt := 32) hx hb dX5_set_18 (by decide) (fun hc => ?_) (fun hc => ?_)
      · replace h := h.1 hc
        exact gq_vret C hM h dX5_set_32
      · replace h := h.2 hc
        refine lv_aload_n hx hb dX5_set_21 rfl (lv_at hl 0 rfl) ?_
        refine gX5_0 C hM hk0 gw_94 dX5_set_22 ?_
        refine lv_iload_n hx hb dX5_set_25 rfl (lv_at hl 1 rfl) ?_
        refine lv_iconst (v := (4 : Int32)) hx hb dX5_set_26 (by decide) ?_
        refine lv_imul hx hb dX5_set_27 ?_
        refine lv_iload_n hx hb dX5_set_28 rfl (lv_at hl 2 rfl) ?_
        refine lv_iadd hx hb dX5_set_29 ?_
        refine lv_iload_n hx hb dX5_set_30 rfl (lv_at hl 3 rfl) ?_
        have hi := h.1
        replace h := h.2
        obtain ⟨I2, eI2⟩ : ∃ z : gx_M, z = up I1 (a0 + 1) ((p0 * (4 : Int32)) + p1).toNatClampNeg p2 := ⟨_, rfl⟩
        replace h := h I2 eI2
        refine giastX C hM (kX_5_0 hk0) hi eI2 dX5_set_31 (fun H locs hM => ?_)
        exact gq_vret C hM h dX5_set_32
theorem k_X5_set : gx_kV yX5_set cX5_set 4 none 3 := ⟨⟨gw_660, gw_60, by decide, by decide, by decide +kernel⟩, gw_658, gw_659⟩
abbrev rm_X1_takeUrgency : Room := { frames := 2, cells := 0, slots := 0, locals := 45 }
set_option maxHeartbeats 4000000 in
set_option maxRecDepth 100000 in
theorem c_X1_takeUrgency (l : Launch) (L : gx_L) (a0 : Nat) (hk0 : kX a0 = 1) (p0 : Int32) (I : gx_M) (Q : Int32 → gx_M → Prop) (h : wp_X1_takeUrgency a0 p0 I Q) : Met l yX1_takeUrgency (gx_w yX1_takeUrgency cX1_takeUrgency 2 (some .int)) rm_X1_takeUrgency (va_Pc [.ref (gx_ad L a0), .int p0] (gx_U L 282 (cellX L I))) (va_Qi Q (fun I' t => gx_U L 282 (cellX L I') t) (gx_A L)) 0 0 (gx_A L) := by
  refine gq_enter (by decide) (Nat.le_of_ble_eq_true rfl) (fun p e s m below meth c ls C hM hl => ?_)
  have C : gx_C L 282 p s m _ meth c RX1 cX1_takeUrgency 2 (some .int) := C
  have hl : lv_has ls 2 [(0, .ref (gx_ad L a0)), (1, .int p0)] := hl
  have hx := C.1
  have hb := C.2.1
  unfold wp_X1_takeUrgency at h
  refine lv_iload_n hx hb dX1_takeUrgency_0 rfl (lv_at hl 1 rfl) ?_
  refine lv_bipush (v := (48 : Int32)) hx hb dX1_takeUrgency_1 (by decide) ?_
  refine lv_bipush (v := (57 : Int32)) hx hb dX1_takeUrgency_3 (by decide) ?_
  refine gq_backi C hM (gq_runSN (As := [.int p0, .int (48 : Int32), .int (57 : Int32)]) (rest := []) C hM (c_X7_isWithin l L p0 (48 : Int32) (57 : Int32) I _ h) k_X7_isWithin gw_647 rfl hl.1 rfl (Nat.le_of_ble_eq_true rfl) ⟨⟨rfl, rfl⟩, Nat.le_of_ble_eq_true rfl, Nat.le_of_ble_eq_true rfl⟩ ⟨Nat.zero_le _, Nat.zero_le _⟩ dX1_takeUrgency_5) (fun r1 I1 H locs h hM => ?_)
  obtain ⟨hz1, h⟩ := h
  refine lv_if_ne (tgt := 13) hx hb dX1_takeUrgency_8 (by decide) (fun hc => ?_) (fun hc => ?_)
  · replace h := h.2 hc
    refine lv_aload_n hx hb dX1_takeUrgency_13 rfl (lv_at hl 0 rfl) ?_
    refine gX1_1 C hM hk0 gw_241 dX1_takeUrgency_14 ?_
    refine lv_aload_n hx hb dX1_takeUrgency_17 rfl (lv_at hl 0 rfl) ?_
    refine gX1_1 C hM hk0 gw_241 dX1_takeUrgency_18 ?_
    refine gX5_1 C hM (kX_1_1 hk0) gw_96 dX1_takeUrgency_21 ?_
    refine lv_iconst (v := (1 : Int32)) hx hb dX1_takeUrgency_24 (by decide) ?_
    refine lv_isub hx hb dX1_takeUrgency_25 ?_
    refine lv_iconst (v := (3 : Int32)) hx hb dX1_takeUrgency_26 (by decide) ?_
    refine lv_iload_n hx hb dX1_takeUrgency_27 rfl (lv_at hl 1 rfl) ?_
    refine lv_bipush (v := (48 : Int32)) hx hb dX1_takeUrgency_28 (by decide) ?_
    refine lv_isub hx hb dX1_takeUrgency_30 ?_
    refine gq_backv C hM (gq_runV (As := [.int ((I1 (a0 + 2) 1) - (1 : Int32)), .int (3 : Int32), .int (p0 - (48 : Int32))]) (rest := []) C hM (kX_lt (kX_1_1 hk0) (by decide)) (cX_5 (kX_1_1 hk0)) rfl (c_X5_set l L (a0 + 2) (kX_1_1 hk0) ((I1 (a0 + 2) 1) - (1 : Int32)) (3 : Int32) (p0 - (48 : Int32)) I1 _ h) k_X5_set gw_657 rfl hl.1 rfl (Nat.le_of_ble_eq_true rfl) ⟨⟨rfl, rfl⟩, Nat.le_of_ble_eq_true rfl, Nat.le_of_ble_eq_true rfl⟩ ⟨Nat.zero_le _, Nat.zero_le _⟩ dX1_takeUrgency_31) (fun I2 H locs h hM => ?_)
    refine lv_iconst (v := (4 : Int32)) hx hb dX1_takeUrgency_34 (by decide) ?_
    exact gq_iret C hM h dX1_takeUrgency_35
  · replace h := h.1 hc
    refine lv_iconst (v := (5 : Int32)) hx hb dX1_takeUrgency_11 (by decide) ?_
    exact gq_iret C hM h dX1_takeUrgency_12
theorem k_X1_takeUrgency : gx_kV yX1_takeUrgency cX1_takeUrgency 2 (some .int) 1 := ⟨⟨gw_656, gw_64, by decide, by decide, by decide +kernel⟩, gw_655, gw_20⟩
abbrev rm_X1_take : Room := { frames := 3, cells := 0, slots := 0, locals := 66 }
set_option maxHeartbeats 4000000 in
set_option maxRecDepth 100000 in
theorem c_X1_take (l : Launch) (L : gx_L) (a0 : Nat) (hk0 : kX a0 = 1) (p0 : Int32) (p1 : Int32) (I : gx_M) (Q : Int32 → gx_M → Prop) (h : wp_X1_take a0 p0 p1 I Q) : Met l yX1_take (gx_w yX1_take cX1_take 3 (some .int)) rm_X1_take (va_Pc [.ref (gx_ad L a0), .int p0, .int p1] (gx_U L 282 (cellX L I))) (va_Qi Q (fun I' t => gx_U L 282 (cellX L I') t) (gx_A L)) 0 0 (gx_A L) := by
  refine gq_enter (by decide) (Nat.le_of_ble_eq_true rfl) (fun p e s m below meth c ls C hM hl => ?_)
  have C : gx_C L 282 p s m _ meth c RX1 cX1_take 3 (some .int) := C
  have hl : lv_has ls 3 [(0, .ref (gx_ad L a0)), (1, .int p0), (2, .int p1)] := hl
  have hx := C.1
  have hb := C.2.1
  unfold wp_X1_take at h
  refine lv_iload_n hx hb dX1_take_0 rfl (lv_at hl 2 rfl) ?_
  by_cases hs0 : p1 = (0 : Int32)
  · replace h := h.1 hs0
    refine lv_tableIn (tgt := 36) hx hb dX1_take_1 (by rw [hs0]; decide) (by rw [hs0]; decide) (by rw [hs0]; rfl) (by decide) ?_
    refine lv_aload_n hx hb dX1_take_36 rfl (lv_at hl 0 rfl) ?_
    refine lv_iload_n hx hb dX1_take_37 rfl (lv_at hl 1 rfl) ?_
    refine gq_backi C hM (gq_runV (As := [.int p0]) (rest := []) C hM (kX_lt hk0 (by decide)) (cX_1 hk0) rfl (c_X1_takeLetter l L a0 hk0 p0 I _ h) k_X1_takeLetter gw_639 rfl hl.1 rfl (Nat.le_of_ble_eq_true rfl) ⟨⟨rfl, rfl⟩, Nat.le_of_ble_eq_true rfl, Nat.le_of_ble_eq_true rfl⟩ ⟨Nat.zero_le _, Nat.zero_le _⟩ dX1_take_38) (fun r1 I1 H locs h hM => ?_)
    exact gq_iret C hM h dX1_take_41
  by_cases hs1 : p1 = (1 : Int32)
  · replace h := h.2.1 hs1
    refine lv_tableIn (tgt := 42) hx hb dX1_take_1 (by rw [hs1]; decide) (by rw [hs1]; decide) (by rw [hs1]; rfl) (by decide) ?_
    refine lv_aload_n hx hb dX1_take_42 rfl (lv_at hl 0 rfl) ?_
    refine lv_iload_n hx hb dX1_take_43 rfl (lv_at hl 1 rfl) ?_
    refine gq_backi C hM (gq_runV (As := [.int p0]) (rest := []) C hM (kX_lt hk0 (by decide)) (cX_1 hk0) rfl (c_X1_takeRosette l L a0 hk0 p0 I _ h) k_X1_takeRosette gw_643 rfl hl.1 rfl (Nat.le_of_ble_eq_true rfl) ⟨⟨rfl, rfl⟩, Nat.le_of_ble_eq_true rfl, Nat.le_of_ble_eq_true rfl⟩ ⟨Nat.zero_le _, Nat.zero_le _⟩ dX1_take_44) (fun r2 I2 H locs h hM => ?_)
    exact gq_iret C hM h dX1_take_47
  by_cases hs2 : p1 = (2 : Int32)
  · replace h := h.2.2.1 hs2
    refine lv_tableIn (tgt := 48) hx hb dX1_take_1 (by rw [hs2]; decide) (by rw [hs2]; decide) (by rw [hs2]; rfl) (by decide) ?_
    refine lv_iload_n hx hb dX1_take_48 rfl (lv_at hl 1 rfl) ?_
    refine lv_bipush (v := (33 : Int32)) hx hb dX1_take_49 (by decide) ?_
    refine lv_icmp_ne (tgt := 58) hx hb dX1_take_51 (by decide) (fun hc => ?_) (fun hc => ?_)
    · replace h := h.2 hc
      refine lv_aload_n hx hb dX1_take_58 rfl (lv_at hl 0 rfl) ?_
      refine lv_iload_n hx hb dX1_take_59 rfl (lv_at hl 1 rfl) ?_
      refine gq_backi C hM (gq_runV (As := [.int p0]) (rest := []) C hM (kX_lt hk0 (by decide)) (cX_1 hk0) rfl (c_X1_takeComma l L a0 hk0 p0 I _ h) k_X1_takeComma gw_649 rfl hl.1 rfl (Nat.le_of_ble_eq_true rfl) ⟨⟨rfl, rfl⟩, Nat.le_of_ble_eq_true rfl, Nat.le_of_ble_eq_true rfl⟩ ⟨Nat.zero_le _, Nat.zero_le _⟩ dX1_take_60) (fun r3 I3 H locs h hM => ?_)
      exact gq_iret C hM h dX1_take_63
    · replace h := h.1 hc
      refine lv_iconst (v := (3 : Int32)) hx hb dX1_take_54 (by decide) ?_
      refine lv_goto (tgt := 63) hx hb dX1_take_55 (by decide) ?_
      exact gq_iret C hM h dX1_take_63
  by_cases hs3 : p1 = (3 : Int32)
  · replace h := h.2.2.2.1 hs3
    refine lv_tableIn (tgt := 64) hx hb dX1_take_1 (by rw [hs3]; decide) (by rw [hs3]; decide) (by rw [hs3]; rfl) (by decide) ?_
    refine lv_aload_n hx hb dX1_take_64 rfl (lv_at hl 0 rfl) ?_
    refine lv_iload_n hx hb dX1_take_65 rfl (lv_at hl 1 rfl) ?_
    refine gq_backi C hM (gq_runV (As := [.int p0]) (rest := []) C hM (kX_lt hk0 (by decide)) (cX_1 hk0) rfl (c_X1_takeUrgency l L a0 hk0 p0 I _ h) k_X1_takeUrgency gw_653 rfl hl.1 rfl (Nat.le_of_ble_eq_true rfl) ⟨⟨rfl, rfl⟩, Nat.le_of_ble_eq_true rfl, Nat.le_of_ble_eq_true rfl⟩ ⟨Nat.zero_le _, Nat.zero_le _⟩ dX1_take_66) (fun r4 I4 H locs h hM => ?_)
    exact gq_iret C hM h dX1_take_69
  by_cases hs4 : p1 = (4 : Int32)
  · replace h := h.2.2.2.2.1 hs4
    refine lv_tableIn (tgt := 70) hx hb dX1_take_1 (by rw [hs4]; decide) (by rw [hs4]; decide) (by rw [hs4]; rfl) (by decide) ?_
    refine lv_aload_n hx hb dX1_take_70 rfl (lv_at hl 0 rfl) ?_
    refine lv_iload_n hx hb dX1_take_71 rfl (lv_at hl 1 rfl) ?_
    refine gq_backi C hM (gq_runV (As := [.int p0]) (rest := []) C hM (kX_lt hk0 (by decide)) (cX_1 hk0) rfl (c_X1_takeComma l L a0 hk0 p0 I _ h) k_X1_takeComma gw_649 rfl hl.1 rfl (Nat.le_of_ble_eq_true rfl) ⟨⟨rfl, rfl⟩, Nat.le_of_ble_eq_true rfl, Nat.le_of_ble_eq_true rfl⟩ ⟨Nat.zero_le _, Nat.zero_le _⟩ dX1_take_72) (fun r5 I5 H locs h hM => ?_)
    exact gq_iret C hM h dX1_take_75
  replace h := h.2.2.2.2.2 hs0 hs1 hs2 hs3 hs4
  refine lv_tableOut (tgt := 76) hx hb dX1_take_1 (by have q0 := lv_neT (a := 0) hs0 (by decide); have q1 := lv_neT (a := 1) hs1 (by decide); have q2 := lv_neT (a := 2) hs2 (by decide); have q3 := lv_neT (a := 3) hs3 (by decide); have q4 := lv_neT (a := 4) hs4 (by decide); omega) (by decide) ?_
  refine lv_iconst (v := (5 : Int32)) hx hb dX1_take_76 (by decide) ?_
  exact gq_iret C hM h dX1_take_77
theorem k_X1_take : gx_kV yX1_take cX1_take 3 (some .int) 2 := ⟨⟨gw_638, gw_64, by decide, by decide, by decide +kernel⟩, gw_637, gw_16⟩
end
