section
variable {p : Program} {l : Launch} {e : Env} {s : State} {m : MethodId} {args : Array Value} {below : List Frame} {meth : Method} {c : Code} {L : gx_L}
abbrev rm_X7_addRosette : Room := { frames := 4, cells := 0, slots := 0, locals := 90 }
set_option maxHeartbeats 4000000 in
set_option maxRecDepth 100000 in
theorem tj_X7_addRosette_80 (C : gx_C L 282 p s m args meth c RX7 cX7_addRosette 7 (some .int)) {Q : Int32 → gx_M → Prop} : ∀ (v0 : Nat) (hv0 : kX v0 = 7) (I : gx_M) (H : Heap) (locs : List Loc) (ls : Array Slot), gx_S L 282 (cellX L I) s.heap H locs → lv_has ls 7 [(0, .ref (gx_ad L v0))] → wj_X7_addRosette_80 Q v0 I → W p l e rm_X7_addRosette s m args below meth c H locs 0 0 (MQ below (va_Qi Q (fun I' t => gx_U L 282 (cellX L I') t) (gx_A L)) args s 0 0 (gx_A L)) (F0 m 80 ls []) := by
  have hx := C.1
  have hb := C.2.1
  intro v0 hv0 I H locs ls hM hl h
  unfold wj_X7_addRosette_80 at h
  refine lv_aload_n hx hb dX7_addRosette_80 rfl (lv_at hl 0 rfl) ?_
  refine lv_iconst (v := (1 : Int32)) hx hb dX7_addRosette_81 (by decide) ?_
  refine gq_backi C hM (gq_runV (As := [.int (1 : Int32)]) (rest := []) C hM (kX_lt hv0 (by decide)) (cX_7 hv0) rfl (c_X7_refuse l L v0 hv0 (1 : Int32) I _ h) k_X7_refuse gw_339 rfl hl.1 rfl (Nat.le_of_ble_eq_true rfl) ⟨⟨rfl, rfl⟩, Nat.le_of_ble_eq_true rfl, Nat.le_of_ble_eq_true rfl⟩ ⟨Nat.zero_le _, Nat.zero_le _⟩ dX7_addRosette_82) (fun r1 I1 H locs h hM => ?_)
  exact gq_iret C hM h dX7_addRosette_85
set_option maxHeartbeats 4000000 in
set_option maxRecDepth 100000 in
theorem tj_X7_addRosette_18 (C : gx_C L 282 p s m args meth c RX7 cX7_addRosette 7 (some .int)) {Q : Int32 → gx_M → Prop} : ∀ (v0 : Nat) (v1 : Int32) (v2 : Int32) (v3 : Int32) (v4 : Int32) (u0 : Int32) (hv0 : kX v0 = 7) (I : gx_M) (H : Heap) (locs : List Loc) (ls : Array Slot), gx_S L 282 (cellX L I) s.heap H locs → lv_has ls 7 [(0, .ref (gx_ad L v0)), (1, .int v1), (2, .int v2), (3, .int v3), (4, .int v4)] → wj_X7_addRosette_18 Q v0 v1 v2 v3 v4 u0 I → W p l e rm_X7_addRosette s m args below meth c H locs 0 0 (MQ below (va_Qi Q (fun I' t => gx_U L 282 (cellX L I') t) (gx_A L)) args s 0 0 (gx_A L)) (F0 m 18 ls [.int u0]) := by
  have hx := C.1
  have hb := C.2.1
  intro v0 v1 v2 v3 v4 u0 hv0 I H locs ls hM hl h
  unfold wj_X7_addRosette_18 at h
  refine lv_istore (lv' := [(5, .int u0), (0, .ref (gx_ad L v0)), (1, .int v1), (2, .int v2), (3, .int v3), (4, .int v4)]) hx hb dX7_addRosette_18 hl (by decide) rfl (fun ls hl => ?_)
  refine lv_iload_n hx hb dX7_addRosette_20 rfl (lv_at hl 2 rfl) ?_
  refine lv_iconst (v := (0 : Int32)) hx hb dX7_addRosette_21 (by decide) ?_
  refine lv_sipush (v := (1000 : Int32)) hx hb dX7_addRosette_22 (by decide) ?_
  refine gq_backi C hM (gq_runS (As := [.int v1, .int (0 : Int32), .int (1000 : Int32)]) (rest := []) C hM (c_X7_isWithin l L v1 (0 : Int32) (1000 : Int32) I _ h) k_X7_isWithin gw_335 rfl hl.1 rfl (Nat.le_of_ble_eq_true rfl) ⟨⟨rfl, rfl⟩, Nat.le_of_ble_eq_true rfl, Nat.le_of_ble_eq_true rfl⟩ ⟨Nat.zero_le _, Nat.zero_le _⟩ dX7_addRosette_25) (fun r1 I1 H locs h hM => ?_)
  obtain ⟨hz1, h⟩ := h
  refine lv_if_eq (tgt := 50) hx hb dX7_addRosette_28 (by decide) (fun hc => ?_) (fun hc => ?_)
  · replace h := h.1 hc
    refine gq_ldc (v := (-1000002 : Int32)) C gw_338 dX7_addRosette_50 ?_
    exact gq_iret C hM h dX7_addRosette_52
  · replace h := h.2 hc
    refine lv_iload hx hb dX7_addRosette_31 (lv_at hl 0 rfl) ?_
    refine lv_if_eq (tgt := 50) hx hb dX7_addRosette_33 (by decide) (fun hc => ?_) (fun hc => ?_)
    · replace h := h.1 hc
      refine gq_ldc (v := (-1000002 : Int32)) C gw_338 dX7_addRosette_50 ?_
      exact gq_iret C hM h dX7_addRosette_52
    · replace h := h.2 hc
      refine lv_iload hx hb dX7_addRosette_36 (lv_at hl 5 rfl) ?_
      refine lv_sipush (v := (180 : Int32)) hx hb dX7_addRosette_38 (by decide) ?_
      refine lv_sipush (v := (240 : Int32)) hx hb dX7_addRosette_41 (by decide) ?_
      refine gq_backi C hM (gq_runS (As := [.int v4, .int (180 : Int32), .int (240 : Int32)]) (rest := []) C hM (c_X7_isWithin l L v4 (180 : Int32) (240 : Int32) I1 _ h) k_X7_isWithin gw_335 rfl hl.1 rfl (Nat.le_of_ble_eq_true rfl) ⟨⟨rfl, rfl⟩, Nat.le_of_ble_eq_true rfl, Nat.le_of_ble_eq_true rfl⟩ ⟨Nat.zero_le _, Nat.zero_le _⟩ dX7_addRosette_44) (fun r2 I2 H locs h hM => ?_)
      obtain ⟨hz2, h⟩ := h
      refine lv_if_ne (tgt := 53) hx hb dX7_addRosette_47 (by decide) (fun hc => ?_) (fun hc => ?_)
      · replace h := h.2 hc
        refine lv_aload_n hx hb dX7_addRosette_53 rfl (lv_at hl 1 rfl) ?_
        refine gX7_0 C hM hv0 gw_306 dX7_addRosette_54 ?_
        refine gX6_3 C hM (kX_7_0 hv0) gw_143 dX7_addRosette_57 ?_
        refine lv_topi (fun x1 ex1 => ?_)
        replace h := h x1 ex1
        refine lv_istore (lv' := [(6, .int x1), (5, .int u0), (0, .ref (gx_ad L v0)), (1, .int v1), (2, .int v2), (3, .int v3), (4, .int v4)]) hx hb dX7_addRosette_60 hl (by decide) rfl (fun ls hl => ?_)
        refine lv_iload hx hb dX7_addRosette_62 (lv_at hl 0 rfl) ?_
        refine lv_if_lt (tgt := 80) hx hb dX7_addRosette_64 (by decide) (fun hc => ?_) (fun hc => ?_)
        · replace h := h.1 hc
          exact tj_X7_addRosette_80 C v0 (hv0) I2 _ _ _ hM (lv_sub hl [2] rfl) h
        · replace h := h.2 hc
          refine lv_iload hx hb dX7_addRosette_67 (lv_at hl 0 rfl) ?_
          refine lv_aload_n hx hb dX7_addRosette_69 rfl (lv_at hl 2 rfl) ?_
          refine gX7_0 C hM hv0 gw_306 dX7_addRosette_70 ?_
          refine gX6_0 C hM (kX_7_0 hv0) gw_136 dX7_addRosette_73 ?_
          refine galenX_23 C hM (kX_6_0 (kX_7_0 hv0)) dX7_addRosette_76 ?_
          refine lv_icmp_lt (tgt := 86) hx hb dX7_addRosette_77 (by decide) (fun hc => ?_) (fun hc => ?_)
          · replace h := h.1 hc
            refine lv_aload_n hx hb dX7_addRosette_86 rfl (lv_at hl 2 rfl) ?_
            refine gX7_0 C hM hv0 gw_306 dX7_addRosette_87 ?_
            refine lv_iload_n hx hb dX7_addRosette_90 rfl (lv_at hl 3 rfl) ?_
            refine gq_backi C hM (gq_runV (As := [.int v1]) (rest := []) C hM (kX_lt (kX_7_0 hv0) (by decide)) (cX_6 (kX_7_0 hv0)) rfl (c_X6_hasRosetteAt l L (v0 + 1) (kX_7_0 hv0) v1 I2 _ h) k_X6_hasRosetteAt gw_344 rfl hl.1 rfl (Nat.le_of_ble_eq_true rfl) ⟨⟨rfl, rfl⟩, Nat.le_of_ble_eq_true rfl, Nat.le_of_ble_eq_true rfl⟩ ⟨Nat.zero_le _, Nat.zero_le _⟩ dX7_addRosette_91) (fun r3 I3 H locs h hM => ?_)
            obtain ⟨hz3, h⟩ := h
            refine lv_if_eq (tgt := 104) hx hb dX7_addRosette_94 (by decide) (fun hc => ?_) (fun hc => ?_)
            · replace h := h.1 hc
              refine lv_aload_n hx hb dX7_addRosette_104 rfl (lv_at hl 2 rfl) ?_
              refine gX7_3 C hM hv0 gw_309 dX7_addRosette_105 ?_
              refine lv_aload_n hx hb dX7_addRosette_108 rfl (lv_at hl 2 rfl) ?_
              refine gX7_0 C hM hv0 gw_306 dX7_addRosette_109 ?_
              refine gq_backv C hM (gq_runV (As := [.ref (gx_ad L (v0 + 1))]) (rest := []) C hM (kX_lt (kX_7_3 hv0) (by decide)) (cX_0 (kX_7_3 hv0)) rfl (c_X0_add l L (v0 + 77) (kX_7_3 hv0) (v0 + 1) (kX_7_0 hv0) I3 _ h) k_X0_add gw_356 rfl hl.1 rfl (Nat.le_of_ble_eq_true rfl) ⟨⟨rfl, rfl⟩, Nat.le_of_ble_eq_true rfl, Nat.le_of_ble_eq_true rfl⟩ ⟨Nat.zero_le _, Nat.zero_le _⟩ dX7_addRosette_112) (fun I4 H locs h hM => ?_)
              refine lv_aload_n hx hb dX7_addRosette_115 rfl (lv_at hl 2 rfl) ?_
              refine gX7_0 C hM hv0 gw_306 dX7_addRosette_116 ?_
              refine gX6_0 C hM (kX_7_0 hv0) gw_136 dX7_addRosette_119 ?_
              refine lv_iload hx hb dX7_addRosette_122 (lv_at hl 0 rfl) ?_
              have hi := h.1
              replace h := h.2
              refine gaald_23 C hM (kX_6_0 (kX_7_0 hv0)) hi dX7_addRosette_124 ?_
              have hk1 := kX_23 (kX_6_0 (kX_7_0 hv0)) (Nat.not_le.mp fun q => hi (Or.inr q))
              refine lv_iload_n hx hb dX7_addRosette_125 rfl (lv_at hl 3 rfl) ?_
              refine lv_iload_n hx hb dX7_addRosette_126 rfl (lv_at hl 4 rfl) ?_
              refine lv_iload_n hx hb dX7_addRosette_127 rfl (lv_at hl 5 rfl) ?_
              refine lv_iload hx hb dX7_addRosette_128 (lv_at hl 6 rfl) ?_
              refine gq_backv C hM (gq_runV (As := [.int v1, .int v2, .int v3, .int v4]) (rest := []) C hM (kX_lt hk1 (by decide)) (cX_4 hk1) rfl (c_X4_begin l L (((v0 + 1) + 1) + 5 + 4 * x1.toNatClampNeg) hk1 v1 v2 v3 v4 I4 _ h) k_X4_begin gw_379 rfl hl.1 rfl (Nat.le_of_ble_eq_true rfl) ⟨⟨rfl, rfl⟩, Nat.le_of_ble_eq_true rfl, Nat.le_of_ble_eq_true rfl⟩ ⟨Nat.zero_le _, Nat.zero_le _⟩ dX7_addRosette_130) (fun I5 H locs h hM => ?_)
              refine lv_aload_n hx hb dX7_addRosette_133 rfl (lv_at hl 2 rfl) ?_
              refine gX7_0 C hM hv0 gw_306 dX7_addRosette_134 ?_
              refine lv_dup hx hb dX7_addRosette_137 rfl ?_
              refine gX6_3 C hM (kX_7_0 hv0) gw_143 dX7_addRosette_138 ?_
              refine lv_iconst (v := (1 : Int32)) hx hb dX7_addRosette_141 (by decide) ?_
              refine lv_iadd hx hb dX7_addRosette_142 ?_
              obtain ⟨I6, eI6⟩ : ∃ z : gx_M, z = up I5 (v0 + 1) 3 ((I5 (v0 + 1) 3) + (1 : Int32)) := ⟨_, rfl⟩
              replace h := h I6 eI6
              refine pX6_3 C hM (kX_7_0 hv0) eI6 gw_143 dX7_addRosette_143 (fun H locs hM => ?_)
              refine lv_iload hx hb dX7_addRosette_146 (lv_at hl 0 rfl) ?_
              exact gq_iret C hM h dX7_addRosette_148
            · replace h := h.2 hc
              refine lv_aload_n hx hb dX7_addRosette_97 rfl (lv_at hl 2 rfl) ?_
              refine lv_bipush (v := (6 : Int32)) hx hb dX7_addRosette_98 (by decide) ?_
              refine gq_backi C hM (gq_runV (As := [.int (6 : Int32)]) (rest := []) C hM (kX_lt hv0 (by decide)) (cX_7 hv0) rfl (c_X7_refuse l L v0 hv0 (6 : Int32) I3 _ h) k_X7_refuse gw_339 rfl hl.1 rfl (Nat.le_of_ble_eq_true rfl) ⟨⟨rfl, rfl⟩, Nat.le_of_ble_eq_true rfl, Nat.le_of_ble_eq_true rfl⟩ ⟨Nat.zero_le _, Nat.zero_le _⟩ dX7_addRosette_100) (fun r4 I7 H locs h hM => ?_)
              exact gq_iret C hM h dX7_addRosette_103
          · replace h := h.2 hc
            exact tj_X7_addRosette_80 C v0 (hv0) I2 _ _ _ hM (lv_sub hl [2] rfl) h
      · replace h := h.1 hc
        refine gq_ldc (v := (-1000002 : Int32)) C gw_338 dX7_addRosette_50 ?_
        exact gq_iret C hM h dX7_addRosette_52
set_option maxHeartbeats 4000000 in
set_option maxRecDepth 100000 in
theorem tj_X7_addRosette_13 (C : gx_C L 282 p s m args meth c RX7 cX7_addRosette 7 (some .int)) {Q : Int32 → gx_M → Prop} : ∀ (v0 : Nat) (v1 : Int32) (v2 : Int32) (v3 : Int32) (v4 : Int32) (hv0 : kX v0 = 7) (I : gx_M) (H : Heap) (locs : List Loc) (ls : Array Slot), gx_S L 282 (cellX L I) s.heap H locs → lv_has ls 7 [(0, .ref (gx_ad L v0)), (1, .int v1), (2, .int v2), (3, .int v3), (4, .int v4)] → wj_X7_addRosette_13 Q v0 v1 v2 v3 v4 I → W p l e rm_X7_addRosette s m args below meth c H locs 0 0 (MQ below (va_Qi Q (fun I' t => gx_U L 282 (cellX L I') t) (gx_A L)) args s 0 0 (gx_A L)) (F0 m 13 ls []) := by
  have hx := C.1
  have hb := C.2.1
  intro v0 v1 v2 v3 v4 hv0 I H locs ls hM hl h
  unfold wj_X7_addRosette_13 at h
  refine lv_iconst (v := (1 : Int32)) hx hb dX7_addRosette_13 (by decide) ?_
  refine lv_goto (tgt := 18) hx hb dX7_addRosette_14 (by decide) ?_
  exact tj_X7_addRosette_18 C v0 v1 v2 v3 v4 (1 : Int32) (hv0) I _ _ _ hM (lv_sub hl [0, 1, 2, 3, 4] rfl) h
set_option maxHeartbeats 4000000 in
set_option maxRecDepth 100000 in
theorem c_X7_addRosette (l : Launch) (L : gx_L) (a0 : Nat) (hk0 : kX a0 = 7) (p0 : Int32) (p1 : Int32) (p2 : Int32) (p3 : Int32) (I : gx_M) (Q : Int32 → gx_M → Prop) (h : wp_X7_addRosette a0 p0 p1 p2 p3 I Q) : Met l yX7_addRosette (gx_w yX7_addRosette cX7_addRosette 7 (some .int)) rm_X7_addRosette (va_Pc [.ref (gx_ad L a0), .int p0, .int p1, .int p2, .int p3] (gx_U L 282 (cellX L I))) (va_Qi Q (fun I' t => gx_U L 282 (cellX L I') t) (gx_A L)) 0 0 (gx_A L) := by
  refine gq_enter (by decide) (Nat.le_of_ble_eq_true rfl) (fun p e s m below meth c ls C hM hl => ?_)
  have C : gx_C L 282 p s m _ meth c RX7 cX7_addRosette 7 (some .int) := C
  have hl : lv_has ls 7 [(0, .ref (gx_ad L a0)), (1, .int p0), (2, .int p1), (3, .int p2), (4, .int p3)] := hl
  have hx := C.1
  have hb := C.2.1
  unfold wp_X7_addRosette at h
  refine lv_iload_n hx hb dX7_addRosette_0 rfl (lv_at hl 3 rfl) ?_
  refine lv_bipush (v := (120 : Int32)) hx hb dX7_addRosette_1 (by decide) ?_
  refine lv_icmp_eq (tgt := 13) hx hb dX7_addRosette_3 (by decide) (fun hc => ?_) (fun hc => ?_)
  · replace h := h.1 hc
    exact tj_X7_addRosette_13 C a0 p0 p1 p2 p3 (hk0) I _ _ _ hM (lv_sub hl [0, 1, 2, 3, 4] rfl) h
  · replace h := h.2 hc
    refine lv_iload_n hx hb dX7_addRosette_6 rfl (lv_at hl 3 rfl) ?_
    refine lv_sipush (v := (350 : Int32)) hx hb dX7_addRosette_7 (by decide) ?_
    refine lv_icmp_ne (tgt := 17) hx hb dX7_addRosette_10 (by decide) (fun hc => ?_) (fun hc => ?_)
    · replace h := h.2 hc
      refine lv_iconst (v := (0 : Int32)) hx hb dX7_addRosette_17 (by decide) ?_
      exact tj_X7_addRosette_18 C a0 p0 p1 p2 p3 (0 : Int32) (hk0) I _ _ _ hM (lv_sub hl [0, 1, 2, 3, 4] rfl) h
    · replace h := h.1 hc
      exact tj_X7_addRosette_13 C a0 p0 p1 p2 p3 (hk0) I _ _ _ hM (lv_sub hl [0, 1, 2, 3, 4] rfl) h
theorem k_X7_addRosette : gx_kV yX7_addRosette cX7_addRosette 7 (some .int) 4 := ⟨⟨gw_334, gw_22, by decide, by decide, by decide +kernel⟩, gw_332, gw_333⟩
abbrev rm_X7_cancel : Room := { frames := 4, cells := 0, slots := 0, locals := 90 }
set_option maxHeartbeats 4000000 in
set_option maxRecDepth 100000 in
theorem c_X7_cancel (l : Launch) (L : gx_L) (a0 : Nat) (hk0 : kX a0 = 7) (p0 : Int32) (I : gx_M) (Q : Int32 → gx_M → Prop) (h : wp_X7_cancel a0 p0 I Q) : Met l yX7_cancel (gx_w yX7_cancel cX7_cancel 3 (some .int)) rm_X7_cancel (va_Pc [.ref (gx_ad L a0), .int p0] (gx_U L 282 (cellX L I))) (va_Qi Q (fun I' t => gx_U L 282 (cellX L I') t) (gx_A L)) 0 0 (gx_A L) := by
  refine gq_enter (by decide) (Nat.le_of_ble_eq_true rfl) (fun p e s m below meth c ls C hM hl => ?_)
  have C : gx_C L 282 p s m _ meth c RX7 cX7_cancel 3 (some .int) := C
  have hl : lv_has ls 3 [(0, .ref (gx_ad L a0)), (1, .int p0)] := hl
  have hx := C.1
  have hb := C.2.1
  unfold wp_X7_cancel at h
  refine lv_aload_n hx hb dX7_cancel_0 rfl (lv_at hl 0 rfl) ?_
  refine gX7_0 C hM hk0 gw_306 dX7_cancel_1 ?_
  refine lv_iload_n hx hb dX7_cancel_4 rfl (lv_at hl 1 rfl) ?_
  refine gq_backe C hM (gq_runV (As := [.int p0]) (rest := []) C hM (kX_lt (kX_7_0 hk0) (by decide)) (cX_6 (kX_7_0 hk0)) rfl (c_X6_find l L (a0 + 1) (kX_7_0 hk0) p0 I _ h) k_X6_find gw_387 rfl hl.1 rfl (Nat.le_of_ble_eq_true rfl) ⟨⟨rfl, rfl⟩, Nat.le_of_ble_eq_true rfl, Nat.le_of_ble_eq_true rfl⟩ ⟨Nat.zero_le _, Nat.zero_le _⟩ dX7_cancel_5) (fun r1 I1 H locs h hM => ?_)
  obtain ⟨hk1, h⟩ := h
  rcases r1 with _ | b1
  · replace h := h.1 rfl
    refine W.eq (g2 := F0 m 8 ls [.null]) rfl ?_
    refine lv_ifnonnullN hx hb dX7_cancel_8 ?_
    refine gq_ldc (v := (-1000001 : Int32)) C gw_388 dX7_cancel_11 ?_
    exact gq_iret C hM h dX7_cancel_13
  · have hk := hk1 b1 rfl
    replace h := h.2 b1 rfl hk
    have hk2 := hk
    refine W.eq (g2 := F0 m 8 ls [.ref (gx_ad L b1)]) rfl ?_
    refine lv_ifnonnull (tgt := 14) hx hb dX7_cancel_8 (by decide) ?_
    refine lv_aload_n hx hb dX7_cancel_14 rfl (lv_at hl 0 rfl) ?_
    refine gX7_0 C hM hk0 gw_306 dX7_cancel_15 ?_
    refine lv_iload_n hx hb dX7_cancel_18 rfl (lv_at hl 1 rfl) ?_
    refine gq_backi C hM (gq_runV (As := [.int p0]) (rest := []) C hM (kX_lt (kX_7_0 hk0) (by decide)) (cX_6 (kX_7_0 hk0)) rfl (c_X6_jobsFor l L (a0 + 1) (kX_7_0 hk0) p0 I1 _ h) k_X6_jobsFor gw_389 rfl hl.1 rfl (Nat.le_of_ble_eq_true rfl) ⟨⟨rfl, rfl⟩, Nat.le_of_ble_eq_true rfl, Nat.le_of_ble_eq_true rfl⟩ ⟨Nat.zero_le _, Nat.zero_le _⟩ dX7_cancel_19) (fun r2 I2 H locs h hM => ?_)
    refine lv_istore_n (lv' := [(2, .int r2), (0, .ref (gx_ad L a0)), (1, .int p0)]) hx hb dX7_cancel_22 rfl hl (by decide) rfl (fun ls hl => ?_)
    refine lv_iload_n hx hb dX7_cancel_23 rfl (lv_at hl 0 rfl) ?_
    refine lv_if_ne (tgt := 30) hx hb dX7_cancel_24 (by decide) (fun hc => ?_) (fun hc => ?_)
    · replace h := h.2 hc
      refine lv_aload_n hx hb dX7_cancel_30 rfl (lv_at hl 1 rfl) ?_
      refine gX7_3 C hM hk0 gw_309 dX7_cancel_31 ?_
      refine lv_aload_n hx hb dX7_cancel_34 rfl (lv_at hl 1 rfl) ?_
      refine gX7_0 C hM hk0 gw_306 dX7_cancel_35 ?_
      refine gq_backv C hM (gq_runV (As := [.ref (gx_ad L (a0 + 1))]) (rest := []) C hM (kX_lt (kX_7_3 hk0) (by decide)) (cX_0 (kX_7_3 hk0)) rfl (c_X0_add l L (a0 + 77) (kX_7_3 hk0) (a0 + 1) (kX_7_0 hk0) I2 _ h) k_X0_add gw_356 rfl hl.1 rfl (Nat.le_of_ble_eq_true rfl) ⟨⟨rfl, rfl⟩, Nat.le_of_ble_eq_true rfl, Nat.le_of_ble_eq_true rfl⟩ ⟨Nat.zero_le _, Nat.zero_le _⟩ dX7_cancel_38) (fun I3 H locs h hM => ?_)
      refine lv_aload_n hx hb dX7_cancel_41 rfl (lv_at hl 1 rfl) ?_
      refine gX7_0 C hM hk0 gw_306 dX7_cancel_42 ?_
      refine lv_iload_n hx hb dX7_cancel_45 rfl (lv_at hl 2 rfl) ?_
      refine gq_backv C hM (gq_runV (As := [.int p0]) (rest := []) C hM (kX_lt (kX_7_0 hk0) (by decide)) (cX_6 (kX_7_0 hk0)) rfl (c_X6_dropJobsFor l L (a0 + 1) (kX_7_0 hk0) p0 I3 _ h) k_X6_dropJobsFor gw_400 rfl hl.1 rfl (Nat.le_of_ble_eq_true rfl) ⟨⟨rfl, rfl⟩, Nat.le_of_ble_eq_true rfl, Nat.le_of_ble_eq_true rfl⟩ ⟨Nat.zero_le _, Nat.zero_le _⟩ dX7_cancel_46) (fun I4 H locs h hM => ?_)
      refine lv_iload_n hx hb dX7_cancel_49 rfl (lv_at hl 0 rfl) ?_
      exact gq_iret C hM h dX7_cancel_50
    · replace h := h.1 hc
      refine gq_ldc (v := (-1000004 : Int32)) C gw_399 dX7_cancel_27 ?_
      exact gq_iret C hM h dX7_cancel_29
theorem k_X7_cancel : gx_kV yX7_cancel cX7_cancel 3 (some .int) 1 := ⟨⟨gw_386, gw_22, by decide, by decide, by decide +kernel⟩, gw_384, gw_385⟩
abbrev rm_X7_readJobs : Room := { frames := 5, cells := 0, slots := 0, locals := 110 }
set_option maxHeartbeats 4000000 in
set_option maxRecDepth 100000 in
theorem tl_X7_readJobs_100 (C : gx_C L 282 p s m args meth c RX7 cX7_readJobs 4 (some .int)) {Q : Int32 → gx_M → Prop} : ∀ (fu : Nat) (v0 : Nat) (v2 : Nat) (v3 : Int32) (hv0 : kX v0 = 7) (hv2 : kX v2 = 5) (I : gx_M) (H : Heap) (locs : List Loc) (ls : Array Slot), gx_S L 282 (cellX L I) s.heap H locs → lv_has ls 4 [(0, .ref (gx_ad L v0)), (2, .ref (gx_ad L v2)), (3, .int v3)] → wl_X7_readJobs_100 Q fu v0 v2 v3 I → W p l e rm_X7_readJobs s m args below meth c H locs 0 0 (MQ below (va_Qi Q (fun I' t => gx_U L 282 (cellX L I') t) (gx_A L)) args s 0 0 (gx_A L)) (F0 m 100 ls []) := by
  have hx := C.1
  have hb := C.2.1
  intro fu
  induction fu with
  | zero => intros; rename_i h; exact False.elim h
  | succ fu ih =>
    intro v0 v2 v3 hv0 hv2 I H locs ls hM hl h
    rw [wl_X7_readJobs_100] at h
    refine lv_iload_n hx hb dX7_readJobs_100 rfl (lv_at hl 2 rfl) ?_
    refine lv_aload_n hx hb dX7_readJobs_101 rfl (lv_at hl 1 rfl) ?_
    refine gX5_1 C hM hv2 gw_62 dX7_readJobs_102 ?_
    refine lv_icmp_ge (tgt := 140) hx hb dX7_readJobs_105 (by decide) (fun hc => ?_) (fun hc => ?_)
    · replace h := h.1 hc
      refine lv_aload_n hx hb dX7_readJobs_140 rfl (lv_at hl 1 rfl) ?_
      refine gX5_1 C hM hv2 gw_62 dX7_readJobs_141 ?_
      exact gq_iret C hM h dX7_readJobs_144
    · replace h := h.2 hc
      refine lv_aload_n hx hb dX7_readJobs_108 rfl (lv_at hl 0 rfl) ?_
      refine gX7_0 C hM hv0 gw_306 dX7_readJobs_109 ?_
      refine lv_aload_n hx hb dX7_readJobs_112 rfl (lv_at hl 1 rfl) ?_
      refine lv_iload_n hx hb dX7_readJobs_113 rfl (lv_at hl 2 rfl) ?_
      refine lv_iconst (v := (1 : Int32)) hx hb dX7_readJobs_114 (by decide) ?_
      refine gq_backi C hM (gq_runV (As := [.int v3, .int (1 : Int32)]) (rest := [.ref (gx_ad L (v0 + 1))]) C hM (kX_lt hv2 (by decide)) (cX_5 hv2) rfl (c_X5_at l L v2 hv2 v3 (1 : Int32) I _ h) k_X5_at gw_433 rfl hl.1 rfl (Nat.le_of_ble_eq_true rfl) ⟨⟨rfl, rfl⟩, Nat.le_of_ble_eq_true rfl, Nat.le_of_ble_eq_true rfl⟩ ⟨Nat.zero_le _, Nat.zero_le _⟩ dX7_readJobs_115) (fun r1 I1 H locs h hM => ?_)
      refine lv_aload_n hx hb dX7_readJobs_118 rfl (lv_at hl 1 rfl) ?_
      refine lv_iload_n hx hb dX7_readJobs_119 rfl (lv_at hl 2 rfl) ?_
      refine lv_iconst (v := (2 : Int32)) hx hb dX7_readJobs_120 (by decide) ?_
      refine gq_backi C hM (gq_runV (As := [.int v3, .int (2 : Int32)]) (rest := [.int r1, .ref (gx_ad L (v0 + 1))]) C hM (kX_lt hv2 (by decide)) (cX_5 hv2) rfl (c_X5_at l L v2 hv2 v3 (2 : Int32) I1 _ h) k_X5_at gw_433 rfl hl.1 rfl (Nat.le_of_ble_eq_true rfl) ⟨⟨rfl, rfl⟩, Nat.le_of_ble_eq_true rfl, Nat.le_of_ble_eq_true rfl⟩ ⟨Nat.zero_le _, Nat.zero_le _⟩ dX7_readJobs_121) (fun r2 I2 H locs h hM => ?_)
      refine lv_aload_n hx hb dX7_readJobs_124 rfl (lv_at hl 1 rfl) ?_
      refine lv_iload_n hx hb dX7_readJobs_125 rfl (lv_at hl 2 rfl) ?_
      refine lv_iconst (v := (3 : Int32)) hx hb dX7_readJobs_126 (by decide) ?_
      refine gq_backi C hM (gq_runV (As := [.int v3, .int (3 : Int32)]) (rest := [.int r2, .int r1, .ref (gx_ad L (v0 + 1))]) C hM (kX_lt hv2 (by decide)) (cX_5 hv2) rfl (c_X5_at l L v2 hv2 v3 (3 : Int32) I2 _ h) k_X5_at gw_433 rfl hl.1 rfl (Nat.le_of_ble_eq_true rfl) ⟨⟨rfl, rfl⟩, Nat.le_of_ble_eq_true rfl, Nat.le_of_ble_eq_true rfl⟩ ⟨Nat.zero_le _, Nat.zero_le _⟩ dX7_readJobs_127) (fun r3 I3 H locs h hM => ?_)
      refine gq_backi C hM (gq_runV (As := [.int r1, .int r2, .int r3]) (rest := []) C hM (kX_lt (kX_7_0 hv0) (by decide)) (cX_6 (kX_7_0 hv0)) rfl (c_X6_addJob l L (v0 + 1) (kX_7_0 hv0) r1 r2 r3 I3 _ h) k_X6_addJob gw_571 rfl hl.1 rfl (Nat.le_of_ble_eq_true rfl) ⟨⟨rfl, rfl⟩, Nat.le_of_ble_eq_true rfl, Nat.le_of_ble_eq_true rfl⟩ ⟨Nat.zero_le _, Nat.zero_le _⟩ dX7_readJobs_130) (fun r4 I4 H locs h hM => ?_)
      refine lv_pop hx hb dX7_readJobs_133 rfl ?_
      obtain ⟨x1, ex1⟩ : ∃ z : Int32, z = v3 + (1 : Int32) := ⟨_, rfl⟩
      replace h := h x1 ex1
      refine lv_iinc (v := x1) (lv' := [(3, .int x1), (0, .ref (gx_ad L v0)), (2, .ref (gx_ad L v2))]) hx hb dX7_readJobs_134 hl (k := 2) rfl (by rw [ex1]; rfl) (by decide) rfl (fun ls hl => ?_)
      refine lv_goto (tgt := 100) hx hb dX7_readJobs_137 (by decide) ?_
      exact ih v0 v2 x1 (hv0) (hv2) I4 _ _ _ hM (lv_sub hl [1, 2, 0] rfl) h
set_option maxHeartbeats 4000000 in
set_option maxRecDepth 100000 in
theorem tl_X7_readJobs_28 (C : gx_C L 282 p s m args meth c RX7 cX7_readJobs 4 (some .int)) {Q : Int32 → gx_M → Prop} : ∀ (fu : Nat) (v0 : Nat) (v2 : Nat) (v3 : Int32) (hv0 : kX v0 = 7) (hv2 : kX v2 = 5) (I : gx_M) (H : Heap) (locs : List Loc) (ls : Array Slot), gx_S L 282 (cellX L I) s.heap H locs → lv_has ls 4 [(0, .ref (gx_ad L v0)), (2, .ref (gx_ad L v2)), (3, .int v3)] → wl_X7_readJobs_28 Q fu v0 v2 v3 I → W p l e rm_X7_readJobs s m args below meth c H locs 0 0 (MQ below (va_Qi Q (fun I' t => gx_U L 282 (cellX L I') t) (gx_A L)) args s 0 0 (gx_A L)) (F0 m 28 ls []) := by
  have hx := C.1
  have hb := C.2.1
  intro fu
  induction fu with
  | zero => intros; rename_i h; exact False.elim h
  | succ fu ih =>
    intro v0 v2 v3 hv0 hv2 I H locs ls hM hl h
    rw [wl_X7_readJobs_28] at h
    refine lv_iload_n hx hb dX7_readJobs_28 rfl (lv_at hl 2 rfl) ?_
    refine lv_aload_n hx hb dX7_readJobs_29 rfl (lv_at hl 1 rfl) ?_
    refine gX5_1 C hM hv2 gw_62 dX7_readJobs_30 ?_
    refine lv_icmp_ge (tgt := 61) hx hb dX7_readJobs_33 (by decide) (fun hc => ?_) (fun hc => ?_)
    · replace h := h.1 hc
      refine lv_aload_n hx hb dX7_readJobs_61 rfl (lv_at hl 0 rfl) ?_
      refine gX7_0 C hM hv0 gw_306 dX7_readJobs_62 ?_
      refine gX6_1 C hM (kX_7_0 hv0) gw_139 dX7_readJobs_65 ?_
      refine gX5_1 C hM (kX_6_1 (kX_7_0 hv0)) gw_62 dX7_readJobs_68 ?_
      refine lv_aload_n hx hb dX7_readJobs_71 rfl (lv_at hl 1 rfl) ?_
      refine gX5_1 C hM hv2 gw_62 dX7_readJobs_72 ?_
      refine lv_iadd hx hb dX7_readJobs_75 ?_
      refine lv_bipush (v := (20 : Int32)) hx hb dX7_readJobs_76 (by decide) ?_
      refine lv_icmp_le (tgt := 87) hx hb dX7_readJobs_78 (by decide) (fun hc => ?_) (fun hc => ?_)
      · replace h := h.1 hc
        refine lv_aload_n hx hb dX7_readJobs_87 rfl (lv_at hl 0 rfl) ?_
        refine gX7_3 C hM hv0 gw_309 dX7_readJobs_88 ?_
        refine lv_aload_n hx hb dX7_readJobs_91 rfl (lv_at hl 0 rfl) ?_
        refine gX7_0 C hM hv0 gw_306 dX7_readJobs_92 ?_
        refine gq_backv C hM (gq_runV (As := [.ref (gx_ad L (v0 + 1))]) (rest := []) C hM (kX_lt (kX_7_3 hv0) (by decide)) (cX_0 (kX_7_3 hv0)) rfl (c_X0_add l L (v0 + 77) (kX_7_3 hv0) (v0 + 1) (kX_7_0 hv0) I _ h) k_X0_add gw_356 rfl hl.1 rfl (Nat.le_of_ble_eq_true rfl) ⟨⟨rfl, rfl⟩, Nat.le_of_ble_eq_true rfl, Nat.le_of_ble_eq_true rfl⟩ ⟨Nat.zero_le _, Nat.zero_le _⟩ dX7_readJobs_95) (fun I1 H locs h hM => ?_)
        refine lv_iconst (v := (0 : Int32)) hx hb dX7_readJobs_98 (by decide) ?_
        refine lv_istore_n (lv' := [(3, .int (0 : Int32)), (0, .ref (gx_ad L v0)), (2, .ref (gx_ad L v2))]) hx hb dX7_readJobs_99 rfl hl (by decide) rfl (fun ls hl => ?_)
        obtain ⟨fv, h⟩ := h
        exact tl_X7_readJobs_100 C fv v0 v2 (0 : Int32) (hv0) (hv2) I1 _ _ _ hM (lv_sub hl [1, 2, 0] rfl) h
      · replace h := h.2 hc
        refine lv_aload_n hx hb dX7_readJobs_81 rfl (lv_at hl 0 rfl) ?_
        refine lv_iconst (v := (1 : Int32)) hx hb dX7_readJobs_82 (by decide) ?_
        refine gq_backi C hM (gq_runV (As := [.int (1 : Int32)]) (rest := []) C hM (kX_lt hv0 (by decide)) (cX_7 hv0) rfl (c_X7_refuse l L v0 hv0 (1 : Int32) I _ h) k_X7_refuse gw_339 rfl hl.1 rfl (Nat.le_of_ble_eq_true rfl) ⟨⟨rfl, rfl⟩, Nat.le_of_ble_eq_true rfl, Nat.le_of_ble_eq_true rfl⟩ ⟨Nat.zero_le _, Nat.zero_le _⟩ dX7_readJobs_83) (fun r1 I2 H locs h hM => ?_)
        exact gq_iret C hM h dX7_readJobs_86
    · replace h := h.2 hc
      refine lv_aload_n hx hb dX7_readJobs_36 rfl (lv_at hl 0 rfl) ?_
      refine gX7_0 C hM hv0 gw_306 dX7_readJobs_37 ?_
      refine lv_aload_n hx hb dX7_readJobs_40 rfl (lv_at hl 1 rfl) ?_
      refine lv_iload_n hx hb dX7_readJobs_41 rfl (lv_at hl 2 rfl) ?_
      refine lv_iconst (v := (2 : Int32)) hx hb dX7_readJobs_42 (by decide) ?_
      refine gq_backi C hM (gq_runV (As := [.int v3, .int (2 : Int32)]) (rest := [.ref (gx_ad L (v0 + 1))]) C hM (kX_lt hv2 (by decide)) (cX_5 hv2) rfl (c_X5_at l L v2 hv2 v3 (2 : Int32) I _ h) k_X5_at gw_433 rfl hl.1 rfl (Nat.le_of_ble_eq_true rfl) ⟨⟨rfl, rfl⟩, Nat.le_of_ble_eq_true rfl, Nat.le_of_ble_eq_true rfl⟩ ⟨Nat.zero_le _, Nat.zero_le _⟩ dX7_readJobs_43) (fun r2 I3 H locs h hM => ?_)
      refine gq_backe C hM (gq_runV (As := [.int r2]) (rest := []) C hM (kX_lt (kX_7_0 hv0) (by decide)) (cX_6 (kX_7_0 hv0)) rfl (c_X6_find l L (v0 + 1) (kX_7_0 hv0) r2 I3 _ h) k_X6_find gw_387 rfl hl.1 rfl (Nat.le_of_ble_eq_true rfl) ⟨⟨rfl, rfl⟩, Nat.le_of_ble_eq_true rfl, Nat.le_of_ble_eq_true rfl⟩ ⟨Nat.zero_le _, Nat.zero_le _⟩ dX7_readJobs_46) (fun r3 I4 H locs h hM => ?_)
      obtain ⟨hk1, h⟩ := h
      rcases r3 with _ | b1
      · replace h := h.1 rfl
        refine W.eq (g2 := F0 m 49 ls [.null]) rfl ?_
        refine lv_ifnonnullN hx hb dX7_readJobs_49 ?_
        refine gq_ldc (v := (-1000001 : Int32)) C gw_388 dX7_readJobs_52 ?_
        exact gq_iret C hM h dX7_readJobs_54
      · have hk := hk1 b1 rfl
        replace h := h.2 b1 rfl hk
        have hk2 := hk
        refine W.eq (g2 := F0 m 49 ls [.ref (gx_ad L b1)]) rfl ?_
        refine lv_ifnonnull (tgt := 55) hx hb dX7_readJobs_49 (by decide) ?_
        obtain ⟨x1, ex1⟩ : ∃ z : Int32, z = v3 + (1 : Int32) := ⟨_, rfl⟩
        replace h := h x1 ex1
        refine lv_iinc (v := x1) (lv' := [(3, .int x1), (0, .ref (gx_ad L v0)), (2, .ref (gx_ad L v2))]) hx hb dX7_readJobs_55 hl (k := 2) rfl (by rw [ex1]; rfl) (by decide) rfl (fun ls hl => ?_)
        refine lv_goto (tgt := 28) hx hb dX7_readJobs_58 (by decide) ?_
        exact ih v0 v2 x1 (hv0) (hv2) I4 _ _ _ hM (lv_sub hl [1, 2, 0] rfl) h
set_option maxHeartbeats 4000000 in
set_option maxRecDepth 100000 in
theorem c_X7_readJobs (l : Launch) (L : gx_L) (a0 : Nat) (hk0 : kX a0 = 7) (I : gx_M) (Q : Int32 → gx_M → Prop) (h : wp_X7_readJobs a0 I Q) : Met l yX7_readJobs (gx_w yX7_readJobs cX7_readJobs 4 (some .int)) rm_X7_readJobs (va_Pc [.ref (gx_ad L a0)] (gx_U L 282 (cellX L I))) (va_Qi Q (fun I' t => gx_U L 282 (cellX L I') t) (gx_A L)) 0 0 (gx_A L) := by
  refine gq_enter (by decide) (Nat.le_of_ble_eq_true rfl) (fun p e s m below meth c ls C hM hl => ?_)
  have C : gx_C L 282 p s m _ meth c RX7 cX7_readJobs 4 (some .int) := C
  have hl : lv_has ls 4 [(0, .ref (gx_ad L a0))] := hl
  have hx := C.1
  have hb := C.2.1
  unfold wp_X7_readJobs at h
  refine lv_aload_n hx hb dX7_readJobs_0 rfl (lv_at hl 0 rfl) ?_
  refine gX7_4 C hM hk0 gw_310 dX7_readJobs_1 ?_
  refine gq_backi C hM (gq_runV (As := []) (rest := []) C hM (kX_lt (kX_7_4 hk0) (by decide)) (cX_1 (kX_7_4 hk0)) rfl (c_X1_findFault l L (a0 + 269) (kX_7_4 hk0) I _ h) k_X1_findFault gw_541 rfl hl.1 rfl (Nat.le_of_ble_eq_true rfl) ⟨⟨rfl, rfl⟩, Nat.le_of_ble_eq_true rfl, Nat.le_of_ble_eq_true rfl⟩ ⟨Nat.zero_le _, Nat.zero_le _⟩ dX7_readJobs_4) (fun r1 I1 H locs h hM => ?_)
  refine lv_istore_n (lv' := [(1, .int r1), (0, .ref (gx_ad L a0))]) hx hb dX7_readJobs_7 rfl hl (by decide) rfl (fun ls hl => ?_)
  refine lv_iload_n hx hb dX7_readJobs_8 rfl (lv_at hl 0 rfl) ?_
  refine lv_iconst (v := (-1 : Int32)) hx hb dX7_readJobs_9 (by decide) ?_
  refine lv_icmp_eq (tgt := 18) hx hb dX7_readJobs_10 (by decide) (fun hc => ?_) (fun hc => ?_)
  · replace h := h.1 hc
    refine lv_aload_n hx hb dX7_readJobs_18 rfl (lv_at hl 1 rfl) ?_
    refine gX7_4 C hM hk0 gw_310 dX7_readJobs_19 ?_
    refine gX1_1 C hM (kX_7_4 hk0) gw_205 dX7_readJobs_22 ?_
    refine lv_astore_n (lv' := [(2, .ref (gx_ad L ((a0 + 269) + 2))), (1, .int r1), (0, .ref (gx_ad L a0))]) hx hb dX7_readJobs_25 rfl hl (by decide) rfl (fun ls hl => ?_)
    refine lv_iconst (v := (0 : Int32)) hx hb dX7_readJobs_26 (by decide) ?_
    refine lv_istore_n (lv' := [(3, .int (0 : Int32)), (2, .ref (gx_ad L ((a0 + 269) + 2))), (1, .int r1), (0, .ref (gx_ad L a0))]) hx hb dX7_readJobs_27 rfl hl (by decide) rfl (fun ls hl => ?_)
    obtain ⟨fv, h⟩ := h
    exact tl_X7_readJobs_28 C fv a0 ((a0 + 269) + 2) (0 : Int32) (hk0) (kX_1_1 (kX_7_4 hk0)) I1 _ _ _ hM (lv_sub hl [3, 1, 0] rfl) h
  · replace h := h.2 hc
    refine lv_bipush (v := (-100 : Int32)) hx hb dX7_readJobs_13 (by decide) ?_
    refine lv_iload_n hx hb dX7_readJobs_15 rfl (lv_at hl 0 rfl) ?_
    refine lv_isub hx hb dX7_readJobs_16 ?_
    exact gq_iret C hM h dX7_readJobs_17
theorem k_X7_readJobs : gx_kV yX7_readJobs cX7_readJobs 4 (some .int) 0 := ⟨⟨gw_540, gw_22, by decide, by decide, by decide +kernel⟩, gw_538, gw_539⟩
abbrev rm_X7_restore : Room := { frames := 4, cells := 0, slots := 0, locals := 90 }
set_option maxHeartbeats 4000000 in
set_option maxRecDepth 100000 in
theorem c_X7_restore (l : Launch) (L : gx_L) (a0 : Nat) (hk0 : kX a0 = 7) (I : gx_M) (Q : Int32 → gx_M → Prop) (h : wp_X7_restore a0 I Q) : Met l yX7_restore (gx_w yX7_restore cX7_restore 1 (some .int)) rm_X7_restore (va_Pc [.ref (gx_ad L a0)] (gx_U L 282 (cellX L I))) (va_Qi Q (fun I' t => gx_U L 282 (cellX L I') t) (gx_A L)) 0 0 (gx_A L) := by
  refine gq_enter (by decide) (Nat.le_of_ble_eq_true rfl) (fun p e s m below meth c ls C hM hl => ?_)
  have C : gx_C L 282 p s m _ meth c RX7 cX7_restore 1 (some .int) := C
  have hl : lv_has ls 1 [(0, .ref (gx_ad L a0))] := hl
  have hx := C.1
  have hb := C.2.1
  unfold wp_X7_restore at h
  refine lv_aload_n hx hb dX7_restore_0 rfl (lv_at hl 0 rfl) ?_
  refine gX7_2 C hM hk0 gw_308 dX7_restore_1 ?_
  refine lv_if_ne (tgt := 10) hx hb dX7_restore_4 (by decide) (fun hc => ?_) (fun hc => ?_)
  · replace h := h.2 hc
    refine lv_aload_n hx hb dX7_restore_10 rfl (lv_at hl 0 rfl) ?_
    refine gX7_3 C hM hk0 gw_309 dX7_restore_11 ?_
    refine lv_aload_n hx hb dX7_restore_14 rfl (lv_at hl 0 rfl) ?_
    refine gX7_0 C hM hk0 gw_306 dX7_restore_15 ?_
    refine gq_backv C hM (gq_runV (As := [.ref (gx_ad L (a0 + 1))]) (rest := []) C hM (kX_lt (kX_7_3 hk0) (by decide)) (cX_0 (kX_7_3 hk0)) rfl (c_X0_add l L (a0 + 77) (kX_7_3 hk0) (a0 + 1) (kX_7_0 hk0) I _ h) k_X0_add gw_356 rfl hl.1 rfl (Nat.le_of_ble_eq_true rfl) ⟨⟨rfl, rfl⟩, Nat.le_of_ble_eq_true rfl, Nat.le_of_ble_eq_true rfl⟩ ⟨Nat.zero_le _, Nat.zero_le _⟩ dX7_restore_18) (fun I1 H locs h hM => ?_)
    refine lv_aload_n hx hb dX7_restore_21 rfl (lv_at hl 0 rfl) ?_
    refine gX7_0 C hM hk0 gw_306 dX7_restore_22 ?_
    refine lv_aload_n hx hb dX7_restore_25 rfl (lv_at hl 0 rfl) ?_
    refine gX7_1 C hM hk0 gw_307 dX7_restore_26 ?_
    refine gq_backv C hM (gq_runV (As := [.ref (gx_ad L (a0 + 39))]) (rest := []) C hM (kX_lt (kX_7_0 hk0) (by decide)) (cX_6 (kX_7_0 hk0)) rfl (c_X6_copyFrom l L (a0 + 1) (kX_7_0 hk0) (a0 + 39) (kX_7_1 hk0) I1 _ h) k_X6_copyFrom gw_583 rfl hl.1 rfl (Nat.le_of_ble_eq_true rfl) ⟨⟨rfl, rfl⟩, Nat.le_of_ble_eq_true rfl, Nat.le_of_ble_eq_true rfl⟩ ⟨Nat.zero_le _, Nat.zero_le _⟩ dX7_restore_29) (fun I2 H locs h hM => ?_)
    refine lv_aload_n hx hb dX7_restore_32 rfl (lv_at hl 0 rfl) ?_
    refine gX7_0 C hM hk0 gw_306 dX7_restore_33 ?_
    refine gX6_3 C hM (kX_7_0 hk0) gw_143 dX7_restore_36 ?_
    exact gq_iret C hM h dX7_restore_39
  · replace h := h.1 hc
    refine gq_ldc (v := (-1000004 : Int32)) C gw_399 dX7_restore_7 ?_
    exact gq_iret C hM h dX7_restore_9
theorem k_X7_restore : gx_kV yX7_restore cX7_restore 1 (some .int) 0 := ⟨⟨gw_587, gw_22, by decide, by decide, by decide +kernel⟩, gw_585, gw_586⟩
abbrev rm_X7_undo : Room := { frames := 3, cells := 0, slots := 0, locals := 69 }
set_option maxHeartbeats 4000000 in
set_option maxRecDepth 100000 in
theorem c_X7_undo (l : Launch) (L : gx_L) (a0 : Nat) (hk0 : kX a0 = 7) (I : gx_M) (Q : Int32 → gx_M → Prop) (h : wp_X7_undo a0 I Q) : Met l yX7_undo (gx_w yX7_undo cX7_undo 2 (some .int)) rm_X7_undo (va_Pc [.ref (gx_ad L a0)] (gx_U L 282 (cellX L I))) (va_Qi Q (fun I' t => gx_U L 282 (cellX L I') t) (gx_A L)) 0 0 (gx_A L) := by
  refine gq_enter (by decide) (Nat.le_of_ble_eq_true rfl) (fun p e s m below meth c ls C hM hl => ?_)
  have C : gx_C L 282 p s m _ meth c RX7 cX7_undo 2 (some .int) := C
  have hl : lv_has ls 2 [(0, .ref (gx_ad L a0))] := hl
  have hx := C.1
  have hb := C.2.1
  unfold wp_X7_undo at h
  refine lv_aload_n hx hb dX7_undo_0 rfl (lv_at hl 0 rfl) ?_
  refine gX7_3 C hM hk0 gw_309 dX7_undo_1 ?_
  refine gq_backe C hM (gq_runV (As := []) (rest := []) C hM (kX_lt (kX_7_3 hk0) (by decide)) (cX_0 (kX_7_3 hk0)) rfl (c_X0_takeLatest l L (a0 + 77) (kX_7_3 hk0) I _ h) k_X0_takeLatest gw_579 rfl hl.1 rfl (Nat.le_of_ble_eq_true rfl) ⟨⟨rfl, rfl⟩, Nat.le_of_ble_eq_true rfl, Nat.le_of_ble_eq_true rfl⟩ ⟨Nat.zero_le _, Nat.zero_le _⟩ dX7_undo_4) (fun r1 I1 H locs h hM => ?_)
  obtain ⟨hk1, h⟩ := h
  rcases r1 with _ | b1
  · replace h := h.1 rfl
    refine W.eq (g2 := F0 m 7 ls [.null]) rfl ?_
    refine lv_astore_nN (lv' := [(1, .null), (0, .ref (gx_ad L a0))]) hx hb dX7_undo_7 rfl hl (by decide) rfl (fun ls hl => ?_)
    refine lv_aload_nN hx hb dX7_undo_8 rfl (lv_at hl 0 rfl) ?_
    refine lv_ifnonnullN hx hb dX7_undo_9 ?_
    refine gq_ldc (v := (-1000004 : Int32)) C gw_399 dX7_undo_12 ?_
    exact gq_iret C hM h dX7_undo_14
  · have hk := hk1 b1 rfl
    replace h := h.2 b1 rfl hk
    have hk2 := hk
    refine W.eq (g2 := F0 m 7 ls [.ref (gx_ad L b1)]) rfl ?_
    refine lv_astore_n (lv' := [(1, .ref (gx_ad L b1)), (0, .ref (gx_ad L a0))]) hx hb dX7_undo_7 rfl hl (by decide) rfl (fun ls hl => ?_)
    refine lv_aload_n hx hb dX7_undo_8 rfl (lv_at hl 0 rfl) ?_
    refine lv_ifnonnull (tgt := 15) hx hb dX7_undo_9 (by decide) ?_
    refine lv_aload_n hx hb dX7_undo_15 rfl (lv_at hl 1 rfl) ?_
    refine gX7_0 C hM hk0 gw_306 dX7_undo_16 ?_
    refine lv_aload_n hx hb dX7_undo_19 rfl (lv_at hl 0 rfl) ?_
    refine gq_backv C hM (gq_runV (As := [.ref (gx_ad L b1)]) (rest := []) C hM (kX_lt (kX_7_0 hk0) (by decide)) (cX_6 (kX_7_0 hk0)) rfl (c_X6_copyFrom l L (a0 + 1) (kX_7_0 hk0) b1 hk2 I1 _ h) k_X6_copyFrom gw_583 rfl hl.1 rfl (Nat.le_of_ble_eq_true rfl) ⟨⟨rfl, rfl⟩, Nat.le_of_ble_eq_true rfl, Nat.le_of_ble_eq_true rfl⟩ ⟨Nat.zero_le _, Nat.zero_le _⟩ dX7_undo_20) (fun I2 H locs h hM => ?_)
    refine lv_aload_n hx hb dX7_undo_23 rfl (lv_at hl 1 rfl) ?_
    refine gX7_3 C hM hk0 gw_309 dX7_undo_24 ?_
    refine gX0_1 C hM (kX_7_3 hk0) gw_189 dX7_undo_27 ?_
    exact gq_iret C hM h dX7_undo_30
theorem k_X7_undo : gx_kV yX7_undo cX7_undo 2 (some .int) 0 := ⟨⟨gw_578, gw_22, by decide, by decide, by decide +kernel⟩, gw_576, gw_577⟩
end
