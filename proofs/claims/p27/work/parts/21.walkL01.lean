section
variable {p : Program} {l : Launch} {e : Env} {s : State} {m : MethodId} {args : Array Value} {below : List Frame} {meth : Method} {c : Code} {L : gx_L}
abbrev rm_L_low : Room := { frames := 0, cells := 0, slots := 0, locals := 0 }
set_option maxHeartbeats 4000000 in
set_option maxRecDepth 100000 in
theorem c_L_low (l : Launch) (L : gx_L) (p0 : Int32) (p1 : Int32) (I : gx_M) (Q : Int32 → gx_M → Prop) (h : wp_L_low p0 p1 I Q) : Met l yL_low (gx_w yL_low cL_low 2 (some .int)) rm_L_low (va_Pc [.int p0, .int p1] (gx_U L 282 (cellX L I))) (va_Qi Q (fun I' t => gx_U L 282 (cellX L I') t) (gx_A L)) 0 0 (gx_A L) := by
  refine gq_enter (by decide) (Nat.le_of_ble_eq_true rfl) (fun p e s m below meth c ls C hM hl => ?_)
  have C : gx_C L 282 p s m _ meth c RL cL_low 2 (some .int) := C
  have hl : lv_has ls 2 [(0, .int p0), (1, .int p1)] := hl
  have hx := C.1
  have hb := C.2.1
  unfold wp_L_low at h
  refine lv_iload_n hx hb dL_low_0 rfl (lv_at hl 0 rfl) ?_
  refine gq_ldc (v := (2147483647 : Int32)) C gw_612 dL_low_1 ?_
  refine lv_iand hx hb dL_low_3 ?_
  refine lv_iload_n hx hb dL_low_4 rfl (lv_at hl 1 rfl) ?_
  refine lv_irem hx hb dL_low_5 h.1 ?_
  replace h := h.2
  exact gq_iret C hM h dL_low_6
theorem k_L_low : gx_kS yL_low cL_low 2 (some .int) 2 := ⟨⟨gw_611, gw_21, by decide, by decide, by decide +kernel⟩, gw_610⟩
abbrev rm_L_asks : Room := { frames := 5, cells := 0, slots := 0, locals := 113 }
set_option maxHeartbeats 4000000 in
set_option maxRecDepth 100000 in
theorem tj_L_asks_68 (C : gx_C L 282 p s m args meth c RL cL_asks 6 (some .boolean)) {Q : Int32 → gx_M → Prop} : ∀  (I : gx_M) (H : Heap) (locs : List Loc) (ls : Array Slot), gx_S L 282 (cellX L I) s.heap H locs → lv_has ls 6 [] → wj_L_asks_68 Q  I → W p l e rm_L_asks s m args below meth c H locs 0 0 (MQ below (va_Qi (fun r I' => r &&& 1 = r ∧ Q r I') (fun I' t => gx_U L 282 (cellX L I') t) (gx_A L)) args s 0 0 (gx_A L)) (F0 m 68 ls []) := by
  have hx := C.1
  have hb := C.2.1
  intro   I H locs ls hM hl h
  unfold wj_L_asks_68 at h
  refine lv_iconst (v := (0 : Int32)) hx hb dL_asks_68 (by decide) ?_
  refine lv_goto (tgt := 107) hx hb dL_asks_69 (by decide) ?_
  exact gq_zret C hM ⟨rfl, h⟩ (rfl) dL_asks_107
set_option maxHeartbeats 4000000 in
set_option maxRecDepth 100000 in
theorem c_L_asks (l : Launch) (L : gx_L) (p0 : Nat) (hp0 : kX p0 = 7) (p1 : Int32) (p2 : Int32) (I : gx_M) (Q : Int32 → gx_M → Prop) (h : wp_L_asks p0 p1 p2 I Q) : Met l yL_asks (gx_w yL_asks cL_asks 6 (some .boolean)) rm_L_asks (va_Pc [.ref (gx_ad L p0), .int p1, .int p2] (gx_U L 282 (cellX L I))) (va_Qi (fun r I' => r &&& 1 = r ∧ Q r I') (fun I' t => gx_U L 282 (cellX L I') t) (gx_A L)) 0 0 (gx_A L) := by
  refine gq_enter (by decide) (Nat.le_of_ble_eq_true rfl) (fun p e s m below meth c ls C hM hl => ?_)
  have C : gx_C L 282 p s m _ meth c RL cL_asks 6 (some .boolean) := C
  have hl : lv_has ls 6 [(0, .ref (gx_ad L p0)), (1, .int p1), (2, .int p2)] := hl
  have hx := C.1
  have hb := C.2.1
  unfold wp_L_asks at h
  refine lv_aload_n hx hb dL_asks_0 rfl (lv_at hl 0 rfl) ?_
  refine lv_iconst (v := (1 : Int32)) hx hb dL_asks_1 (by decide) ?_
  refine gq_backi C hM (gq_runV (As := [.int (1 : Int32)]) (rest := []) C hM (kX_lt hp0 (by decide)) (cX_7 hp0) rfl (c_X7_count l L p0 hp0 (1 : Int32) I _ h) k_X7_count gw_601 rfl hl.1 rfl (Nat.le_of_ble_eq_true rfl) ⟨⟨rfl, rfl⟩, Nat.le_of_ble_eq_true rfl, Nat.le_of_ble_eq_true rfl⟩ ⟨Nat.zero_le _, Nat.zero_le _⟩ dL_asks_2) (fun r1 I1 H locs h hM => ?_)
  refine lv_istore_n (lv' := [(3, .int r1), (0, .ref (gx_ad L p0)), (1, .int p1), (2, .int p2)]) hx hb dL_asks_5 rfl hl (by decide) rfl (fun ls hl => ?_)
  refine lv_aload_n hx hb dL_asks_6 rfl (lv_at hl 1 rfl) ?_
  refine lv_iconst (v := (2 : Int32)) hx hb dL_asks_7 (by decide) ?_
  refine gq_backi C hM (gq_runV (As := [.int (2 : Int32)]) (rest := []) C hM (kX_lt hp0 (by decide)) (cX_7 hp0) rfl (c_X7_count l L p0 hp0 (2 : Int32) I1 _ h) k_X7_count gw_601 rfl hl.1 rfl (Nat.le_of_ble_eq_true rfl) ⟨⟨rfl, rfl⟩, Nat.le_of_ble_eq_true rfl, Nat.le_of_ble_eq_true rfl⟩ ⟨Nat.zero_le _, Nat.zero_le _⟩ dL_asks_8) (fun r2 I2 H locs h hM => ?_)
  refine lv_istore (lv' := [(4, .int r2), (3, .int r1), (0, .ref (gx_ad L p0)), (1, .int p1), (2, .int p2)]) hx hb dL_asks_11 hl (by decide) rfl (fun ls hl => ?_)
  refine lv_aload_n hx hb dL_asks_13 rfl (lv_at hl 2 rfl) ?_
  refine lv_iload_n hx hb dL_asks_14 rfl (lv_at hl 4 rfl) ?_
  refine lv_iconst (v := (3 : Int32)) hx hb dL_asks_15 (by decide) ?_
  refine gq_backi C hM (gq_runS (As := [.int p2, .int (3 : Int32)]) (rest := [.ref (gx_ad L p0)]) C hM (c_L_low l L p2 (3 : Int32) I2 _ h) k_L_low gw_609 rfl hl.1 rfl (Nat.le_of_ble_eq_true rfl) ⟨⟨rfl, rfl⟩, Nat.le_of_ble_eq_true rfl, Nat.le_of_ble_eq_true rfl⟩ ⟨Nat.zero_le _, Nat.zero_le _⟩ dL_asks_16) (fun r3 I3 H locs h hM => ?_)
  refine lv_iload_n hx hb dL_asks_19 rfl (lv_at hl 3 rfl) ?_
  refine lv_aload_n hx hb dL_asks_20 rfl (lv_at hl 2 rfl) ?_
  refine lv_iconst (v := (0 : Int32)) hx hb dL_asks_21 (by decide) ?_
  refine gq_backi C hM (gq_runV (As := [.int (0 : Int32)]) (rest := [.int p1, .int r3, .ref (gx_ad L p0)]) C hM (kX_lt hp0 (by decide)) (cX_7 hp0) rfl (c_X7_count l L p0 hp0 (0 : Int32) I3 _ h) k_X7_count gw_601 rfl hl.1 rfl (Nat.le_of_ble_eq_true rfl) ⟨⟨rfl, rfl⟩, Nat.le_of_ble_eq_true rfl, Nat.le_of_ble_eq_true rfl⟩ ⟨Nat.zero_le _, Nat.zero_le _⟩ dL_asks_22) (fun r4 I4 H locs h hM => ?_)
  refine gq_backi C hM (gq_runS (As := [.int p1, .int r4]) (rest := [.int r3, .ref (gx_ad L p0)]) C hM (c_L_low l L p1 r4 I4 _ h) k_L_low gw_609 rfl hl.1 rfl (Nat.le_of_ble_eq_true rfl) ⟨⟨rfl, rfl⟩, Nat.le_of_ble_eq_true rfl, Nat.le_of_ble_eq_true rfl⟩ ⟨Nat.zero_le _, Nat.zero_le _⟩ dL_asks_25) (fun r5 I5 H locs h hM => ?_)
  refine lv_iload_n hx hb dL_asks_28 rfl (lv_at hl 4 rfl) ?_
  refine lv_iconst (v := (4 : Int32)) hx hb dL_asks_29 (by decide) ?_
  refine lv_ishr hx hb dL_asks_30 ?_
  refine lv_bipush (v := (10 : Int32)) hx hb dL_asks_31 (by decide) ?_
  refine gq_backi C hM (gq_runS (As := [.int (p2 >>> ((4 : Int32) &&& 31)), .int (10 : Int32)]) (rest := [.int r5, .int r3, .ref (gx_ad L p0)]) C hM (c_L_low l L (p2 >>> ((4 : Int32) &&& 31)) (10 : Int32) I5 _ h) k_L_low gw_609 rfl hl.1 rfl (Nat.le_of_ble_eq_true rfl) ⟨⟨rfl, rfl⟩, Nat.le_of_ble_eq_true rfl, Nat.le_of_ble_eq_true rfl⟩ ⟨Nat.zero_le _, Nat.zero_le _⟩ dL_asks_33) (fun r6 I6 H locs h hM => ?_)
  refine gq_backi C hM (gq_runV (As := [.int r3, .int r5, .int r6]) (rest := []) C hM (kX_lt hp0 (by decide)) (cX_7 hp0) rfl (c_X7_request l L p0 hp0 r3 r5 r6 I6 _ h) k_X7_request gw_708 rfl hl.1 rfl (Nat.le_of_ble_eq_true rfl) ⟨⟨rfl, rfl⟩, Nat.le_of_ble_eq_true rfl, Nat.le_of_ble_eq_true rfl⟩ ⟨Nat.zero_le _, Nat.zero_le _⟩ dL_asks_36) (fun r7 I7 H locs h hM => ?_)
  refine lv_istore (lv' := [(5, .int r7), (4, .int r2), (3, .int r1), (0, .ref (gx_ad L p0)), (1, .int p1), (2, .int p2)]) hx hb dL_asks_39 hl (by decide) rfl (fun ls hl => ?_)
  refine lv_iload_n hx hb dL_asks_41 rfl (lv_at hl 2 rfl) ?_
  refine lv_bipush (v := (20 : Int32)) hx hb dL_asks_42 (by decide) ?_
  refine lv_icmp_ne (tgt := 72) hx hb dL_asks_44 (by decide) (fun hc => ?_) (fun hc => ?_)
  · replace h := h.2 hc
    refine lv_iload hx hb dL_asks_72 (lv_at hl 0 rfl) ?_
    refine lv_iload hx hb dL_asks_74 (lv_at hl 1 rfl) ?_
    refine lv_icmp_ne (tgt := 106) hx hb dL_asks_76 (by decide) (fun hc => ?_) (fun hc => ?_)
    · replace h := h.2 hc
      refine lv_iconst (v := (0 : Int32)) hx hb dL_asks_106 (by decide) ?_
      exact gq_zret C hM ⟨rfl, h⟩ (rfl) dL_asks_107
    · replace h := h.1 hc
      refine lv_aload_n hx hb dL_asks_79 rfl (lv_at hl 3 rfl) ?_
      refine lv_iconst (v := (1 : Int32)) hx hb dL_asks_80 (by decide) ?_
      refine gq_backi C hM (gq_runV (As := [.int (1 : Int32)]) (rest := []) C hM (kX_lt hp0 (by decide)) (cX_7 hp0) rfl (c_X7_count l L p0 hp0 (1 : Int32) I7 _ h) k_X7_count gw_601 rfl hl.1 rfl (Nat.le_of_ble_eq_true rfl) ⟨⟨rfl, rfl⟩, Nat.le_of_ble_eq_true rfl, Nat.le_of_ble_eq_true rfl⟩ ⟨Nat.zero_le _, Nat.zero_le _⟩ dL_asks_81) (fun r8 I8 H locs h hM => ?_)
      refine lv_iload_n hx hb dL_asks_84 rfl (lv_at hl 2 rfl) ?_
      refine lv_iconst (v := (1 : Int32)) hx hb dL_asks_85 (by decide) ?_
      refine lv_iadd hx hb dL_asks_86 ?_
      refine lv_icmp_ne (tgt := 106) hx hb dL_asks_87 (by decide) (fun hc => ?_) (fun hc => ?_)
      · replace h := h.2 hc
        refine lv_iconst (v := (0 : Int32)) hx hb dL_asks_106 (by decide) ?_
        exact gq_zret C hM ⟨rfl, h⟩ (rfl) dL_asks_107
      · replace h := h.1 hc
        refine lv_aload_n hx hb dL_asks_90 rfl (lv_at hl 3 rfl) ?_
        refine lv_iconst (v := (3 : Int32)) hx hb dL_asks_91 (by decide) ?_
        refine lv_iconst (v := (0 : Int32)) hx hb dL_asks_92 (by decide) ?_
        refine lv_iconst (v := (0 : Int32)) hx hb dL_asks_93 (by decide) ?_
        refine gq_backi C hM (gq_runV (As := [.int (3 : Int32), .int (0 : Int32), .int (0 : Int32)]) (rest := []) C hM (kX_lt hp0 (by decide)) (cX_7 hp0) rfl (c_X7_request l L p0 hp0 (3 : Int32) (0 : Int32) (0 : Int32) I8 _ h) k_X7_request gw_708 rfl hl.1 rfl (Nat.le_of_ble_eq_true rfl) ⟨⟨rfl, rfl⟩, Nat.le_of_ble_eq_true rfl, Nat.le_of_ble_eq_true rfl⟩ ⟨Nat.zero_le _, Nat.zero_le _⟩ dL_asks_94) (fun r9 I9 H locs h hM => ?_)
        refine gq_ldc (v := (-1000002 : Int32)) C gw_647 dL_asks_97 ?_
        refine lv_icmp_ne (tgt := 106) hx hb dL_asks_99 (by decide) (fun hc => ?_) (fun hc => ?_)
        · replace h := h.2 hc
          refine lv_iconst (v := (0 : Int32)) hx hb dL_asks_106 (by decide) ?_
          exact gq_zret C hM ⟨rfl, h⟩ (rfl) dL_asks_107
        · replace h := h.1 hc
          refine lv_iconst (v := (1 : Int32)) hx hb dL_asks_102 (by decide) ?_
          refine lv_goto (tgt := 107) hx hb dL_asks_103 (by decide) ?_
          exact gq_zret C hM ⟨rfl, h⟩ (rfl) dL_asks_107
  · replace h := h.1 hc
    refine lv_iload hx hb dL_asks_47 (lv_at hl 0 rfl) ?_
    refine gq_ldc (v := (-1000003 : Int32)) C gw_712 dL_asks_49 ?_
    refine lv_icmp_ne (tgt := 68) hx hb dL_asks_51 (by decide) (fun hc => ?_) (fun hc => ?_)
    · replace h := h.2 hc
      exact tj_L_asks_68 C  I7 _ _ _ hM (lv_sub hl [] rfl) h
    · replace h := h.1 hc
      refine lv_aload_n hx hb dL_asks_54 rfl (lv_at hl 3 rfl) ?_
      refine lv_bipush (v := (9 : Int32)) hx hb dL_asks_55 (by decide) ?_
      refine gq_backi C hM (gq_runV (As := [.int (9 : Int32)]) (rest := []) C hM (kX_lt hp0 (by decide)) (cX_7 hp0) rfl (c_X7_count l L p0 hp0 (9 : Int32) I7 _ h) k_X7_count gw_601 rfl hl.1 rfl (Nat.le_of_ble_eq_true rfl) ⟨⟨rfl, rfl⟩, Nat.le_of_ble_eq_true rfl, Nat.le_of_ble_eq_true rfl⟩ ⟨Nat.zero_le _, Nat.zero_le _⟩ dL_asks_57) (fun r10 I10 H locs h hM => ?_)
      refine lv_iconst (v := (1 : Int32)) hx hb dL_asks_60 (by decide) ?_
      refine lv_icmp_ne (tgt := 68) hx hb dL_asks_61 (by decide) (fun hc => ?_) (fun hc => ?_)
      · replace h := h.2 hc
        exact tj_L_asks_68 C  I10 _ _ _ hM (lv_sub hl [] rfl) h
      · replace h := h.1 hc
        refine lv_iconst (v := (1 : Int32)) hx hb dL_asks_64 (by decide) ?_
        refine lv_goto (tgt := 107) hx hb dL_asks_65 (by decide) ?_
        exact gq_zret C hM ⟨rfl, h⟩ (rfl) dL_asks_107
theorem k_L_asks : gx_kS yL_asks cL_asks 6 (some .boolean) 3 := ⟨⟨gw_707, gw_21, by decide, by decide, by decide +kernel⟩, gw_706⟩
abbrev rm_L_did : Room := { frames := 6, cells := 0, slots := 0, locals := 134 }
set_option maxHeartbeats 4000000 in
set_option maxRecDepth 100000 in
theorem tj_L_did_107 (C : gx_C L 282 p s m args meth c RL cL_did 5 (some .boolean)) {Q : Int32 → gx_M → Prop} : ∀  (I : gx_M) (H : Heap) (locs : List Loc) (ls : Array Slot), gx_S L 282 (cellX L I) s.heap H locs → lv_has ls 5 [] → wj_L_did_107 Q  I → W p l e rm_L_did s m args below meth c H locs 0 0 (MQ below (va_Qi (fun r I' => r &&& 1 = r ∧ Q r I') (fun I' t => gx_U L 282 (cellX L I') t) (gx_A L)) args s 0 0 (gx_A L)) (F0 m 107 ls []) := by
  have hx := C.1
  have hb := C.2.1
  intro   I H locs ls hM hl h
  unfold wj_L_did_107 at h
  refine lv_iconst (v := (1 : Int32)) hx hb dL_did_107 (by decide) ?_
  refine lv_goto (tgt := 112) hx hb dL_did_108 (by decide) ?_
  exact gq_zret C hM ⟨rfl, h⟩ (rfl) dL_did_112
set_option maxHeartbeats 4000000 in
set_option maxRecDepth 100000 in
theorem tj_L_did_210 (C : gx_C L 282 p s m args meth c RL cL_did 5 (some .boolean)) {Q : Int32 → gx_M → Prop} {K151 : Nat → Int32 → Int32 → Int32 → gx_M → Prop} (hK151 : ∀ (v0 : Nat) (v1 : Int32) (v2 : Int32) (v4 : Int32) (hv0 : kX v0 = 7) (I : gx_M) (H : Heap) (locs : List Loc) (ls : Array Slot), gx_S L 282 (cellX L I) s.heap H locs → lv_has ls 5 [(0, .ref (gx_ad L v0)), (1, .int v1), (2, .int v2), (4, .int v4)] → K151 v0 v1 v2 v4 I → W p l e rm_L_did s m args below meth c H locs 0 0 (MQ below (va_Qi (fun r I' => r &&& 1 = r ∧ Q r I') (fun I' t => gx_U L 282 (cellX L I') t) (gx_A L)) args s 0 0 (gx_A L)) (F0 m 151 ls [])) : ∀ (v0 : Nat) (v1 : Int32) (v2 : Int32) (v4 : Int32) (hv0 : kX v0 = 7) (I : gx_M) (H : Heap) (locs : List Loc) (ls : Array Slot), gx_S L 282 (cellX L I) s.heap H locs → lv_has ls 5 [(0, .ref (gx_ad L v0)), (1, .int v1), (2, .int v2), (4, .int v4)] → wj_L_did_210 Q K151 v0 v1 v2 v4 I → W p l e rm_L_did s m args below meth c H locs 0 0 (MQ below (va_Qi (fun r I' => r &&& 1 = r ∧ Q r I') (fun I' t => gx_U L 282 (cellX L I') t) (gx_A L)) args s 0 0 (gx_A L)) (F0 m 210 ls []) := by
  have hx := C.1
  have hb := C.2.1
  intro v0 v1 v2 v4 hv0 I H locs ls hM hl h
  unfold wj_L_did_210 at h
  obtain ⟨x1, ex1⟩ : ∃ z : Int32, z = v4 + (1 : Int32) := ⟨_, rfl⟩
  replace h := h x1 ex1
  refine lv_iinc (v := x1) (lv' := [(4, .int x1), (0, .ref (gx_ad L v0)), (1, .int v1), (2, .int v2)]) hx hb dL_did_210 hl (k := 3) rfl (by rw [ex1]; rfl) (by decide) rfl (fun ls hl => ?_)
  refine lv_goto (tgt := 151) hx hb dL_did_213 (by decide) ?_
  exact hK151 v0 v1 v2 x1 (hv0) I _ _ _ hM (lv_sub hl [1, 2, 3, 0] rfl) h
set_option maxHeartbeats 4000000 in
set_option maxRecDepth 100000 in
theorem tl_L_did_151 (C : gx_C L 282 p s m args meth c RL cL_did 5 (some .boolean)) {Q : Int32 → gx_M → Prop} : ∀ (fu : Nat) (v0 : Nat) (v1 : Int32) (v2 : Int32) (v4 : Int32) (hv0 : kX v0 = 7) (I : gx_M) (H : Heap) (locs : List Loc) (ls : Array Slot), gx_S L 282 (cellX L I) s.heap H locs → lv_has ls 5 [(0, .ref (gx_ad L v0)), (1, .int v1), (2, .int v2), (4, .int v4)] → wl_L_did_151 Q fu v0 v1 v2 v4 I → W p l e rm_L_did s m args below meth c H locs 0 0 (MQ below (va_Qi (fun r I' => r &&& 1 = r ∧ Q r I') (fun I' t => gx_U L 282 (cellX L I') t) (gx_A L)) args s 0 0 (gx_A L)) (F0 m 151 ls []) := by
  have hx := C.1
  have hb := C.2.1
  intro fu
  induction fu with
  | zero => intros; rename_i h; exact False.elim h
  | succ fu ih =>
    intro v0 v1 v2 v4 hv0 I H locs ls hM hl h
    rw [wl_L_did_151] at h
    refine lv_iload hx hb dL_did_151 (lv_at hl 3 rfl) ?_
    refine lv_iconst (v := (3 : Int32)) hx hb dL_did_153 (by decide) ?_
    refine lv_icmp_ge (tgt := 216) hx hb dL_did_154 (by decide) (fun hc => ?_) (fun hc => ?_)
    · replace h := h.1 hc
      refine lv_aload_n hx hb dL_did_216 rfl (lv_at hl 0 rfl) ?_
      refine lv_iconst (v := (0 : Int32)) hx hb dL_did_217 (by decide) ?_
      refine lv_iconst (v := (2 : Int32)) hx hb dL_did_218 (by decide) ?_
      refine gq_backi C hM (gq_runV (As := [.int (0 : Int32), .int (2 : Int32)]) (rest := []) C hM (kX_lt hv0 (by decide)) (cX_7 hv0) rfl (c_X7_record l L v0 hv0 (0 : Int32) (2 : Int32) I _ h) k_X7_record gw_630 rfl hl.1 rfl (Nat.le_of_ble_eq_true rfl) ⟨⟨rfl, rfl⟩, Nat.le_of_ble_eq_true rfl, Nat.le_of_ble_eq_true rfl⟩ ⟨Nat.zero_le _, Nat.zero_le _⟩ dL_did_219) (fun r1 I1 H locs h hM => ?_)
      refine lv_if_lt (tgt := 239) hx hb dL_did_222 (by decide) (fun hc => ?_) (fun hc => ?_)
      · replace h := h.1 hc
        refine lv_iconst (v := (0 : Int32)) hx hb dL_did_239 (by decide) ?_
        exact gq_zret C hM ⟨rfl, h⟩ (rfl) dL_did_240
      · replace h := h.2 hc
        refine lv_aload_n hx hb dL_did_225 rfl (lv_at hl 0 rfl) ?_
        refine lv_iconst (v := (0 : Int32)) hx hb dL_did_226 (by decide) ?_
        refine lv_iconst (v := (2 : Int32)) hx hb dL_did_227 (by decide) ?_
        refine gq_backi C hM (gq_runV (As := [.int (0 : Int32), .int (2 : Int32)]) (rest := []) C hM (kX_lt hv0 (by decide)) (cX_7 hv0) rfl (c_X7_record l L v0 hv0 (0 : Int32) (2 : Int32) I1 _ h) k_X7_record gw_630 rfl hl.1 rfl (Nat.le_of_ble_eq_true rfl) ⟨⟨rfl, rfl⟩, Nat.le_of_ble_eq_true rfl, Nat.le_of_ble_eq_true rfl⟩ ⟨Nat.zero_le _, Nat.zero_le _⟩ dL_did_228) (fun r2 I2 H locs h hM => ?_)
        refine lv_iconst (v := (3 : Int32)) hx hb dL_did_231 (by decide) ?_
        refine lv_icmp_gt (tgt := 239) hx hb dL_did_232 (by decide) (fun hc => ?_) (fun hc => ?_)
        · replace h := h.1 hc
          refine lv_iconst (v := (0 : Int32)) hx hb dL_did_239 (by decide) ?_
          exact gq_zret C hM ⟨rfl, h⟩ (rfl) dL_did_240
        · replace h := h.2 hc
          refine lv_iconst (v := (1 : Int32)) hx hb dL_did_235 (by decide) ?_
          refine lv_goto (tgt := 240) hx hb dL_did_236 (by decide) ?_
          exact gq_zret C hM ⟨rfl, h⟩ (rfl) dL_did_240
    · replace h := h.2 hc
      refine lv_iload_n hx hb dL_did_157 rfl (lv_at hl 1 rfl) ?_
      refine lv_iconst (v := (1 : Int32)) hx hb dL_did_158 (by decide) ?_
      refine lv_icmp_ne (tgt := 176) hx hb dL_did_159 (by decide) (fun hc => ?_) (fun hc => ?_)
      · replace h := h.2 hc
        refine lv_aload_n hx hb dL_did_176 rfl (lv_at hl 0 rfl) ?_
        refine lv_iload_n hx hb dL_did_177 rfl (lv_at hl 2 rfl) ?_
        refine lv_iload hx hb dL_did_178 (lv_at hl 3 rfl) ?_
        refine lv_iconst (v := (5 : Int32)) hx hb dL_did_180 (by decide) ?_
        refine gq_backi C hM (gq_runV (As := [.int v2, .int v4, .int (5 : Int32)]) (rest := []) C hM (kX_lt hv0 (by decide)) (cX_7 hv0) rfl (c_X7_gauge l L v0 hv0 v2 v4 (5 : Int32) I _ h) k_X7_gauge gw_592 rfl hl.1 rfl (Nat.le_of_ble_eq_true rfl) ⟨⟨rfl, rfl⟩, Nat.le_of_ble_eq_true rfl, Nat.le_of_ble_eq_true rfl⟩ ⟨Nat.zero_le _, Nat.zero_le _⟩ dL_did_181) (fun r3 I3 H locs h hM => ?_)
        refine lv_aload_n hx hb dL_did_184 rfl (lv_at hl 0 rfl) ?_
        refine lv_iload_n hx hb dL_did_185 rfl (lv_at hl 2 rfl) ?_
        refine lv_bipush (v := (9 : Int32)) hx hb dL_did_186 (by decide) ?_
        refine gq_backi C hM (gq_runV (As := [.int v2, .int (9 : Int32)]) (rest := [.int r3]) C hM (kX_lt hv0 (by decide)) (cX_7 hv0) rfl (c_X7_rosette l L v0 hv0 v2 (9 : Int32) I3 _ h) k_X7_rosette gw_588 rfl hl.1 rfl (Nat.le_of_ble_eq_true rfl) ⟨⟨rfl, rfl⟩, Nat.le_of_ble_eq_true rfl, Nat.le_of_ble_eq_true rfl⟩ ⟨Nat.zero_le _, Nat.zero_le _⟩ dL_did_188) (fun r4 I4 H locs h hM => ?_)
        refine lv_sipush (v := (1000 : Int32)) hx hb dL_did_191 (by decide) ?_
        refine lv_imul hx hb dL_did_194 ?_
        refine lv_aload_n hx hb dL_did_195 rfl (lv_at hl 0 rfl) ?_
        refine lv_iload_n hx hb dL_did_196 rfl (lv_at hl 2 rfl) ?_
        refine lv_iload hx hb dL_did_197 (lv_at hl 3 rfl) ?_
        refine lv_bipush (v := (7 : Int32)) hx hb dL_did_199 (by decide) ?_
        refine gq_backi C hM (gq_runV (As := [.int v2, .int v4, .int (7 : Int32)]) (rest := [.int (r4 * (1000 : Int32)), .int r3]) C hM (kX_lt hv0 (by decide)) (cX_7 hv0) rfl (c_X7_gauge l L v0 hv0 v2 v4 (7 : Int32) I4 _ h) k_X7_gauge gw_592 rfl hl.1 rfl (Nat.le_of_ble_eq_true rfl) ⟨⟨rfl, rfl⟩, Nat.le_of_ble_eq_true rfl, Nat.le_of_ble_eq_true rfl⟩ ⟨Nat.zero_le _, Nat.zero_le _⟩ dL_did_201) (fun r5 I5 H locs h hM => ?_)
        refine lv_idiv hx hb dL_did_204 h.1 ?_
        replace h := h.2
        refine lv_icmp_eq (tgt := 210) hx hb dL_did_205 (by decide) (fun hc => ?_) (fun hc => ?_)
        · replace h := h.1 hc
          exact tj_L_did_210 C ih v0 v1 v2 v4 (hv0) I5 _ _ _ hM (lv_sub hl [0, 1, 2, 3] rfl) h
        · replace h := h.2 hc
          refine lv_iconst (v := (0 : Int32)) hx hb dL_did_208 (by decide) ?_
          exact gq_zret C hM ⟨rfl, h⟩ (rfl) dL_did_209
      · replace h := h.1 hc
        refine lv_aload_n hx hb dL_did_162 rfl (lv_at hl 0 rfl) ?_
        refine lv_iload_n hx hb dL_did_163 rfl (lv_at hl 2 rfl) ?_
        refine lv_iload hx hb dL_did_164 (lv_at hl 3 rfl) ?_
        refine lv_iconst (v := (2 : Int32)) hx hb dL_did_166 (by decide) ?_
        refine gq_backi C hM (gq_runV (As := [.int v2, .int v4, .int (2 : Int32)]) (rest := []) C hM (kX_lt hv0 (by decide)) (cX_7 hv0) rfl (c_X7_gauge l L v0 hv0 v2 v4 (2 : Int32) I _ h) k_X7_gauge gw_592 rfl hl.1 rfl (Nat.le_of_ble_eq_true rfl) ⟨⟨rfl, rfl⟩, Nat.le_of_ble_eq_true rfl, Nat.le_of_ble_eq_true rfl⟩ ⟨Nat.zero_le _, Nat.zero_le _⟩ dL_did_167) (fun r6 I6 H locs h hM => ?_)
        refine lv_if_eq (tgt := 210) hx hb dL_did_170 (by decide) (fun hc => ?_) (fun hc => ?_)
        · replace h := h.1 hc
          exact tj_L_did_210 C ih v0 v1 v2 v4 (hv0) I6 _ _ _ hM (lv_sub hl [0, 1, 2, 3] rfl) h
        · replace h := h.2 hc
          refine lv_goto (tgt := 208) hx hb dL_did_173 (by decide) ?_
          refine lv_iconst (v := (0 : Int32)) hx hb dL_did_208 (by decide) ?_
          exact gq_zret C hM ⟨rfl, h⟩ (rfl) dL_did_209
set_option maxHeartbeats 4000000 in
set_option maxRecDepth 100000 in
theorem c_L_did (l : Launch) (L : gx_L) (p0 : Nat) (hp0 : kX p0 = 7) (I : gx_M) (Q : Int32 → gx_M → Prop) (h : wp_L_did p0 I Q) : Met l yL_did (gx_w yL_did cL_did 5 (some .boolean)) rm_L_did (va_Pc [.ref (gx_ad L p0)] (gx_U L 282 (cellX L I))) (va_Qi (fun r I' => r &&& 1 = r ∧ Q r I') (fun I' t => gx_U L 282 (cellX L I') t) (gx_A L)) 0 0 (gx_A L) := by
  refine gq_enter (by decide) (Nat.le_of_ble_eq_true rfl) (fun p e s m below meth c ls C hM hl => ?_)
  have C : gx_C L 282 p s m _ meth c RL cL_did 5 (some .boolean) := C
  have hl : lv_has ls 5 [(0, .ref (gx_ad L p0))] := hl
  have hx := C.1
  have hb := C.2.1
  unfold wp_L_did at h
  refine lv_aload_n hx hb dL_did_0 rfl (lv_at hl 0 rfl) ?_
  refine lv_iconst (v := (0 : Int32)) hx hb dL_did_1 (by decide) ?_
  refine lv_iconst (v := (0 : Int32)) hx hb dL_did_2 (by decide) ?_
  refine gq_backi C hM (gq_runV (As := [.int (0 : Int32), .int (0 : Int32)]) (rest := []) C hM (kX_lt hp0 (by decide)) (cX_7 hp0) rfl (c_X7_record l L p0 hp0 (0 : Int32) (0 : Int32) I _ h) k_X7_record gw_630 rfl hl.1 rfl (Nat.le_of_ble_eq_true rfl) ⟨⟨rfl, rfl⟩, Nat.le_of_ble_eq_true rfl, Nat.le_of_ble_eq_true rfl⟩ ⟨Nat.zero_le _, Nat.zero_le _⟩ dL_did_3) (fun r1 I1 H locs h hM => ?_)
  refine lv_istore_n (lv' := [(1, .int r1), (0, .ref (gx_ad L p0))]) hx hb dL_did_6 rfl hl (by decide) rfl (fun ls hl => ?_)
  refine lv_aload_n hx hb dL_did_7 rfl (lv_at hl 1 rfl) ?_
  refine lv_iconst (v := (0 : Int32)) hx hb dL_did_8 (by decide) ?_
  refine lv_iconst (v := (1 : Int32)) hx hb dL_did_9 (by decide) ?_
  refine gq_backi C hM (gq_runV (As := [.int (0 : Int32), .int (1 : Int32)]) (rest := []) C hM (kX_lt hp0 (by decide)) (cX_7 hp0) rfl (c_X7_record l L p0 hp0 (0 : Int32) (1 : Int32) I1 _ h) k_X7_record gw_630 rfl hl.1 rfl (Nat.le_of_ble_eq_true rfl) ⟨⟨rfl, rfl⟩, Nat.le_of_ble_eq_true rfl, Nat.le_of_ble_eq_true rfl⟩ ⟨Nat.zero_le _, Nat.zero_le _⟩ dL_did_10) (fun r2 I2 H locs h hM => ?_)
  refine lv_istore_n (lv' := [(2, .int r2), (1, .int r1), (0, .ref (gx_ad L p0))]) hx hb dL_did_13 rfl hl (by decide) rfl (fun ls hl => ?_)
  refine lv_aload_n hx hb dL_did_14 rfl (lv_at hl 2 rfl) ?_
  refine lv_iconst (v := (0 : Int32)) hx hb dL_did_15 (by decide) ?_
  refine lv_iconst (v := (3 : Int32)) hx hb dL_did_16 (by decide) ?_
  refine gq_backi C hM (gq_runV (As := [.int (0 : Int32), .int (3 : Int32)]) (rest := []) C hM (kX_lt hp0 (by decide)) (cX_7 hp0) rfl (c_X7_record l L p0 hp0 (0 : Int32) (3 : Int32) I2 _ h) k_X7_record gw_630 rfl hl.1 rfl (Nat.le_of_ble_eq_true rfl) ⟨⟨rfl, rfl⟩, Nat.le_of_ble_eq_true rfl, Nat.le_of_ble_eq_true rfl⟩ ⟨Nat.zero_le _, Nat.zero_le _⟩ dL_did_17) (fun r3 I3 H locs h hM => ?_)
  refine lv_istore_n (lv' := [(3, .int r3), (2, .int r2), (1, .int r1), (0, .ref (gx_ad L p0))]) hx hb dL_did_20 rfl hl (by decide) rfl (fun ls hl => ?_)
  refine lv_iload_n hx hb dL_did_21 rfl (lv_at hl 0 rfl) ?_
  refine lv_if_le (tgt := 113) hx hb dL_did_22 (by decide) (fun hc => ?_) (fun hc => ?_)
  · replace h := h.1 hc
    refine lv_iload_n hx hb dL_did_113 rfl (lv_at hl 2 rfl) ?_
    refine lv_if_ne (tgt := 148) hx hb dL_did_114 (by decide) (fun hc => ?_) (fun hc => ?_)
    · replace h := h.2 hc
      refine lv_iconst (v := (0 : Int32)) hx hb dL_did_148 (by decide) ?_
      refine lv_istore (lv' := [(4, .int (0 : Int32)), (3, .int r3), (2, .int r2), (1, .int r1), (0, .ref (gx_ad L p0))]) hx hb dL_did_149 hl (by decide) rfl (fun ls hl => ?_)
      obtain ⟨fv, h⟩ := h
      exact tl_L_did_151 C fv p0 r1 r2 (0 : Int32) (hp0) I3 _ _ _ hM (lv_sub hl [4, 3, 2, 0] rfl) h
    · replace h := h.1 hc
      refine lv_aload_n hx hb dL_did_117 rfl (lv_at hl 3 rfl) ?_
      refine lv_iconst (v := (0 : Int32)) hx hb dL_did_118 (by decide) ?_
      refine lv_iconst (v := (2 : Int32)) hx hb dL_did_119 (by decide) ?_
      refine gq_backi C hM (gq_runV (As := [.int (0 : Int32), .int (2 : Int32)]) (rest := []) C hM (kX_lt hp0 (by decide)) (cX_7 hp0) rfl (c_X7_record l L p0 hp0 (0 : Int32) (2 : Int32) I3 _ h) k_X7_record gw_630 rfl hl.1 rfl (Nat.le_of_ble_eq_true rfl) ⟨⟨rfl, rfl⟩, Nat.le_of_ble_eq_true rfl, Nat.le_of_ble_eq_true rfl⟩ ⟨Nat.zero_le _, Nat.zero_le _⟩ dL_did_120) (fun r4 I4 H locs h hM => ?_)
      refine lv_aload_n hx hb dL_did_123 rfl (lv_at hl 3 rfl) ?_
      refine lv_iload_n hx hb dL_did_124 rfl (lv_at hl 1 rfl) ?_
      refine lv_iconst (v := (0 : Int32)) hx hb dL_did_125 (by decide) ?_
      refine gq_backi C hM (gq_runV (As := [.int r2, .int (0 : Int32)]) (rest := [.int r4]) C hM (kX_lt hp0 (by decide)) (cX_7 hp0) rfl (c_X7_principal l L p0 hp0 r2 (0 : Int32) I4 _ h) k_X7_principal gw_619 rfl hl.1 rfl (Nat.le_of_ble_eq_true rfl) ⟨⟨rfl, rfl⟩, Nat.le_of_ble_eq_true rfl, Nat.le_of_ble_eq_true rfl⟩ ⟨Nat.zero_le _, Nat.zero_le _⟩ dL_did_126) (fun r5 I5 H locs h hM => ?_)
      refine lv_icmp_ne (tgt := 146) hx hb dL_did_129 (by decide) (fun hc => ?_) (fun hc => ?_)
      · replace h := h.2 hc
        refine lv_iconst (v := (0 : Int32)) hx hb dL_did_146 (by decide) ?_
        exact gq_zret C hM ⟨rfl, h⟩ (rfl) dL_did_147
      · replace h := h.1 hc
        refine lv_aload_n hx hb dL_did_132 rfl (lv_at hl 3 rfl) ?_
        refine lv_iload_n hx hb dL_did_133 rfl (lv_at hl 1 rfl) ?_
        refine lv_bipush (v := (10 : Int32)) hx hb dL_did_134 (by decide) ?_
        refine gq_backi C hM (gq_runV (As := [.int r2, .int (10 : Int32)]) (rest := []) C hM (kX_lt hp0 (by decide)) (cX_7 hp0) rfl (c_X7_rosette l L p0 hp0 r2 (10 : Int32) I5 _ h) k_X7_rosette gw_588 rfl hl.1 rfl (Nat.le_of_ble_eq_true rfl) ⟨⟨rfl, rfl⟩, Nat.le_of_ble_eq_true rfl, Nat.le_of_ble_eq_true rfl⟩ ⟨Nat.zero_le _, Nat.zero_le _⟩ dL_did_136) (fun r6 I6 H locs h hM => ?_)
        refine lv_if_ne (tgt := 146) hx hb dL_did_139 (by decide) (fun hc => ?_) (fun hc => ?_)
        · replace h := h.2 hc
          refine lv_iconst (v := (0 : Int32)) hx hb dL_did_146 (by decide) ?_
          exact gq_zret C hM ⟨rfl, h⟩ (rfl) dL_did_147
        · replace h := h.1 hc
          refine lv_iconst (v := (1 : Int32)) hx hb dL_did_142 (by decide) ?_
          refine lv_goto (tgt := 147) hx hb dL_did_143 (by decide) ?_
          exact gq_zret C hM ⟨rfl, h⟩ (rfl) dL_did_147
  · replace h := h.2 hc
    refine lv_aload_n hx hb dL_did_25 rfl (lv_at hl 3 rfl) ?_
    refine lv_iconst (v := (0 : Int32)) hx hb dL_did_26 (by decide) ?_
    refine lv_iconst (v := (2 : Int32)) hx hb dL_did_27 (by decide) ?_
    refine gq_backi C hM (gq_runV (As := [.int (0 : Int32), .int (2 : Int32)]) (rest := []) C hM (kX_lt hp0 (by decide)) (cX_7 hp0) rfl (c_X7_record l L p0 hp0 (0 : Int32) (2 : Int32) I3 _ h) k_X7_record gw_630 rfl hl.1 rfl (Nat.le_of_ble_eq_true rfl) ⟨⟨rfl, rfl⟩, Nat.le_of_ble_eq_true rfl, Nat.le_of_ble_eq_true rfl⟩ ⟨Nat.zero_le _, Nat.zero_le _⟩ dL_did_28) (fun r7 I7 H locs h hM => ?_)
    refine gq_ldc (v := (-1000004 : Int32)) C gw_659 dL_did_31 ?_
    refine lv_icmp_ne (tgt := 111) hx hb dL_did_33 (by decide) (fun hc => ?_) (fun hc => ?_)
    · replace h := h.2 hc
      refine lv_iconst (v := (0 : Int32)) hx hb dL_did_111 (by decide) ?_
      exact gq_zret C hM ⟨rfl, h⟩ (rfl) dL_did_112
    · replace h := h.1 hc
      refine lv_aload_n hx hb dL_did_36 rfl (lv_at hl 3 rfl) ?_
      refine lv_bipush (v := (9 : Int32)) hx hb dL_did_37 (by decide) ?_
      refine gq_backi C hM (gq_runV (As := [.int (9 : Int32)]) (rest := []) C hM (kX_lt hp0 (by decide)) (cX_7 hp0) rfl (c_X7_count l L p0 hp0 (9 : Int32) I7 _ h) k_X7_count gw_601 rfl hl.1 rfl (Nat.le_of_ble_eq_true rfl) ⟨⟨rfl, rfl⟩, Nat.le_of_ble_eq_true rfl, Nat.le_of_ble_eq_true rfl⟩ ⟨Nat.zero_le _, Nat.zero_le _⟩ dL_did_39) (fun r8 I8 H locs h hM => ?_)
      refine lv_iload_n hx hb dL_did_42 rfl (lv_at hl 0 rfl) ?_
      refine lv_icmp_ne (tgt := 111) hx hb dL_did_43 (by decide) (fun hc => ?_) (fun hc => ?_)
      · replace h := h.2 hc
        refine lv_iconst (v := (0 : Int32)) hx hb dL_did_111 (by decide) ?_
        exact gq_zret C hM ⟨rfl, h⟩ (rfl) dL_did_112
      · replace h := h.1 hc
        refine lv_iload_n hx hb dL_did_46 rfl (lv_at hl 2 rfl) ?_
        refine lv_if_ne (tgt := 68) hx hb dL_did_47 (by decide) (fun hc => ?_) (fun hc => ?_)
        · replace h := h.2 hc
          refine lv_iload_n hx hb dL_did_68 rfl (lv_at hl 2 rfl) ?_
          refine lv_iconst (v := (1 : Int32)) hx hb dL_did_69 (by decide) ?_
          refine lv_icmp_ne (tgt := 97) hx hb dL_did_70 (by decide) (fun hc => ?_) (fun hc => ?_)
          · replace h := h.2 hc
            refine lv_iload_n hx hb dL_did_97 rfl (lv_at hl 0 rfl) ?_
            refine lv_iconst (v := (2 : Int32)) hx hb dL_did_98 (by decide) ?_
            refine lv_icmp_eq (tgt := 107) hx hb dL_did_99 (by decide) (fun hc => ?_) (fun hc => ?_)
            · replace h := h.1 hc
              exact tj_L_did_107 C  I8 _ _ _ hM (lv_sub hl [] rfl) h
            · replace h := h.2 hc
              refine lv_iload_n hx hb dL_did_102 rfl (lv_at hl 0 rfl) ?_
              refine lv_iconst (v := (5 : Int32)) hx hb dL_did_103 (by decide) ?_
              refine lv_icmp_ne (tgt := 111) hx hb dL_did_104 (by decide) (fun hc => ?_) (fun hc => ?_)
              · replace h := h.2 hc
                refine lv_iconst (v := (0 : Int32)) hx hb dL_did_111 (by decide) ?_
                exact gq_zret C hM ⟨rfl, h⟩ (rfl) dL_did_112
              · replace h := h.1 hc
                exact tj_L_did_107 C  I8 _ _ _ hM (lv_sub hl [] rfl) h
          · replace h := h.1 hc
            refine lv_iload_n hx hb dL_did_73 rfl (lv_at hl 0 rfl) ?_
            refine lv_iconst (v := (3 : Int32)) hx hb dL_did_74 (by decide) ?_
            refine lv_icmp_eq (tgt := 107) hx hb dL_did_75 (by decide) (fun hc => ?_) (fun hc => ?_)
            · replace h := h.1 hc
              exact tj_L_did_107 C  I8 _ _ _ hM (lv_sub hl [] rfl) h
            · replace h := h.2 hc
              refine lv_iload_n hx hb dL_did_78 rfl (lv_at hl 0 rfl) ?_
              refine lv_iconst (v := (4 : Int32)) hx hb dL_did_79 (by decide) ?_
              refine lv_icmp_ne (tgt := 111) hx hb dL_did_80 (by decide) (fun hc => ?_) (fun hc => ?_)
              · replace h := h.2 hc
                refine lv_iconst (v := (0 : Int32)) hx hb dL_did_111 (by decide) ?_
                exact gq_zret C hM ⟨rfl, h⟩ (rfl) dL_did_112
              · replace h := h.1 hc
                refine lv_aload_n hx hb dL_did_83 rfl (lv_at hl 3 rfl) ?_
                refine lv_iload_n hx hb dL_did_84 rfl (lv_at hl 1 rfl) ?_
                refine lv_bipush (v := (8 : Int32)) hx hb dL_did_85 (by decide) ?_
                refine gq_backi C hM (gq_runV (As := [.int r2, .int (8 : Int32)]) (rest := []) C hM (kX_lt hp0 (by decide)) (cX_7 hp0) rfl (c_X7_rosette l L p0 hp0 r2 (8 : Int32) I8 _ h) k_X7_rosette gw_588 rfl hl.1 rfl (Nat.le_of_ble_eq_true rfl) ⟨⟨rfl, rfl⟩, Nat.le_of_ble_eq_true rfl, Nat.le_of_ble_eq_true rfl⟩ ⟨Nat.zero_le _, Nat.zero_le _⟩ dL_did_87) (fun r9 I9 H locs h hM => ?_)
                refine lv_iconst (v := (1 : Int32)) hx hb dL_did_90 (by decide) ?_
                refine lv_icmp_ne (tgt := 111) hx hb dL_did_91 (by decide) (fun hc => ?_) (fun hc => ?_)
                · replace h := h.2 hc
                  refine lv_iconst (v := (0 : Int32)) hx hb dL_did_111 (by decide) ?_
                  exact gq_zret C hM ⟨rfl, h⟩ (rfl) dL_did_112
                · replace h := h.1 hc
                  refine lv_goto (tgt := 107) hx hb dL_did_94 (by decide) ?_
                  exact tj_L_did_107 C  I9 _ _ _ hM (lv_sub hl [] rfl) h
        · replace h := h.1 hc
          refine lv_iload_n hx hb dL_did_50 rfl (lv_at hl 0 rfl) ?_
          refine lv_iconst (v := (2 : Int32)) hx hb dL_did_51 (by decide) ?_
          refine lv_icmp_ne (tgt := 111) hx hb dL_did_52 (by decide) (fun hc => ?_) (fun hc => ?_)
          · replace h := h.2 hc
            refine lv_iconst (v := (0 : Int32)) hx hb dL_did_111 (by decide) ?_
            exact gq_zret C hM ⟨rfl, h⟩ (rfl) dL_did_112
          · replace h := h.1 hc
            refine lv_aload_n hx hb dL_did_55 rfl (lv_at hl 3 rfl) ?_
            refine lv_iload_n hx hb dL_did_56 rfl (lv_at hl 1 rfl) ?_
            refine lv_bipush (v := (10 : Int32)) hx hb dL_did_57 (by decide) ?_
            refine gq_backi C hM (gq_runV (As := [.int r2, .int (10 : Int32)]) (rest := []) C hM (kX_lt hp0 (by decide)) (cX_7 hp0) rfl (c_X7_rosette l L p0 hp0 r2 (10 : Int32) I8 _ h) k_X7_rosette gw_588 rfl hl.1 rfl (Nat.le_of_ble_eq_true rfl) ⟨⟨rfl, rfl⟩, Nat.le_of_ble_eq_true rfl, Nat.le_of_ble_eq_true rfl⟩ ⟨Nat.zero_le _, Nat.zero_le _⟩ dL_did_59) (fun r10 I10 H locs h hM => ?_)
            refine lv_if_le (tgt := 111) hx hb dL_did_62 (by decide) (fun hc => ?_) (fun hc => ?_)
            · replace h := h.1 hc
              refine lv_iconst (v := (0 : Int32)) hx hb dL_did_111 (by decide) ?_
              exact gq_zret C hM ⟨rfl, h⟩ (rfl) dL_did_112
            · replace h := h.2 hc
              refine lv_goto (tgt := 107) hx hb dL_did_65 (by decide) ?_
              exact tj_L_did_107 C  I10 _ _ _ hM (lv_sub hl [] rfl) h
theorem k_L_did : gx_kS yL_did cL_did 5 (some .boolean) 1 := ⟨⟨gw_672, gw_21, by decide, by decide, by decide +kernel⟩, gw_671⟩
abbrev rm_L_digest : Room := { frames := 6, cells := 0, slots := 0, locals := 137 }
set_option maxHeartbeats 4000000 in
set_option maxRecDepth 100000 in
theorem tl_L_digest_76 (C : gx_C L 282 p s m args meth c RL cL_digest 5 (some .long)) {Q : Int64 → gx_M → Prop} {K33 : Nat → Int64 → Int32 → gx_M → Prop} (hK33 : ∀ (v0 : Nat) (v1 : Int64) (v3 : Int32) (hv0 : kX v0 = 7) (I : gx_M) (H : Heap) (locs : List Loc) (ls : Array Slot), gx_S L 282 (cellX L I) s.heap H locs → lv_has ls 5 [(0, .ref (gx_ad L v0)), (1, .long v1), (3, .int v3)] → K33 v0 v1 v3 I → W p l e rm_L_digest s m args below meth c H locs 0 0 (MQ below (va_Ql Q (fun I' t => gx_U L 282 (cellX L I') t) (gx_A L)) args s 0 0 (gx_A L)) (F0 m 33 ls [])) : ∀ (fu : Nat) (v0 : Nat) (v1 : Int64) (v3 : Int32) (v4 : Int32) (hv0 : kX v0 = 7) (I : gx_M) (H : Heap) (locs : List Loc) (ls : Array Slot), gx_S L 282 (cellX L I) s.heap H locs → lv_has ls 5 [(0, .ref (gx_ad L v0)), (1, .long v1), (3, .int v3), (4, .int v4)] → wl_L_digest_76 Q K33 fu v0 v1 v3 v4 I → W p l e rm_L_digest s m args below meth c H locs 0 0 (MQ below (va_Ql Q (fun I' t => gx_U L 282 (cellX L I') t) (gx_A L)) args s 0 0 (gx_A L)) (F0 m 76 ls []) := by
  have hx := C.1
  have hb := C.2.1
  intro fu
  induction fu with
  | zero => intros; rename_i h; exact False.elim h
  | succ fu ih =>
    intro v0 v1 v3 v4 hv0 I H locs ls hM hl h
    rw [wl_L_digest_76] at h
    refine lv_iload hx hb dL_digest_76 (lv_at hl 3 rfl) ?_
    refine lv_bipush (v := (24 : Int32)) hx hb dL_digest_78 (by decide) ?_
    refine lv_icmp_ge (tgt := 112) hx hb dL_digest_80 (by decide) (fun hc => ?_) (fun hc => ?_)
    · replace h := h.1 hc
      refine gq_ldc2 (v := (31 : Int64)) C gw_617 dL_digest_112 ?_
      refine lv_lload_n hx hb dL_digest_115 rfl (lv_at hl 1 rfl) ?_
      refine lv_lmul hx hb dL_digest_116 ?_
      refine gq_ldc2 (v := (7 : Int64)) C gw_618 dL_digest_117 ?_
      refine lv_aload_n hx hb dL_digest_120 rfl (lv_at hl 0 rfl) ?_
      refine lv_iload_n hx hb dL_digest_121 rfl (lv_at hl 2 rfl) ?_
      refine lv_iconst (v := (0 : Int32)) hx hb dL_digest_122 (by decide) ?_
      refine gq_backi C hM (gq_runV (As := [.int v3, .int (0 : Int32)]) (rest := [.long (7 : Int64), .long ((31 : Int64) * v1)]) C hM (kX_lt hv0 (by decide)) (cX_7 hv0) rfl (c_X7_principal l L v0 hv0 v3 (0 : Int32) I _ h) k_X7_principal gw_619 rfl hl.1 rfl (Nat.le_of_ble_eq_true rfl) ⟨⟨rfl, rfl⟩, Nat.le_of_ble_eq_true rfl, Nat.le_of_ble_eq_true rfl⟩ ⟨Nat.zero_le _, Nat.zero_le _⟩ dL_digest_123) (fun r1 I1 H locs h hM => ?_)
      refine lv_i2l hx hb dL_digest_126 rfl ?_
      refine lv_lmul hx hb dL_digest_127 ?_
      refine lv_ladd hx hb dL_digest_128 ?_
      refine lv_aload_n hx hb dL_digest_129 rfl (lv_at hl 0 rfl) ?_
      refine lv_iload_n hx hb dL_digest_130 rfl (lv_at hl 2 rfl) ?_
      refine lv_iconst (v := (2 : Int32)) hx hb dL_digest_131 (by decide) ?_
      refine gq_backi C hM (gq_runV (As := [.int v3, .int (2 : Int32)]) (rest := [.long (((31 : Int64) * v1) + ((7 : Int64) * (Int32.toInt64 r1)))]) C hM (kX_lt hv0 (by decide)) (cX_7 hv0) rfl (c_X7_principal l L v0 hv0 v3 (2 : Int32) I1 _ h) k_X7_principal gw_619 rfl hl.1 rfl (Nat.le_of_ble_eq_true rfl) ⟨⟨rfl, rfl⟩, Nat.le_of_ble_eq_true rfl, Nat.le_of_ble_eq_true rfl⟩ ⟨Nat.zero_le _, Nat.zero_le _⟩ dL_digest_132) (fun r2 I2 H locs h hM => ?_)
      refine lv_i2l hx hb dL_digest_135 rfl ?_
      refine lv_ladd hx hb dL_digest_136 ?_
      refine lv_topl (fun x1 ex1 => ?_)
      replace h := h x1 ex1
      refine lv_lstore_n (lv' := [(1, .long x1), (0, .ref (gx_ad L v0)), (3, .int v3), (4, .int v4)]) hx hb dL_digest_137 rfl hl (by decide) rfl (fun ls hl => ?_)
      obtain ⟨x2, ex2⟩ : ∃ z : Int32, z = v3 + (1 : Int32) := ⟨_, rfl⟩
      replace h := h x2 ex2
      refine lv_iinc (v := x2) (lv' := [(3, .int x2), (1, .long x1), (0, .ref (gx_ad L v0)), (4, .int v4)]) hx hb dL_digest_138 hl (k := 2) rfl (by rw [ex2]; rfl) (by decide) rfl (fun ls hl => ?_)
      refine lv_goto (tgt := 33) hx hb dL_digest_141 (by decide) ?_
      exact hK33 v0 x1 x2 (hv0) I2 _ _ _ hM (lv_sub hl [2, 1, 0] rfl) h
    · replace h := h.2 hc
      refine gq_ldc2 (v := (31 : Int64)) C gw_617 dL_digest_83 ?_
      refine lv_lload_n hx hb dL_digest_86 rfl (lv_at hl 1 rfl) ?_
      refine lv_lmul hx hb dL_digest_87 ?_
      refine lv_aload_n hx hb dL_digest_88 rfl (lv_at hl 0 rfl) ?_
      refine lv_iload_n hx hb dL_digest_89 rfl (lv_at hl 2 rfl) ?_
      refine lv_iload hx hb dL_digest_90 (lv_at hl 3 rfl) ?_
      refine lv_bipush (v := (8 : Int32)) hx hb dL_digest_92 (by decide) ?_
      refine lv_idiv hx hb dL_digest_94 (by decide) ?_
      refine lv_iload hx hb dL_digest_95 (lv_at hl 3 rfl) ?_
      refine lv_bipush (v := (8 : Int32)) hx hb dL_digest_97 (by decide) ?_
      refine lv_irem hx hb dL_digest_99 (by decide) ?_
      refine gq_backi C hM (gq_runV (As := [.int v3, .int (v4 / (8 : Int32)), .int (v4 - v4 / (8 : Int32) * (8 : Int32))]) (rest := [.long ((31 : Int64) * v1)]) C hM (kX_lt hv0 (by decide)) (cX_7 hv0) rfl (c_X7_gauge l L v0 hv0 v3 (v4 / (8 : Int32)) (v4 - v4 / (8 : Int32) * (8 : Int32)) I _ h) k_X7_gauge gw_592 rfl hl.1 rfl (Nat.le_of_ble_eq_true rfl) ⟨⟨rfl, rfl⟩, Nat.le_of_ble_eq_true rfl, Nat.le_of_ble_eq_true rfl⟩ ⟨Nat.zero_le _, Nat.zero_le _⟩ dL_digest_100) (fun r3 I3 H locs h hM => ?_)
      refine lv_i2l hx hb dL_digest_103 rfl ?_
      refine lv_ladd hx hb dL_digest_104 ?_
      refine lv_topl (fun x3 ex3 => ?_)
      replace h := h x3 ex3
      refine lv_lstore_n (lv' := [(1, .long x3), (0, .ref (gx_ad L v0)), (3, .int v3), (4, .int v4)]) hx hb dL_digest_105 rfl hl (by decide) rfl (fun ls hl => ?_)
      obtain ⟨x4, ex4⟩ : ∃ z : Int32, z = v4 + (1 : Int32) := ⟨_, rfl⟩
      replace h := h x4 ex4
      refine lv_iinc (v := x4) (lv' := [(4, .int x4), (1, .long x3), (0, .ref (gx_ad L v0)), (3, .int v3)]) hx hb dL_digest_106 hl (k := 3) rfl (by rw [ex4]; rfl) (by decide) rfl (fun ls hl => ?_)
      refine lv_goto (tgt := 76) hx hb dL_digest_109 (by decide) ?_
      exact ih v0 x3 v3 x4 (hv0) I3 _ _ _ hM (lv_sub hl [2, 1, 3, 0] rfl) h
set_option maxHeartbeats 4000000 in
set_option maxRecDepth 100000 in
theorem tl_L_digest_45 (C : gx_C L 282 p s m args meth c RL cL_digest 5 (some .long)) {Q : Int64 → gx_M → Prop} {K33 : Nat → Int64 → Int32 → gx_M → Prop} (hK33 : ∀ (v0 : Nat) (v1 : Int64) (v3 : Int32) (hv0 : kX v0 = 7) (I : gx_M) (H : Heap) (locs : List Loc) (ls : Array Slot), gx_S L 282 (cellX L I) s.heap H locs → lv_has ls 5 [(0, .ref (gx_ad L v0)), (1, .long v1), (3, .int v3)] → K33 v0 v1 v3 I → W p l e rm_L_digest s m args below meth c H locs 0 0 (MQ below (va_Ql Q (fun I' t => gx_U L 282 (cellX L I') t) (gx_A L)) args s 0 0 (gx_A L)) (F0 m 33 ls [])) : ∀ (fu : Nat) (v0 : Nat) (v1 : Int64) (v3 : Int32) (v4 : Int32) (hv0 : kX v0 = 7) (I : gx_M) (H : Heap) (locs : List Loc) (ls : Array Slot), gx_S L 282 (cellX L I) s.heap H locs → lv_has ls 5 [(0, .ref (gx_ad L v0)), (1, .long v1), (3, .int v3), (4, .int v4)] → wl_L_digest_45 Q K33 fu v0 v1 v3 v4 I → W p l e rm_L_digest s m args below meth c H locs 0 0 (MQ below (va_Ql Q (fun I' t => gx_U L 282 (cellX L I') t) (gx_A L)) args s 0 0 (gx_A L)) (F0 m 45 ls []) := by
  have hx := C.1
  have hb := C.2.1
  intro fu
  induction fu with
  | zero => intros; rename_i h; exact False.elim h
  | succ fu ih =>
    intro v0 v1 v3 v4 hv0 I H locs ls hM hl h
    rw [wl_L_digest_45] at h
    refine lv_iload hx hb dL_digest_45 (lv_at hl 3 rfl) ?_
    refine lv_bipush (v := (12 : Int32)) hx hb dL_digest_47 (by decide) ?_
    refine lv_icmp_ge (tgt := 73) hx hb dL_digest_49 (by decide) (fun hc => ?_) (fun hc => ?_)
    · replace h := h.1 hc
      refine lv_iconst (v := (0 : Int32)) hx hb dL_digest_73 (by decide) ?_
      refine lv_istore (lv' := [(4, .int (0 : Int32)), (0, .ref (gx_ad L v0)), (1, .long v1), (3, .int v3)]) hx hb dL_digest_74 hl (by decide) rfl (fun ls hl => ?_)
      obtain ⟨fv, h⟩ := h
      exact tl_L_digest_76 C hK33 fv v0 v1 v3 (0 : Int32) (hv0) I _ _ _ hM (lv_sub hl [1, 2, 3, 0] rfl) h
    · replace h := h.2 hc
      refine gq_ldc2 (v := (31 : Int64)) C gw_617 dL_digest_52 ?_
      refine lv_lload_n hx hb dL_digest_55 rfl (lv_at hl 1 rfl) ?_
      refine lv_lmul hx hb dL_digest_56 ?_
      refine lv_aload_n hx hb dL_digest_57 rfl (lv_at hl 0 rfl) ?_
      refine lv_iload_n hx hb dL_digest_58 rfl (lv_at hl 2 rfl) ?_
      refine lv_iload hx hb dL_digest_59 (lv_at hl 3 rfl) ?_
      refine gq_backi C hM (gq_runV (As := [.int v3, .int v4]) (rest := [.long ((31 : Int64) * v1)]) C hM (kX_lt hv0 (by decide)) (cX_7 hv0) rfl (c_X7_rosette l L v0 hv0 v3 v4 I _ h) k_X7_rosette gw_588 rfl hl.1 rfl (Nat.le_of_ble_eq_true rfl) ⟨⟨rfl, rfl⟩, Nat.le_of_ble_eq_true rfl, Nat.le_of_ble_eq_true rfl⟩ ⟨Nat.zero_le _, Nat.zero_le _⟩ dL_digest_61) (fun r1 I1 H locs h hM => ?_)
      refine lv_i2l hx hb dL_digest_64 rfl ?_
      refine lv_ladd hx hb dL_digest_65 ?_
      refine lv_topl (fun x1 ex1 => ?_)
      replace h := h x1 ex1
      refine lv_lstore_n (lv' := [(1, .long x1), (0, .ref (gx_ad L v0)), (3, .int v3), (4, .int v4)]) hx hb dL_digest_66 rfl hl (by decide) rfl (fun ls hl => ?_)
      obtain ⟨x2, ex2⟩ : ∃ z : Int32, z = v4 + (1 : Int32) := ⟨_, rfl⟩
      replace h := h x2 ex2
      refine lv_iinc (v := x2) (lv' := [(4, .int x2), (1, .long x1), (0, .ref (gx_ad L v0)), (3, .int v3)]) hx hb dL_digest_67 hl (k := 3) rfl (by rw [ex2]; rfl) (by decide) rfl (fun ls hl => ?_)
      refine lv_goto (tgt := 45) hx hb dL_digest_70 (by decide) ?_
      exact ih v0 x1 v3 x2 (hv0) I1 _ _ _ hM (lv_sub hl [2, 1, 3, 0] rfl) h
set_option maxHeartbeats 4000000 in
set_option maxRecDepth 100000 in
theorem tl_L_digest_213 (C : gx_C L 282 p s m args meth c RL cL_digest 5 (some .long)) {Q : Int64 → gx_M → Prop} : ∀ (fu : Nat) (v0 : Nat) (v1 : Int64) (v3 : Int32) (hv0 : kX v0 = 7) (I : gx_M) (H : Heap) (locs : List Loc) (ls : Array Slot), gx_S L 282 (cellX L I) s.heap H locs → lv_has ls 5 [(0, .ref (gx_ad L v0)), (1, .long v1), (3, .int v3)] → wl_L_digest_213 Q fu v0 v1 v3 I → W p l e rm_L_digest s m args below meth c H locs 0 0 (MQ below (va_Ql Q (fun I' t => gx_U L 282 (cellX L I') t) (gx_A L)) args s 0 0 (gx_A L)) (F0 m 213 ls []) := by
  have hx := C.1
  have hb := C.2.1
  intro fu
  induction fu with
  | zero => intros; rename_i h; exact False.elim h
  | succ fu ih =>
    intro v0 v1 v3 hv0 I H locs ls hM hl h
    rw [wl_L_digest_213] at h
    refine lv_iload_n hx hb dL_digest_213 rfl (lv_at hl 2 rfl) ?_
    refine lv_aload_n hx hb dL_digest_214 rfl (lv_at hl 0 rfl) ?_
    refine lv_bipush (v := (8 : Int32)) hx hb dL_digest_215 (by decide) ?_
    refine gq_backi C hM (gq_runV (As := [.int (8 : Int32)]) (rest := [.int v3]) C hM (kX_lt hv0 (by decide)) (cX_7 hv0) rfl (c_X7_count l L v0 hv0 (8 : Int32) I _ h) k_X7_count gw_601 rfl hl.1 rfl (Nat.le_of_ble_eq_true rfl) ⟨⟨rfl, rfl⟩, Nat.le_of_ble_eq_true rfl, Nat.le_of_ble_eq_true rfl⟩ ⟨Nat.zero_le _, Nat.zero_le _⟩ dL_digest_217) (fun r1 I1 H locs h hM => ?_)
    refine lv_icmp_ge (tgt := 279) hx hb dL_digest_220 (by decide) (fun hc => ?_) (fun hc => ?_)
    · replace h := h.1 hc
      refine lv_lload_n hx hb dL_digest_279 rfl (lv_at hl 1 rfl) ?_
      exact gq_lret C hM h dL_digest_280
    · replace h := h.2 hc
      refine gq_ldc2 (v := (31 : Int64)) C gw_617 dL_digest_223 ?_
      refine lv_lload_n hx hb dL_digest_226 rfl (lv_at hl 1 rfl) ?_
      refine lv_lmul hx hb dL_digest_227 ?_
      refine gq_ldc2 (v := (100 : Int64)) C gw_628 dL_digest_228 ?_
      refine lv_aload_n hx hb dL_digest_231 rfl (lv_at hl 0 rfl) ?_
      refine lv_iload_n hx hb dL_digest_232 rfl (lv_at hl 2 rfl) ?_
      refine lv_iconst (v := (0 : Int32)) hx hb dL_digest_233 (by decide) ?_
      refine gq_backi C hM (gq_runV (As := [.int v3, .int (0 : Int32)]) (rest := [.long (100 : Int64), .long ((31 : Int64) * v1)]) C hM (kX_lt hv0 (by decide)) (cX_7 hv0) rfl (c_X7_record l L v0 hv0 v3 (0 : Int32) I1 _ h) k_X7_record gw_630 rfl hl.1 rfl (Nat.le_of_ble_eq_true rfl) ⟨⟨rfl, rfl⟩, Nat.le_of_ble_eq_true rfl, Nat.le_of_ble_eq_true rfl⟩ ⟨Nat.zero_le _, Nat.zero_le _⟩ dL_digest_234) (fun r2 I2 H locs h hM => ?_)
      refine lv_i2l hx hb dL_digest_237 rfl ?_
      refine lv_lmul hx hb dL_digest_238 ?_
      refine lv_ladd hx hb dL_digest_239 ?_
      refine gq_ldc2 (v := (10 : Int64)) C gw_629 dL_digest_240 ?_
      refine lv_aload_n hx hb dL_digest_243 rfl (lv_at hl 0 rfl) ?_
      refine lv_iload_n hx hb dL_digest_244 rfl (lv_at hl 2 rfl) ?_
      refine lv_iconst (v := (1 : Int32)) hx hb dL_digest_245 (by decide) ?_
      refine gq_backi C hM (gq_runV (As := [.int v3, .int (1 : Int32)]) (rest := [.long (10 : Int64), .long (((31 : Int64) * v1) + ((100 : Int64) * (Int32.toInt64 r2)))]) C hM (kX_lt hv0 (by decide)) (cX_7 hv0) rfl (c_X7_record l L v0 hv0 v3 (1 : Int32) I2 _ h) k_X7_record gw_630 rfl hl.1 rfl (Nat.le_of_ble_eq_true rfl) ⟨⟨rfl, rfl⟩, Nat.le_of_ble_eq_true rfl, Nat.le_of_ble_eq_true rfl⟩ ⟨Nat.zero_le _, Nat.zero_le _⟩ dL_digest_246) (fun r3 I3 H locs h hM => ?_)
      refine lv_i2l hx hb dL_digest_249 rfl ?_
      refine lv_lmul hx hb dL_digest_250 ?_
      refine lv_ladd hx hb dL_digest_251 ?_
      refine gq_ldc2 (v := (3 : Int64)) C gw_634 dL_digest_252 ?_
      refine lv_aload_n hx hb dL_digest_255 rfl (lv_at hl 0 rfl) ?_
      refine lv_iload_n hx hb dL_digest_256 rfl (lv_at hl 2 rfl) ?_
      refine lv_iconst (v := (2 : Int32)) hx hb dL_digest_257 (by decide) ?_
      refine gq_backi C hM (gq_runV (As := [.int v3, .int (2 : Int32)]) (rest := [.long (3 : Int64), .long ((((31 : Int64) * v1) + ((100 : Int64) * (Int32.toInt64 r2))) + ((10 : Int64) * (Int32.toInt64 r3)))]) C hM (kX_lt hv0 (by decide)) (cX_7 hv0) rfl (c_X7_record l L v0 hv0 v3 (2 : Int32) I3 _ h) k_X7_record gw_630 rfl hl.1 rfl (Nat.le_of_ble_eq_true rfl) ⟨⟨rfl, rfl⟩, Nat.le_of_ble_eq_true rfl, Nat.le_of_ble_eq_true rfl⟩ ⟨Nat.zero_le _, Nat.zero_le _⟩ dL_digest_258) (fun r4 I4 H locs h hM => ?_)
      refine lv_i2l hx hb dL_digest_261 rfl ?_
      refine lv_lmul hx hb dL_digest_262 ?_
      refine lv_ladd hx hb dL_digest_263 ?_
      refine lv_aload_n hx hb dL_digest_264 rfl (lv_at hl 0 rfl) ?_
      refine lv_iload_n hx hb dL_digest_265 rfl (lv_at hl 2 rfl) ?_
      refine lv_iconst (v := (3 : Int32)) hx hb dL_digest_266 (by decide) ?_
      refine gq_backi C hM (gq_runV (As := [.int v3, .int (3 : Int32)]) (rest := [.long (((((31 : Int64) * v1) + ((100 : Int64) * (Int32.toInt64 r2))) + ((10 : Int64) * (Int32.toInt64 r3))) + ((3 : Int64) * (Int32.toInt64 r4)))]) C hM (kX_lt hv0 (by decide)) (cX_7 hv0) rfl (c_X7_record l L v0 hv0 v3 (3 : Int32) I4 _ h) k_X7_record gw_630 rfl hl.1 rfl (Nat.le_of_ble_eq_true rfl) ⟨⟨rfl, rfl⟩, Nat.le_of_ble_eq_true rfl, Nat.le_of_ble_eq_true rfl⟩ ⟨Nat.zero_le _, Nat.zero_le _⟩ dL_digest_267) (fun r5 I5 H locs h hM => ?_)
      refine lv_i2l hx hb dL_digest_270 rfl ?_
      refine lv_ladd hx hb dL_digest_271 ?_
      refine lv_topl (fun x1 ex1 => ?_)
      replace h := h x1 ex1
      refine lv_lstore_n (lv' := [(1, .long x1), (0, .ref (gx_ad L v0)), (3, .int v3)]) hx hb dL_digest_272 rfl hl (by decide) rfl (fun ls hl => ?_)
      obtain ⟨x2, ex2⟩ : ∃ z : Int32, z = v3 + (1 : Int32) := ⟨_, rfl⟩
      replace h := h x2 ex2
      refine lv_iinc (v := x2) (lv' := [(3, .int x2), (1, .long x1), (0, .ref (gx_ad L v0))]) hx hb dL_digest_273 hl (k := 2) rfl (by rw [ex2]; rfl) (by decide) rfl (fun ls hl => ?_)
      refine lv_goto (tgt := 213) hx hb dL_digest_276 (by decide) ?_
      exact ih v0 x1 x2 (hv0) I5 _ _ _ hM (lv_sub hl [2, 1, 0] rfl) h
set_option maxHeartbeats 4000000 in
set_option maxRecDepth 100000 in
theorem tl_L_digest_146 (C : gx_C L 282 p s m args meth c RL cL_digest 5 (some .long)) {Q : Int64 → gx_M → Prop} : ∀ (fu : Nat) (v0 : Nat) (v1 : Int64) (v3 : Int32) (hv0 : kX v0 = 7) (I : gx_M) (H : Heap) (locs : List Loc) (ls : Array Slot), gx_S L 282 (cellX L I) s.heap H locs → lv_has ls 5 [(0, .ref (gx_ad L v0)), (1, .long v1), (3, .int v3)] → wl_L_digest_146 Q fu v0 v1 v3 I → W p l e rm_L_digest s m args below meth c H locs 0 0 (MQ below (va_Ql Q (fun I' t => gx_U L 282 (cellX L I') t) (gx_A L)) args s 0 0 (gx_A L)) (F0 m 146 ls []) := by
  have hx := C.1
  have hb := C.2.1
  intro fu
  induction fu with
  | zero => intros; rename_i h; exact False.elim h
  | succ fu ih =>
    intro v0 v1 v3 hv0 I H locs ls hM hl h
    rw [wl_L_digest_146] at h
    refine lv_iload_n hx hb dL_digest_146 rfl (lv_at hl 2 rfl) ?_
    refine lv_aload_n hx hb dL_digest_147 rfl (lv_at hl 0 rfl) ?_
    refine lv_iconst (v := (1 : Int32)) hx hb dL_digest_148 (by decide) ?_
    refine gq_backi C hM (gq_runV (As := [.int (1 : Int32)]) (rest := [.int v3]) C hM (kX_lt hv0 (by decide)) (cX_7 hv0) rfl (c_X7_count l L v0 hv0 (1 : Int32) I _ h) k_X7_count gw_601 rfl hl.1 rfl (Nat.le_of_ble_eq_true rfl) ⟨⟨rfl, rfl⟩, Nat.le_of_ble_eq_true rfl, Nat.le_of_ble_eq_true rfl⟩ ⟨Nat.zero_le _, Nat.zero_le _⟩ dL_digest_149) (fun r1 I1 H locs h hM => ?_)
    refine lv_icmp_ge (tgt := 211) hx hb dL_digest_152 (by decide) (fun hc => ?_) (fun hc => ?_)
    · replace h := h.1 hc
      refine lv_iconst (v := (0 : Int32)) hx hb dL_digest_211 (by decide) ?_
      refine lv_istore_n (lv' := [(3, .int (0 : Int32)), (0, .ref (gx_ad L v0)), (1, .long v1)]) hx hb dL_digest_212 rfl hl (by decide) rfl (fun ls hl => ?_)
      obtain ⟨fv, h⟩ := h
      exact tl_L_digest_213 C fv v0 v1 (0 : Int32) (hv0) I1 _ _ _ hM (lv_sub hl [1, 2, 0] rfl) h
    · replace h := h.2 hc
      refine gq_ldc2 (v := (31 : Int64)) C gw_617 dL_digest_155 ?_
      refine lv_lload_n hx hb dL_digest_158 rfl (lv_at hl 1 rfl) ?_
      refine lv_lmul hx hb dL_digest_159 ?_
      refine gq_ldc2 (v := (1000 : Int64)) C gw_623 dL_digest_160 ?_
      refine lv_aload_n hx hb dL_digest_163 rfl (lv_at hl 0 rfl) ?_
      refine lv_iload_n hx hb dL_digest_164 rfl (lv_at hl 2 rfl) ?_
      refine lv_iconst (v := (0 : Int32)) hx hb dL_digest_165 (by decide) ?_
      refine gq_backi C hM (gq_runV (As := [.int v3, .int (0 : Int32)]) (rest := [.long (1000 : Int64), .long ((31 : Int64) * v1)]) C hM (kX_lt hv0 (by decide)) (cX_7 hv0) rfl (c_X7_job l L v0 hv0 v3 (0 : Int32) I1 _ h) k_X7_job gw_624 rfl hl.1 rfl (Nat.le_of_ble_eq_true rfl) ⟨⟨rfl, rfl⟩, Nat.le_of_ble_eq_true rfl, Nat.le_of_ble_eq_true rfl⟩ ⟨Nat.zero_le _, Nat.zero_le _⟩ dL_digest_166) (fun r2 I2 H locs h hM => ?_)
      refine lv_i2l hx hb dL_digest_169 rfl ?_
      refine lv_lmul hx hb dL_digest_170 ?_
      refine lv_ladd hx hb dL_digest_171 ?_
      refine gq_ldc2 (v := (100 : Int64)) C gw_628 dL_digest_172 ?_
      refine lv_aload_n hx hb dL_digest_175 rfl (lv_at hl 0 rfl) ?_
      refine lv_iload_n hx hb dL_digest_176 rfl (lv_at hl 2 rfl) ?_
      refine lv_iconst (v := (1 : Int32)) hx hb dL_digest_177 (by decide) ?_
      refine gq_backi C hM (gq_runV (As := [.int v3, .int (1 : Int32)]) (rest := [.long (100 : Int64), .long (((31 : Int64) * v1) + ((1000 : Int64) * (Int32.toInt64 r2)))]) C hM (kX_lt hv0 (by decide)) (cX_7 hv0) rfl (c_X7_job l L v0 hv0 v3 (1 : Int32) I2 _ h) k_X7_job gw_624 rfl hl.1 rfl (Nat.le_of_ble_eq_true rfl) ⟨⟨rfl, rfl⟩, Nat.le_of_ble_eq_true rfl, Nat.le_of_ble_eq_true rfl⟩ ⟨Nat.zero_le _, Nat.zero_le _⟩ dL_digest_178) (fun r3 I3 H locs h hM => ?_)
      refine lv_i2l hx hb dL_digest_181 rfl ?_
      refine lv_lmul hx hb dL_digest_182 ?_
      refine lv_ladd hx hb dL_digest_183 ?_
      refine gq_ldc2 (v := (10 : Int64)) C gw_629 dL_digest_184 ?_
      refine lv_aload_n hx hb dL_digest_187 rfl (lv_at hl 0 rfl) ?_
      refine lv_iload_n hx hb dL_digest_188 rfl (lv_at hl 2 rfl) ?_
      refine lv_iconst (v := (2 : Int32)) hx hb dL_digest_189 (by decide) ?_
      refine gq_backi C hM (gq_runV (As := [.int v3, .int (2 : Int32)]) (rest := [.long (10 : Int64), .long ((((31 : Int64) * v1) + ((1000 : Int64) * (Int32.toInt64 r2))) + ((100 : Int64) * (Int32.toInt64 r3)))]) C hM (kX_lt hv0 (by decide)) (cX_7 hv0) rfl (c_X7_job l L v0 hv0 v3 (2 : Int32) I3 _ h) k_X7_job gw_624 rfl hl.1 rfl (Nat.le_of_ble_eq_true rfl) ⟨⟨rfl, rfl⟩, Nat.le_of_ble_eq_true rfl, Nat.le_of_ble_eq_true rfl⟩ ⟨Nat.zero_le _, Nat.zero_le _⟩ dL_digest_190) (fun r4 I4 H locs h hM => ?_)
      refine lv_i2l hx hb dL_digest_193 rfl ?_
      refine lv_lmul hx hb dL_digest_194 ?_
      refine lv_ladd hx hb dL_digest_195 ?_
      refine lv_aload_n hx hb dL_digest_196 rfl (lv_at hl 0 rfl) ?_
      refine lv_iload_n hx hb dL_digest_197 rfl (lv_at hl 2 rfl) ?_
      refine lv_iconst (v := (3 : Int32)) hx hb dL_digest_198 (by decide) ?_
      refine gq_backi C hM (gq_runV (As := [.int v3, .int (3 : Int32)]) (rest := [.long (((((31 : Int64) * v1) + ((1000 : Int64) * (Int32.toInt64 r2))) + ((100 : Int64) * (Int32.toInt64 r3))) + ((10 : Int64) * (Int32.toInt64 r4)))]) C hM (kX_lt hv0 (by decide)) (cX_7 hv0) rfl (c_X7_job l L v0 hv0 v3 (3 : Int32) I4 _ h) k_X7_job gw_624 rfl hl.1 rfl (Nat.le_of_ble_eq_true rfl) ⟨⟨rfl, rfl⟩, Nat.le_of_ble_eq_true rfl, Nat.le_of_ble_eq_true rfl⟩ ⟨Nat.zero_le _, Nat.zero_le _⟩ dL_digest_199) (fun r5 I5 H locs h hM => ?_)
      refine lv_i2l hx hb dL_digest_202 rfl ?_
      refine lv_ladd hx hb dL_digest_203 ?_
      refine lv_topl (fun x1 ex1 => ?_)
      replace h := h x1 ex1
      refine lv_lstore_n (lv' := [(1, .long x1), (0, .ref (gx_ad L v0)), (3, .int v3)]) hx hb dL_digest_204 rfl hl (by decide) rfl (fun ls hl => ?_)
      obtain ⟨x2, ex2⟩ : ∃ z : Int32, z = v3 + (1 : Int32) := ⟨_, rfl⟩
      replace h := h x2 ex2
      refine lv_iinc (v := x2) (lv' := [(3, .int x2), (1, .long x1), (0, .ref (gx_ad L v0))]) hx hb dL_digest_205 hl (k := 2) rfl (by rw [ex2]; rfl) (by decide) rfl (fun ls hl => ?_)
      refine lv_goto (tgt := 146) hx hb dL_digest_208 (by decide) ?_
      exact ih v0 x1 x2 (hv0) I5 _ _ _ hM (lv_sub hl [2, 1, 0] rfl) h
set_option maxHeartbeats 4000000 in
set_option maxRecDepth 100000 in
theorem tl_L_digest_33 (C : gx_C L 282 p s m args meth c RL cL_digest 5 (some .long)) {Q : Int64 → gx_M → Prop} : ∀ (fu : Nat) (v0 : Nat) (v1 : Int64) (v3 : Int32) (hv0 : kX v0 = 7) (I : gx_M) (H : Heap) (locs : List Loc) (ls : Array Slot), gx_S L 282 (cellX L I) s.heap H locs → lv_has ls 5 [(0, .ref (gx_ad L v0)), (1, .long v1), (3, .int v3)] → wl_L_digest_33 Q fu v0 v1 v3 I → W p l e rm_L_digest s m args below meth c H locs 0 0 (MQ below (va_Ql Q (fun I' t => gx_U L 282 (cellX L I') t) (gx_A L)) args s 0 0 (gx_A L)) (F0 m 33 ls []) := by
  have hx := C.1
  have hb := C.2.1
  intro fu
  induction fu with
  | zero => intros; rename_i h; exact False.elim h
  | succ fu ih =>
    intro v0 v1 v3 hv0 I H locs ls hM hl h
    rw [wl_L_digest_33] at h
    refine lv_iload_n hx hb dL_digest_33 rfl (lv_at hl 2 rfl) ?_
    refine lv_aload_n hx hb dL_digest_34 rfl (lv_at hl 0 rfl) ?_
    refine lv_iconst (v := (0 : Int32)) hx hb dL_digest_35 (by decide) ?_
    refine gq_backi C hM (gq_runV (As := [.int (0 : Int32)]) (rest := [.int v3]) C hM (kX_lt hv0 (by decide)) (cX_7 hv0) rfl (c_X7_count l L v0 hv0 (0 : Int32) I _ h) k_X7_count gw_601 rfl hl.1 rfl (Nat.le_of_ble_eq_true rfl) ⟨⟨rfl, rfl⟩, Nat.le_of_ble_eq_true rfl, Nat.le_of_ble_eq_true rfl⟩ ⟨Nat.zero_le _, Nat.zero_le _⟩ dL_digest_36) (fun r1 I1 H locs h hM => ?_)
    refine lv_icmp_ge (tgt := 144) hx hb dL_digest_39 (by decide) (fun hc => ?_) (fun hc => ?_)
    · replace h := h.1 hc
      refine lv_iconst (v := (0 : Int32)) hx hb dL_digest_144 (by decide) ?_
      refine lv_istore_n (lv' := [(3, .int (0 : Int32)), (0, .ref (gx_ad L v0)), (1, .long v1)]) hx hb dL_digest_145 rfl hl (by decide) rfl (fun ls hl => ?_)
      obtain ⟨fv, h⟩ := h
      exact tl_L_digest_146 C fv v0 v1 (0 : Int32) (hv0) I1 _ _ _ hM (lv_sub hl [1, 2, 0] rfl) h
    · replace h := h.2 hc
      refine lv_iconst (v := (0 : Int32)) hx hb dL_digest_42 (by decide) ?_
      refine lv_istore (lv' := [(4, .int (0 : Int32)), (0, .ref (gx_ad L v0)), (1, .long v1), (3, .int v3)]) hx hb dL_digest_43 hl (by decide) rfl (fun ls hl => ?_)
      obtain ⟨fv, h⟩ := h
      exact tl_L_digest_45 C ih fv v0 v1 v3 (0 : Int32) (hv0) I1 _ _ _ hM (lv_sub hl [1, 2, 3, 0] rfl) h
set_option maxHeartbeats 4000000 in
set_option maxRecDepth 100000 in
theorem tl_L_digest_6 (C : gx_C L 282 p s m args meth c RL cL_digest 5 (some .long)) {Q : Int64 → gx_M → Prop} : ∀ (fu : Nat) (v0 : Nat) (v1 : Int64) (v3 : Int32) (hv0 : kX v0 = 7) (I : gx_M) (H : Heap) (locs : List Loc) (ls : Array Slot), gx_S L 282 (cellX L I) s.heap H locs → lv_has ls 5 [(0, .ref (gx_ad L v0)), (1, .long v1), (3, .int v3)] → wl_L_digest_6 Q fu v0 v1 v3 I → W p l e rm_L_digest s m args below meth c H locs 0 0 (MQ below (va_Ql Q (fun I' t => gx_U L 282 (cellX L I') t) (gx_A L)) args s 0 0 (gx_A L)) (F0 m 6 ls []) := by
  have hx := C.1
  have hb := C.2.1
  intro fu
  induction fu with
  | zero => intros; rename_i h; exact False.elim h
  | succ fu ih =>
    intro v0 v1 v3 hv0 I H locs ls hM hl h
    rw [wl_L_digest_6] at h
    refine lv_iload_n hx hb dL_digest_6 rfl (lv_at hl 2 rfl) ?_
    refine lv_bipush (v := (9 : Int32)) hx hb dL_digest_7 (by decide) ?_
    refine lv_icmp_ge (tgt := 31) hx hb dL_digest_9 (by decide) (fun hc => ?_) (fun hc => ?_)
    · replace h := h.1 hc
      refine lv_iconst (v := (0 : Int32)) hx hb dL_digest_31 (by decide) ?_
      refine lv_istore_n (lv' := [(3, .int (0 : Int32)), (0, .ref (gx_ad L v0)), (1, .long v1)]) hx hb dL_digest_32 rfl hl (by decide) rfl (fun ls hl => ?_)
      obtain ⟨fv, h⟩ := h
      exact tl_L_digest_33 C fv v0 v1 (0 : Int32) (hv0) I _ _ _ hM (lv_sub hl [1, 2, 0] rfl) h
    · replace h := h.2 hc
      refine gq_ldc2 (v := (31 : Int64)) C gw_617 dL_digest_12 ?_
      refine lv_lload_n hx hb dL_digest_15 rfl (lv_at hl 1 rfl) ?_
      refine lv_lmul hx hb dL_digest_16 ?_
      refine lv_aload_n hx hb dL_digest_17 rfl (lv_at hl 0 rfl) ?_
      refine lv_iload_n hx hb dL_digest_18 rfl (lv_at hl 2 rfl) ?_
      refine gq_backi C hM (gq_runV (As := [.int v3]) (rest := [.long ((31 : Int64) * v1)]) C hM (kX_lt hv0 (by decide)) (cX_7 hv0) rfl (c_X7_count l L v0 hv0 v3 I _ h) k_X7_count gw_601 rfl hl.1 rfl (Nat.le_of_ble_eq_true rfl) ⟨⟨rfl, rfl⟩, Nat.le_of_ble_eq_true rfl, Nat.le_of_ble_eq_true rfl⟩ ⟨Nat.zero_le _, Nat.zero_le _⟩ dL_digest_19) (fun r1 I1 H locs h hM => ?_)
      refine lv_i2l hx hb dL_digest_22 rfl ?_
      refine lv_ladd hx hb dL_digest_23 ?_
      refine lv_topl (fun x1 ex1 => ?_)
      replace h := h x1 ex1
      refine lv_lstore_n (lv' := [(1, .long x1), (0, .ref (gx_ad L v0)), (3, .int v3)]) hx hb dL_digest_24 rfl hl (by decide) rfl (fun ls hl => ?_)
      obtain ⟨x2, ex2⟩ : ∃ z : Int32, z = v3 + (1 : Int32) := ⟨_, rfl⟩
      replace h := h x2 ex2
      refine lv_iinc (v := x2) (lv' := [(3, .int x2), (1, .long x1), (0, .ref (gx_ad L v0))]) hx hb dL_digest_25 hl (k := 2) rfl (by rw [ex2]; rfl) (by decide) rfl (fun ls hl => ?_)
      refine lv_goto (tgt := 6) hx hb dL_digest_28 (by decide) ?_
      exact ih v0 x1 x2 (hv0) I1 _ _ _ hM (lv_sub hl [2, 1, 0] rfl) h
set_option maxHeartbeats 4000000 in
set_option maxRecDepth 100000 in
theorem c_L_digest (l : Launch) (L : gx_L) (p0 : Nat) (hp0 : kX p0 = 7) (I : gx_M) (Q : Int64 → gx_M → Prop) (h : wp_L_digest p0 I Q) : Met l yL_digest (gx_w yL_digest cL_digest 5 (some .long)) rm_L_digest (va_Pc [.ref (gx_ad L p0)] (gx_U L 282 (cellX L I))) (va_Ql Q (fun I' t => gx_U L 282 (cellX L I') t) (gx_A L)) 0 0 (gx_A L) := by
  refine gq_enter (by decide) (Nat.le_of_ble_eq_true rfl) (fun p e s m below meth c ls C hM hl => ?_)
  have C : gx_C L 282 p s m _ meth c RL cL_digest 5 (some .long) := C
  have hl : lv_has ls 5 [(0, .ref (gx_ad L p0))] := hl
  have hx := C.1
  have hb := C.2.1
  unfold wp_L_digest at h
  refine gq_ldc2 (v := (53 : Int64)) C gw_616 dL_digest_0 ?_
  refine lv_lstore_n (lv' := [(1, .long (53 : Int64)), (0, .ref (gx_ad L p0))]) hx hb dL_digest_3 rfl hl (by decide) rfl (fun ls hl => ?_)
  refine lv_iconst (v := (0 : Int32)) hx hb dL_digest_4 (by decide) ?_
  refine lv_istore_n (lv' := [(3, .int (0 : Int32)), (1, .long (53 : Int64)), (0, .ref (gx_ad L p0))]) hx hb dL_digest_5 rfl hl (by decide) rfl (fun ls hl => ?_)
  obtain ⟨fv, h⟩ := h
  exact tl_L_digest_6 C fv p0 (53 : Int64) (0 : Int32) (hp0) I _ _ _ hM (lv_sub hl [2, 1, 0] rfl) h
theorem k_L_digest : gx_kS yL_digest cL_digest 5 (some .long) 1 := ⟨⟨gw_615, gw_21, by decide, by decide, by decide +kernel⟩, gw_614⟩
abbrev rm_L_size : Room := { frames := 0, cells := 0, slots := 0, locals := 0 }
set_option maxHeartbeats 4000000 in
set_option maxRecDepth 100000 in
theorem c_L_size (l : Launch) (L : gx_L) (p0 : Int32) (I : gx_M) (Q : Int32 → gx_M → Prop) (h : wp_L_size p0 I Q) : Met l yL_size (gx_w yL_size cL_size 1 (some .int)) rm_L_size (va_Pc [.int p0] (gx_U L 282 (cellX L I))) (va_Qi Q (fun I' t => gx_U L 282 (cellX L I') t) (gx_A L)) 0 0 (gx_A L) := by
  refine gq_enter (by decide) (Nat.le_of_ble_eq_true rfl) (fun p e s m below meth c ls C hM hl => ?_)
  have C : gx_C L 282 p s m _ meth c RL cL_size 1 (some .int) := C
  have hl : lv_has ls 1 [(0, .int p0)] := hl
  have hx := C.1
  have hb := C.2.1
  unfold wp_L_size at h
  refine lv_iload_n hx hb dL_size_0 rfl (lv_at hl 0 rfl) ?_
  refine lv_if_ge (tgt := 9) hx hb dL_size_1 (by decide) (fun hc => ?_) (fun hc => ?_)
  · replace h := h.1 hc
    refine lv_iload_n hx hb dL_size_9 rfl (lv_at hl 0 rfl) ?_
    exact gq_iret C hM h dL_size_10
  · replace h := h.2 hc
    refine lv_iload_n hx hb dL_size_4 rfl (lv_at hl 0 rfl) ?_
    refine lv_ineg hx hb dL_size_5 ?_
    refine lv_goto (tgt := 10) hx hb dL_size_6 (by decide) ?_
    exact gq_iret C hM h dL_size_10
theorem k_L_size : gx_kS yL_size cL_size 1 (some .int) 1 := ⟨⟨gw_654, gw_21, by decide, by decide, by decide +kernel⟩, gw_653⟩
end
