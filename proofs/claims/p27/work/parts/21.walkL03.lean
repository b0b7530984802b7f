section
variable {p : Program} {l : Launch} {e : Env} {s : State} {m : MethodId} {args : Array Value} {below : List Frame} {meth : Method} {c : Code} {L : gx_L}
abbrev rm_L_sets : Room := { frames := 6, cells := 0, slots := 0, locals := 135 }
set_option maxHeartbeats 4000000 in
set_option maxRecDepth 100000 in
theorem tj_L_sets_92 (C : gx_C L 282 p s m args meth c RL cL_sets 9 (some .boolean)) {Q : Int32 → gx_M → Prop} : ∀ (v0 : Nat) (v4 : Int32) (v5 : Int32) (v6 : Int32) (v7 : Int32) (hv0 : kX v0 = 7) (I : gx_M) (H : Heap) (locs : List Loc) (ls : Array Slot), gx_S L 282 (cellX L I) s.heap H locs → lv_has ls 9 [(0, .ref (gx_ad L v0)), (4, .int v4), (5, .int v5), (6, .int v6), (7, .int v7)] → wj_L_sets_92 Q v0 v4 v5 v6 v7 I → W p l e rm_L_sets s m args below meth c H locs 0 0 (MQ below (va_Qi (fun r I' => r &&& 1 = r ∧ Q r I') (fun I' t => gx_U L 282 (cellX L I') t) (gx_A L)) args s 0 0 (gx_A L)) (F0 m 92 ls []) := by
  have hx := C.1
  have hb := C.2.1
  intro v0 v4 v5 v6 v7 hv0 I H locs ls hM hl h
  unfold wj_L_sets_92 at h
  refine lv_aload_n hx hb dL_sets_92 rfl (lv_at hl 0 rfl) ?_
  refine lv_iload hx hb dL_sets_93 (lv_at hl 1 rfl) ?_
  refine lv_iconst (v := (5 : Int32)) hx hb dL_sets_95 (by decide) ?_
  refine gq_backi C hM (gq_runV (As := [.int v4, .int (5 : Int32)]) (rest := []) C hM (kX_lt hv0 (by decide)) (cX_7 hv0) rfl (c_X7_rosette l L v0 hv0 v4 (5 : Int32) I _ h) k_X7_rosette gw_588 rfl hl.1 rfl (Nat.le_of_ble_eq_true rfl) ⟨⟨rfl, rfl⟩, Nat.le_of_ble_eq_true rfl, Nat.le_of_ble_eq_true rfl⟩ ⟨Nat.zero_le _, Nat.zero_le _⟩ dL_sets_96) (fun r1 I1 H locs h hM => ?_)
  refine lv_iload hx hb dL_sets_99 (lv_at hl 2 rfl) ?_
  refine lv_icmp_ne (tgt := 150) hx hb dL_sets_101 (by decide) (fun hc => ?_) (fun hc => ?_)
  · replace h := h.2 hc
    refine lv_iconst (v := (0 : Int32)) hx hb dL_sets_150 (by decide) ?_
    exact gq_zret C hM ⟨rfl, h⟩ (rfl) dL_sets_151
  · replace h := h.1 hc
    refine lv_aload_n hx hb dL_sets_104 rfl (lv_at hl 0 rfl) ?_
    refine lv_iload hx hb dL_sets_105 (lv_at hl 1 rfl) ?_
    refine lv_bipush (v := (6 : Int32)) hx hb dL_sets_107 (by decide) ?_
    refine gq_backi C hM (gq_runV (As := [.int v4, .int (6 : Int32)]) (rest := []) C hM (kX_lt hv0 (by decide)) (cX_7 hv0) rfl (c_X7_rosette l L v0 hv0 v4 (6 : Int32) I1 _ h) k_X7_rosette gw_588 rfl hl.1 rfl (Nat.le_of_ble_eq_true rfl) ⟨⟨rfl, rfl⟩, Nat.le_of_ble_eq_true rfl, Nat.le_of_ble_eq_true rfl⟩ ⟨Nat.zero_le _, Nat.zero_le _⟩ dL_sets_109) (fun r2 I2 H locs h hM => ?_)
    refine lv_iload hx hb dL_sets_112 (lv_at hl 3 rfl) ?_
    refine lv_icmp_ne (tgt := 150) hx hb dL_sets_114 (by decide) (fun hc => ?_) (fun hc => ?_)
    · replace h := h.2 hc
      refine lv_iconst (v := (0 : Int32)) hx hb dL_sets_150 (by decide) ?_
      exact gq_zret C hM ⟨rfl, h⟩ (rfl) dL_sets_151
    · replace h := h.1 hc
      refine lv_aload_n hx hb dL_sets_117 rfl (lv_at hl 0 rfl) ?_
      refine lv_iload hx hb dL_sets_118 (lv_at hl 1 rfl) ?_
      refine lv_bipush (v := (7 : Int32)) hx hb dL_sets_120 (by decide) ?_
      refine gq_backi C hM (gq_runV (As := [.int v4, .int (7 : Int32)]) (rest := []) C hM (kX_lt hv0 (by decide)) (cX_7 hv0) rfl (c_X7_rosette l L v0 hv0 v4 (7 : Int32) I2 _ h) k_X7_rosette gw_588 rfl hl.1 rfl (Nat.le_of_ble_eq_true rfl) ⟨⟨rfl, rfl⟩, Nat.le_of_ble_eq_true rfl, Nat.le_of_ble_eq_true rfl⟩ ⟨Nat.zero_le _, Nat.zero_le _⟩ dL_sets_122) (fun r3 I3 H locs h hM => ?_)
      refine lv_iload hx hb dL_sets_125 (lv_at hl 4 rfl) ?_
      refine lv_icmp_ne (tgt := 150) hx hb dL_sets_127 (by decide) (fun hc => ?_) (fun hc => ?_)
      · replace h := h.2 hc
        refine lv_iconst (v := (0 : Int32)) hx hb dL_sets_150 (by decide) ?_
        exact gq_zret C hM ⟨rfl, h⟩ (rfl) dL_sets_151
      · replace h := h.1 hc
        refine lv_aload_n hx hb dL_sets_130 rfl (lv_at hl 0 rfl) ?_
        refine lv_iload hx hb dL_sets_131 (lv_at hl 1 rfl) ?_
        refine lv_sipush (v := (5001 : Int32)) hx hb dL_sets_133 (by decide) ?_
        refine lv_iconst (v := (0 : Int32)) hx hb dL_sets_136 (by decide) ?_
        refine lv_iconst (v := (0 : Int32)) hx hb dL_sets_137 (by decide) ?_
        refine gq_backi C hM (gq_runV (As := [.int v4, .int (5001 : Int32), .int (0 : Int32), .int (0 : Int32)]) (rest := []) C hM (kX_lt hv0 (by decide)) (cX_7 hv0) rfl (c_X7_setStrain l L v0 hv0 v4 (5001 : Int32) (0 : Int32) (0 : Int32) I3 _ h) k_X7_setStrain gw_676 rfl hl.1 rfl (Nat.le_of_ble_eq_true rfl) ⟨⟨rfl, rfl⟩, Nat.le_of_ble_eq_true rfl, Nat.le_of_ble_eq_true rfl⟩ ⟨Nat.zero_le _, Nat.zero_le _⟩ dL_sets_138) (fun r4 I4 H locs h hM => ?_)
        refine gq_ldc (v := (-1000002 : Int32)) C gw_647 dL_sets_141 ?_
        refine lv_icmp_ne (tgt := 150) hx hb dL_sets_143 (by decide) (fun hc => ?_) (fun hc => ?_)
        · replace h := h.2 hc
          refine lv_iconst (v := (0 : Int32)) hx hb dL_sets_150 (by decide) ?_
          exact gq_zret C hM ⟨rfl, h⟩ (rfl) dL_sets_151
        · replace h := h.1 hc
          refine lv_iconst (v := (1 : Int32)) hx hb dL_sets_146 (by decide) ?_
          refine lv_goto (tgt := 151) hx hb dL_sets_147 (by decide) ?_
          exact gq_zret C hM ⟨rfl, h⟩ (rfl) dL_sets_151
set_option maxHeartbeats 4000000 in
set_option maxRecDepth 100000 in
theorem tj_L_sets_209 (C : gx_C L 282 p s m args meth c RL cL_sets 9 (some .boolean)) {Q : Int32 → gx_M → Prop} : ∀ (v0 : Nat) (v4 : Int32) (v6 : Int32) (u0 : Int32) (u1 : Int32) (hv0 : kX v0 = 7) (I : gx_M) (H : Heap) (locs : List Loc) (ls : Array Slot), gx_S L 282 (cellX L I) s.heap H locs → lv_has ls 9 [(0, .ref (gx_ad L v0)), (4, .int v4), (6, .int v6)] → wj_L_sets_209 Q v0 v4 v6 u0 u1 I → W p l e rm_L_sets s m args below meth c H locs 0 0 (MQ below (va_Qi (fun r I' => r &&& 1 = r ∧ Q r I') (fun I' t => gx_U L 282 (cellX L I') t) (gx_A L)) args s 0 0 (gx_A L)) (F0 m 209 ls [.int u0, .int u1]) := by
  have hx := C.1
  have hb := C.2.1
  intro v0 v4 v6 u0 u1 hv0 I H locs ls hM hl h
  unfold wj_L_sets_209 at h
  refine lv_icmp_ne (tgt := 240) hx hb dL_sets_209 (by decide) (fun hc => ?_) (fun hc => ?_)
  · replace h := h.2 hc
    refine lv_iconst (v := (0 : Int32)) hx hb dL_sets_240 (by decide) ?_
    exact gq_zret C hM ⟨rfl, h⟩ (rfl) dL_sets_241
  · replace h := h.1 hc
    refine lv_aload_n hx hb dL_sets_212 rfl (lv_at hl 0 rfl) ?_
    refine lv_iload hx hb dL_sets_213 (lv_at hl 1 rfl) ?_
    refine lv_iconst (v := (4 : Int32)) hx hb dL_sets_215 (by decide) ?_
    refine gq_backi C hM (gq_runV (As := [.int v4, .int (4 : Int32)]) (rest := []) C hM (kX_lt hv0 (by decide)) (cX_7 hv0) rfl (c_X7_rosette l L v0 hv0 v4 (4 : Int32) I _ h) k_X7_rosette gw_588 rfl hl.1 rfl (Nat.le_of_ble_eq_true rfl) ⟨⟨rfl, rfl⟩, Nat.le_of_ble_eq_true rfl, Nat.le_of_ble_eq_true rfl⟩ ⟨Nat.zero_le _, Nat.zero_le _⟩ dL_sets_216) (fun r1 I1 H locs h hM => ?_)
    refine lv_iload hx hb dL_sets_219 (lv_at hl 2 rfl) ?_
    refine lv_icmp_ne (tgt := 240) hx hb dL_sets_221 (by decide) (fun hc => ?_) (fun hc => ?_)
    · replace h := h.2 hc
      refine lv_iconst (v := (0 : Int32)) hx hb dL_sets_240 (by decide) ?_
      exact gq_zret C hM ⟨rfl, h⟩ (rfl) dL_sets_241
    · replace h := h.1 hc
      refine lv_aload_n hx hb dL_sets_224 rfl (lv_at hl 0 rfl) ?_
      refine lv_iload hx hb dL_sets_225 (lv_at hl 1 rfl) ?_
      refine lv_iconst (v := (-1 : Int32)) hx hb dL_sets_227 (by decide) ?_
      refine gq_backi C hM (gq_runV (As := [.int v4, .int (-1 : Int32)]) (rest := []) C hM (kX_lt hv0 (by decide)) (cX_7 hv0) rfl (c_X7_setLeads l L v0 hv0 v4 (-1 : Int32) I1 _ h) k_X7_setLeads gw_689 rfl hl.1 rfl (Nat.le_of_ble_eq_true rfl) ⟨⟨rfl, rfl⟩, Nat.le_of_ble_eq_true rfl, Nat.le_of_ble_eq_true rfl⟩ ⟨Nat.zero_le _, Nat.zero_le _⟩ dL_sets_228) (fun r2 I2 H locs h hM => ?_)
      refine gq_ldc (v := (-1000002 : Int32)) C gw_647 dL_sets_231 ?_
      refine lv_icmp_ne (tgt := 240) hx hb dL_sets_233 (by decide) (fun hc => ?_) (fun hc => ?_)
      · replace h := h.2 hc
        refine lv_iconst (v := (0 : Int32)) hx hb dL_sets_240 (by decide) ?_
        exact gq_zret C hM ⟨rfl, h⟩ (rfl) dL_sets_241
      · replace h := h.1 hc
        refine lv_iconst (v := (1 : Int32)) hx hb dL_sets_236 (by decide) ?_
        refine lv_goto (tgt := 241) hx hb dL_sets_237 (by decide) ?_
        exact gq_zret C hM ⟨rfl, h⟩ (rfl) dL_sets_241
set_option maxHeartbeats 4000000 in
set_option maxRecDepth 100000 in
theorem tj_L_sets_185 (C : gx_C L 282 p s m args meth c RL cL_sets 9 (some .boolean)) {Q : Int32 → gx_M → Prop} : ∀ (v0 : Nat) (v4 : Int32) (v5 : Int32) (u0 : Int32) (hv0 : kX v0 = 7) (I : gx_M) (H : Heap) (locs : List Loc) (ls : Array Slot), gx_S L 282 (cellX L I) s.heap H locs → lv_has ls 9 [(0, .ref (gx_ad L v0)), (4, .int v4), (5, .int v5)] → wj_L_sets_185 Q v0 v4 v5 u0 I → W p l e rm_L_sets s m args below meth c H locs 0 0 (MQ below (va_Qi (fun r I' => r &&& 1 = r ∧ Q r I') (fun I' t => gx_U L 282 (cellX L I') t) (gx_A L)) args s 0 0 (gx_A L)) (F0 m 185 ls [.int u0]) := by
  have hx := C.1
  have hb := C.2.1
  intro v0 v4 v5 u0 hv0 I H locs ls hM hl h
  unfold wj_L_sets_185 at h
  refine lv_istore (lv' := [(6, .int u0), (0, .ref (gx_ad L v0)), (4, .int v4), (5, .int v5)]) hx hb dL_sets_185 hl (by decide) rfl (fun ls hl => ?_)
  refine lv_aload_n hx hb dL_sets_187 rfl (lv_at hl 1 rfl) ?_
  refine lv_iload hx hb dL_sets_188 (lv_at hl 2 rfl) ?_
  refine lv_iload hx hb dL_sets_190 (lv_at hl 0 rfl) ?_
  refine gq_backi C hM (gq_runV (As := [.int v4, .int u0]) (rest := []) C hM (kX_lt hv0 (by decide)) (cX_7 hv0) rfl (c_X7_setLeads l L v0 hv0 v4 u0 I _ h) k_X7_setLeads gw_689 rfl hl.1 rfl (Nat.le_of_ble_eq_true rfl) ⟨⟨rfl, rfl⟩, Nat.le_of_ble_eq_true rfl, Nat.le_of_ble_eq_true rfl⟩ ⟨Nat.zero_le _, Nat.zero_le _⟩ dL_sets_192) (fun r1 I1 H locs h hM => ?_)
  refine lv_iload hx hb dL_sets_195 (lv_at hl 3 rfl) ?_
  refine lv_iload hx hb dL_sets_197 (lv_at hl 0 rfl) ?_
  refine lv_icmp_ne (tgt := 207) hx hb dL_sets_199 (by decide) (fun hc => ?_) (fun hc => ?_)
  · replace h := h.2 hc
    refine lv_iload hx hb dL_sets_207 (lv_at hl 3 rfl) ?_
    exact tj_L_sets_209 C v0 v4 u0 v5 r1 (hv0) I1 _ _ _ hM (lv_sub hl [1, 2, 0] rfl) h
  · replace h := h.1 hc
    refine gq_ldc (v := (-1000004 : Int32)) C gw_659 dL_sets_202 ?_
    refine lv_goto (tgt := 209) hx hb dL_sets_204 (by decide) ?_
    exact tj_L_sets_209 C v0 v4 u0 (-1000004 : Int32) r1 (hv0) I1 _ _ _ hM (lv_sub hl [1, 2, 0] rfl) h
set_option maxHeartbeats 4000000 in
set_option maxRecDepth 100000 in
theorem tj_L_sets_304 (C : gx_C L 282 p s m args meth c RL cL_sets 9 (some .boolean)) {Q : Int32 → gx_M → Prop} : ∀ (v0 : Nat) (v4 : Int32) (v5 : Int32) (v7 : Int32) (u0 : Int32) (u1 : Int32) (hv0 : kX v0 = 7) (I : gx_M) (H : Heap) (locs : List Loc) (ls : Array Slot), gx_S L 282 (cellX L I) s.heap H locs → lv_has ls 9 [(0, .ref (gx_ad L v0)), (4, .int v4), (5, .int v5), (7, .int v7)] → wj_L_sets_304 Q v0 v4 v5 v7 u0 u1 I → W p l e rm_L_sets s m args below meth c H locs 0 0 (MQ below (va_Qi (fun r I' => r &&& 1 = r ∧ Q r I') (fun I' t => gx_U L 282 (cellX L I') t) (gx_A L)) args s 0 0 (gx_A L)) (F0 m 304 ls [.int u0, .int u1]) := by
  have hx := C.1
  have hb := C.2.1
  intro v0 v4 v5 v7 u0 u1 hv0 I H locs ls hM hl h
  unfold wj_L_sets_304 at h
  refine lv_icmp_ne (tgt := 338) hx hb dL_sets_304 (by decide) (fun hc => ?_) (fun hc => ?_)
  · replace h := h.2 hc
    refine lv_iconst (v := (0 : Int32)) hx hb dL_sets_338 (by decide) ?_
    exact gq_zret C hM ⟨rfl, h⟩ (rfl) dL_sets_339
  · replace h := h.1 hc
    refine lv_aload_n hx hb dL_sets_307 rfl (lv_at hl 0 rfl) ?_
    refine lv_iload hx hb dL_sets_308 (lv_at hl 1 rfl) ?_
    refine lv_iload hx hb dL_sets_310 (lv_at hl 2 rfl) ?_
    refine lv_iconst (v := (0 : Int32)) hx hb dL_sets_312 (by decide) ?_
    refine gq_backi C hM (gq_runV (As := [.int v4, .int v5, .int (0 : Int32)]) (rest := []) C hM (kX_lt hv0 (by decide)) (cX_7 hv0) rfl (c_X7_gauge l L v0 hv0 v4 v5 (0 : Int32) I _ h) k_X7_gauge gw_592 rfl hl.1 rfl (Nat.le_of_ble_eq_true rfl) ⟨⟨rfl, rfl⟩, Nat.le_of_ble_eq_true rfl, Nat.le_of_ble_eq_true rfl⟩ ⟨Nat.zero_le _, Nat.zero_le _⟩ dL_sets_313) (fun r1 I1 H locs h hM => ?_)
    refine lv_iload hx hb dL_sets_316 (lv_at hl 3 rfl) ?_
    refine lv_icmp_ne (tgt := 338) hx hb dL_sets_318 (by decide) (fun hc => ?_) (fun hc => ?_)
    · replace h := h.2 hc
      refine lv_iconst (v := (0 : Int32)) hx hb dL_sets_338 (by decide) ?_
      exact gq_zret C hM ⟨rfl, h⟩ (rfl) dL_sets_339
    · replace h := h.1 hc
      refine lv_aload_n hx hb dL_sets_321 rfl (lv_at hl 0 rfl) ?_
      refine lv_iload hx hb dL_sets_322 (lv_at hl 1 rfl) ?_
      refine lv_iconst (v := (3 : Int32)) hx hb dL_sets_324 (by decide) ?_
      refine lv_iconst (v := (0 : Int32)) hx hb dL_sets_325 (by decide) ?_
      refine gq_backi C hM (gq_runV (As := [.int v4, .int (3 : Int32), .int (0 : Int32)]) (rest := []) C hM (kX_lt hv0 (by decide)) (cX_7 hv0) rfl (c_X7_setOffset l L v0 hv0 v4 (3 : Int32) (0 : Int32) I1 _ h) k_X7_setOffset gw_693 rfl hl.1 rfl (Nat.le_of_ble_eq_true rfl) ⟨⟨rfl, rfl⟩, Nat.le_of_ble_eq_true rfl, Nat.le_of_ble_eq_true rfl⟩ ⟨Nat.zero_le _, Nat.zero_le _⟩ dL_sets_326) (fun r2 I2 H locs h hM => ?_)
      refine gq_ldc (v := (-1000001 : Int32)) C gw_655 dL_sets_329 ?_
      refine lv_icmp_ne (tgt := 338) hx hb dL_sets_331 (by decide) (fun hc => ?_) (fun hc => ?_)
      · replace h := h.2 hc
        refine lv_iconst (v := (0 : Int32)) hx hb dL_sets_338 (by decide) ?_
        exact gq_zret C hM ⟨rfl, h⟩ (rfl) dL_sets_339
      · replace h := h.1 hc
        refine lv_iconst (v := (1 : Int32)) hx hb dL_sets_334 (by decide) ?_
        refine lv_goto (tgt := 339) hx hb dL_sets_335 (by decide) ?_
        exact gq_zret C hM ⟨rfl, h⟩ (rfl) dL_sets_339
set_option maxHeartbeats 4000000 in
set_option maxRecDepth 100000 in
theorem tj_L_sets_401 (C : gx_C L 282 p s m args meth c RL cL_sets 9 (some .boolean)) {Q : Int32 → gx_M → Prop} : ∀ (v0 : Nat) (v4 : Int32) (v6 : Int32) (u0 : Int32) (u1 : Int32) (hv0 : kX v0 = 7) (I : gx_M) (H : Heap) (locs : List Loc) (ls : Array Slot), gx_S L 282 (cellX L I) s.heap H locs → lv_has ls 9 [(0, .ref (gx_ad L v0)), (4, .int v4), (6, .int v6)] → wj_L_sets_401 Q v0 v4 v6 u0 u1 I → W p l e rm_L_sets s m args below meth c H locs 0 0 (MQ below (va_Qi (fun r I' => r &&& 1 = r ∧ Q r I') (fun I' t => gx_U L 282 (cellX L I') t) (gx_A L)) args s 0 0 (gx_A L)) (F0 m 401 ls [.int u0, .int u1]) := by
  have hx := C.1
  have hb := C.2.1
  intro v0 v4 v6 u0 u1 hv0 I H locs ls hM hl h
  unfold wj_L_sets_401 at h
  refine lv_icmp_ne (tgt := 421) hx hb dL_sets_401 (by decide) (fun hc => ?_) (fun hc => ?_)
  · replace h := h.2 hc
    refine lv_iconst (v := (0 : Int32)) hx hb dL_sets_421 (by decide) ?_
    exact gq_zret C hM ⟨rfl, h⟩ (rfl) dL_sets_422
  · replace h := h.1 hc
    refine lv_aload_n hx hb dL_sets_404 rfl (lv_at hl 0 rfl) ?_
    refine lv_iload hx hb dL_sets_405 (lv_at hl 1 rfl) ?_
    refine lv_bipush (v := (8 : Int32)) hx hb dL_sets_407 (by decide) ?_
    refine gq_backi C hM (gq_runV (As := [.int v4, .int (8 : Int32)]) (rest := []) C hM (kX_lt hv0 (by decide)) (cX_7 hv0) rfl (c_X7_rosette l L v0 hv0 v4 (8 : Int32) I _ h) k_X7_rosette gw_588 rfl hl.1 rfl (Nat.le_of_ble_eq_true rfl) ⟨⟨rfl, rfl⟩, Nat.le_of_ble_eq_true rfl, Nat.le_of_ble_eq_true rfl⟩ ⟨Nat.zero_le _, Nat.zero_le _⟩ dL_sets_409) (fun r1 I1 H locs h hM => ?_)
    refine lv_iload hx hb dL_sets_412 (lv_at hl 2 rfl) ?_
    refine lv_icmp_ne (tgt := 421) hx hb dL_sets_414 (by decide) (fun hc => ?_) (fun hc => ?_)
    · replace h := h.2 hc
      refine lv_iconst (v := (0 : Int32)) hx hb dL_sets_421 (by decide) ?_
      exact gq_zret C hM ⟨rfl, h⟩ (rfl) dL_sets_422
    · replace h := h.1 hc
      refine lv_iconst (v := (1 : Int32)) hx hb dL_sets_417 (by decide) ?_
      refine lv_goto (tgt := 422) hx hb dL_sets_418 (by decide) ?_
      exact gq_zret C hM ⟨rfl, h⟩ (rfl) dL_sets_422
set_option maxHeartbeats 4000000 in
set_option maxRecDepth 100000 in
theorem tj_L_sets_374 (C : gx_C L 282 p s m args meth c RL cL_sets 9 (some .boolean)) {Q : Int32 → gx_M → Prop} : ∀ (v0 : Nat) (v4 : Int32) (v5 : Int32) (v6 : Int32) (u0 : Int32) (u1 : Int32) (u2 : Nat) (hv0 : kX v0 = 7) (hu2 : kX u2 = 7) (I : gx_M) (H : Heap) (locs : List Loc) (ls : Array Slot), gx_S L 282 (cellX L I) s.heap H locs → lv_has ls 9 [(0, .ref (gx_ad L v0)), (4, .int v4), (5, .int v5), (6, .int v6)] → wj_L_sets_374 Q v0 v4 v5 v6 u0 u1 u2 I → W p l e rm_L_sets s m args below meth c H locs 0 0 (MQ below (va_Qi (fun r I' => r &&& 1 = r ∧ Q r I') (fun I' t => gx_U L 282 (cellX L I') t) (gx_A L)) args s 0 0 (gx_A L)) (F0 m 374 ls [.int u0, .int u1, .ref (gx_ad L u2)]) := by
  have hx := C.1
  have hb := C.2.1
  intro v0 v4 v5 v6 u0 u1 u2 hv0 hu2 I H locs ls hM hl h
  unfold wj_L_sets_374 at h
  refine gq_backi C hM (gq_runV (As := [.int u1, .int u0]) (rest := []) C hM (kX_lt hu2 (by decide)) (cX_7 hu2) rfl (c_X7_setShunt l L u2 hu2 u1 u0 I _ h) k_X7_setShunt gw_697 rfl hl.1 rfl (Nat.le_of_ble_eq_true rfl) ⟨⟨rfl, rfl⟩, Nat.le_of_ble_eq_true rfl, Nat.le_of_ble_eq_true rfl⟩ ⟨Nat.zero_le _, Nat.zero_le _⟩ dL_sets_374) (fun r1 I1 H locs h hM => ?_)
  refine lv_istore (lv' := [(7, .int r1), (0, .ref (gx_ad L v0)), (4, .int v4), (5, .int v5), (6, .int v6)]) hx hb dL_sets_377 hl (by decide) rfl (fun ls hl => ?_)
  refine lv_iload hx hb dL_sets_379 (lv_at hl 0 rfl) ?_
  refine lv_iload hx hb dL_sets_381 (lv_at hl 3 rfl) ?_
  refine lv_iload hx hb dL_sets_383 (lv_at hl 4 rfl) ?_
  refine lv_icmp_ne (tgt := 393) hx hb dL_sets_385 (by decide) (fun hc => ?_) (fun hc => ?_)
  · replace h := h.2 hc
    refine lv_aload_n hx hb dL_sets_393 rfl (lv_at hl 1 rfl) ?_
    refine lv_iload hx hb dL_sets_394 (lv_at hl 2 rfl) ?_
    refine lv_iconst (v := (0 : Int32)) hx hb dL_sets_396 (by decide) ?_
    refine lv_iconst (v := (3 : Int32)) hx hb dL_sets_397 (by decide) ?_
    refine gq_backi C hM (gq_runV (As := [.int v4, .int (0 : Int32), .int (3 : Int32)]) (rest := [.int r1]) C hM (kX_lt hv0 (by decide)) (cX_7 hv0) rfl (c_X7_gauge l L v0 hv0 v4 (0 : Int32) (3 : Int32) I1 _ h) k_X7_gauge gw_592 rfl hl.1 rfl (Nat.le_of_ble_eq_true rfl) ⟨⟨rfl, rfl⟩, Nat.le_of_ble_eq_true rfl, Nat.le_of_ble_eq_true rfl⟩ ⟨Nat.zero_le _, Nat.zero_le _⟩ dL_sets_398) (fun r2 I2 H locs h hM => ?_)
    exact tj_L_sets_401 C v0 v4 v6 r2 r1 (hv0) I2 _ _ _ hM (lv_sub hl [1, 2, 4] rfl) h
  · replace h := h.1 hc
    refine gq_ldc (v := (-1000004 : Int32)) C gw_659 dL_sets_388 ?_
    refine lv_goto (tgt := 401) hx hb dL_sets_390 (by decide) ?_
    exact tj_L_sets_401 C v0 v4 v6 (-1000004 : Int32) r1 (hv0) I1 _ _ _ hM (lv_sub hl [1, 2, 4] rfl) h
set_option maxHeartbeats 4000000 in
set_option maxRecDepth 100000 in
theorem tj_L_sets_463 (C : gx_C L 282 p s m args meth c RL cL_sets 9 (some .boolean)) {Q : Int32 → gx_M → Prop} : ∀ (v0 : Nat) (v6 : Int32) (u0 : Int32) (u1 : Int32) (hv0 : kX v0 = 7) (I : gx_M) (H : Heap) (locs : List Loc) (ls : Array Slot), gx_S L 282 (cellX L I) s.heap H locs → lv_has ls 9 [(0, .ref (gx_ad L v0)), (6, .int v6)] → wj_L_sets_463 Q v0 v6 u0 u1 I → W p l e rm_L_sets s m args below meth c H locs 0 0 (MQ below (va_Qi (fun r I' => r &&& 1 = r ∧ Q r I') (fun I' t => gx_U L 282 (cellX L I') t) (gx_A L)) args s 0 0 (gx_A L)) (F0 m 463 ls [.int u0, .int u1]) := by
  have hx := C.1
  have hb := C.2.1
  intro v0 v6 u0 u1 hv0 I H locs ls hM hl h
  unfold wj_L_sets_463 at h
  refine lv_icmp_ne (tgt := 492) hx hb dL_sets_463 (by decide) (fun hc => ?_) (fun hc => ?_)
  · replace h := h.2 hc
    refine lv_iconst (v := (0 : Int32)) hx hb dL_sets_492 (by decide) ?_
    exact gq_zret C hM ⟨rfl, h⟩ (rfl) dL_sets_493
  · replace h := h.1 hc
    refine lv_aload_n hx hb dL_sets_466 rfl (lv_at hl 0 rfl) ?_
    refine lv_bipush (v := (7 : Int32)) hx hb dL_sets_467 (by decide) ?_
    refine gq_backi C hM (gq_runV (As := [.int (7 : Int32)]) (rest := []) C hM (kX_lt hv0 (by decide)) (cX_7 hv0) rfl (c_X7_count l L v0 hv0 (7 : Int32) I _ h) k_X7_count gw_601 rfl hl.1 rfl (Nat.le_of_ble_eq_true rfl) ⟨⟨rfl, rfl⟩, Nat.le_of_ble_eq_true rfl, Nat.le_of_ble_eq_true rfl⟩ ⟨Nat.zero_le _, Nat.zero_le _⟩ dL_sets_469) (fun r1 I1 H locs h hM => ?_)
    refine lv_iload hx hb dL_sets_472 (lv_at hl 1 rfl) ?_
    refine lv_icmp_ne (tgt := 492) hx hb dL_sets_474 (by decide) (fun hc => ?_) (fun hc => ?_)
    · replace h := h.2 hc
      refine lv_iconst (v := (0 : Int32)) hx hb dL_sets_492 (by decide) ?_
      exact gq_zret C hM ⟨rfl, h⟩ (rfl) dL_sets_493
    · replace h := h.1 hc
      refine lv_aload_n hx hb dL_sets_477 rfl (lv_at hl 0 rfl) ?_
      refine lv_bipush (v := (19 : Int32)) hx hb dL_sets_478 (by decide) ?_
      refine gq_backi C hM (gq_runV (As := [.int (19 : Int32)]) (rest := []) C hM (kX_lt hv0 (by decide)) (cX_7 hv0) rfl (c_X7_setSize l L v0 hv0 (19 : Int32) I1 _ h) k_X7_setSize gw_701 rfl hl.1 rfl (Nat.le_of_ble_eq_true rfl) ⟨⟨rfl, rfl⟩, Nat.le_of_ble_eq_true rfl, Nat.le_of_ble_eq_true rfl⟩ ⟨Nat.zero_le _, Nat.zero_le _⟩ dL_sets_480) (fun r2 I2 H locs h hM => ?_)
      refine gq_ldc (v := (-1000002 : Int32)) C gw_647 dL_sets_483 ?_
      refine lv_icmp_ne (tgt := 492) hx hb dL_sets_485 (by decide) (fun hc => ?_) (fun hc => ?_)
      · replace h := h.2 hc
        refine lv_iconst (v := (0 : Int32)) hx hb dL_sets_492 (by decide) ?_
        exact gq_zret C hM ⟨rfl, h⟩ (rfl) dL_sets_493
      · replace h := h.1 hc
        refine lv_iconst (v := (1 : Int32)) hx hb dL_sets_488 (by decide) ?_
        refine lv_goto (tgt := 493) hx hb dL_sets_489 (by decide) ?_
        exact gq_zret C hM ⟨rfl, h⟩ (rfl) dL_sets_493
set_option maxHeartbeats 4000000 in
set_option maxRecDepth 100000 in
theorem c_L_sets (l : Launch) (L : gx_L) (p0 : Nat) (hp0 : kX p0 = 7) (p1 : Int32) (p2 : Int32) (p3 : Int32) (I : gx_M) (Q : Int32 → gx_M → Prop) (h : wp_L_sets p0 p1 p2 p3 I Q) : Met l yL_sets (gx_w yL_sets cL_sets 9 (some .boolean)) rm_L_sets (va_Pc [.ref (gx_ad L p0), .int p1, .int p2, .int p3] (gx_U L 282 (cellX L I))) (va_Qi (fun r I' => r &&& 1 = r ∧ Q r I') (fun I' t => gx_U L 282 (cellX L I') t) (gx_A L)) 0 0 (gx_A L) := by
  refine gq_enter (by decide) (Nat.le_of_ble_eq_true rfl) (fun p e s m below meth c ls C hM hl => ?_)
  have C : gx_C L 282 p s m _ meth c RL cL_sets 9 (some .boolean) := C
  have hl : lv_has ls 9 [(0, .ref (gx_ad L p0)), (1, .int p1), (2, .int p2), (3, .int p3)] := hl
  have hx := C.1
  have hb := C.2.1
  unfold wp_L_sets at h
  refine lv_iload_n hx hb dL_sets_0 rfl (lv_at hl 2 rfl) ?_
  refine lv_aload_n hx hb dL_sets_1 rfl (lv_at hl 0 rfl) ?_
  refine lv_iconst (v := (0 : Int32)) hx hb dL_sets_2 (by decide) ?_
  refine gq_backi C hM (gq_runV (As := [.int (0 : Int32)]) (rest := [.int p2]) C hM (kX_lt hp0 (by decide)) (cX_7 hp0) rfl (c_X7_count l L p0 hp0 (0 : Int32) I _ h) k_X7_count gw_601 rfl hl.1 rfl (Nat.le_of_ble_eq_true rfl) ⟨⟨rfl, rfl⟩, Nat.le_of_ble_eq_true rfl, Nat.le_of_ble_eq_true rfl⟩ ⟨Nat.zero_le _, Nat.zero_le _⟩ dL_sets_3) (fun r1 I1 H locs h hM => ?_)
  refine gq_backi C hM (gq_runS (As := [.int p2, .int r1]) (rest := []) C hM (c_L_low l L p2 r1 I1 _ h) k_L_low gw_609 rfl hl.1 rfl (Nat.le_of_ble_eq_true rfl) ⟨⟨rfl, rfl⟩, Nat.le_of_ble_eq_true rfl, Nat.le_of_ble_eq_true rfl⟩ ⟨Nat.zero_le _, Nat.zero_le _⟩ dL_sets_6) (fun r2 I2 H locs h hM => ?_)
  refine lv_istore (lv' := [(4, .int r2), (0, .ref (gx_ad L p0)), (1, .int p1), (2, .int p2), (3, .int p3)]) hx hb dL_sets_9 hl (by decide) rfl (fun ls hl => ?_)
  refine lv_iload_n hx hb dL_sets_11 rfl (lv_at hl 2 rfl) ?_
  refine lv_iconst (v := (1 : Int32)) hx hb dL_sets_12 (by decide) ?_
  refine lv_icmp_ne (tgt := 152) hx hb dL_sets_13 (by decide) (fun hc => ?_) (fun hc => ?_)
  · replace h := h.2 hc
    refine lv_iload_n hx hb dL_sets_152 rfl (lv_at hl 2 rfl) ?_
    refine lv_iconst (v := (2 : Int32)) hx hb dL_sets_153 (by decide) ?_
    refine lv_icmp_ne (tgt := 242) hx hb dL_sets_154 (by decide) (fun hc => ?_) (fun hc => ?_)
    · replace h := h.2 hc
      refine lv_iload_n hx hb dL_sets_242 rfl (lv_at hl 2 rfl) ?_
      refine lv_iconst (v := (3 : Int32)) hx hb dL_sets_243 (by decide) ?_
      refine lv_icmp_ne (tgt := 340) hx hb dL_sets_244 (by decide) (fun hc => ?_) (fun hc => ?_)
      · replace h := h.2 hc
        refine lv_iload_n hx hb dL_sets_340 rfl (lv_at hl 2 rfl) ?_
        refine lv_iconst (v := (4 : Int32)) hx hb dL_sets_341 (by decide) ?_
        refine lv_icmp_ne (tgt := 423) hx hb dL_sets_342 (by decide) (fun hc => ?_) (fun hc => ?_)
        · replace h := h.2 hc
          refine lv_aload_n hx hb dL_sets_423 rfl (lv_at hl 1 rfl) ?_
          refine lv_bipush (v := (7 : Int32)) hx hb dL_sets_424 (by decide) ?_
          refine gq_backi C hM (gq_runV (As := [.int (7 : Int32)]) (rest := []) C hM (kX_lt hp0 (by decide)) (cX_7 hp0) rfl (c_X7_count l L p0 hp0 (7 : Int32) I2 _ h) k_X7_count gw_601 rfl hl.1 rfl (Nat.le_of_ble_eq_true rfl) ⟨⟨rfl, rfl⟩, Nat.le_of_ble_eq_true rfl, Nat.le_of_ble_eq_true rfl⟩ ⟨Nat.zero_le _, Nat.zero_le _⟩ dL_sets_426) (fun r3 I3 H locs h hM => ?_)
          refine lv_istore (lv' := [(5, .int r3), (4, .int r2), (0, .ref (gx_ad L p0)), (1, .int p1), (2, .int p2), (3, .int p3)]) hx hb dL_sets_429 hl (by decide) rfl (fun ls hl => ?_)
          refine lv_bipush (v := (20 : Int32)) hx hb dL_sets_431 (by decide) ?_
          refine lv_iload_n hx hb dL_sets_433 rfl (lv_at hl 5 rfl) ?_
          refine lv_sipush (v := (481 : Int32)) hx hb dL_sets_434 (by decide) ?_
          refine gq_backi C hM (gq_runS (As := [.int p3, .int (481 : Int32)]) (rest := [.int (20 : Int32)]) C hM (c_L_low l L p3 (481 : Int32) I3 _ h) k_L_low gw_609 rfl hl.1 rfl (Nat.le_of_ble_eq_true rfl) ⟨⟨rfl, rfl⟩, Nat.le_of_ble_eq_true rfl, Nat.le_of_ble_eq_true rfl⟩ ⟨Nat.zero_le _, Nat.zero_le _⟩ dL_sets_437) (fun r4 I4 H locs h hM => ?_)
          refine lv_iadd hx hb dL_sets_440 ?_
          refine lv_topi (fun x1 ex1 => ?_)
          replace h := h x1 ex1
          refine lv_istore (lv' := [(6, .int x1), (5, .int r3), (4, .int r2), (0, .ref (gx_ad L p0)), (1, .int p1), (2, .int p2), (3, .int p3)]) hx hb dL_sets_441 hl (by decide) rfl (fun ls hl => ?_)
          refine lv_aload_n hx hb dL_sets_443 rfl (lv_at hl 3 rfl) ?_
          refine lv_iload hx hb dL_sets_444 (lv_at hl 0 rfl) ?_
          refine gq_backi C hM (gq_runV (As := [.int x1]) (rest := []) C hM (kX_lt hp0 (by decide)) (cX_7 hp0) rfl (c_X7_setSize l L p0 hp0 x1 I4 _ h) k_X7_setSize gw_701 rfl hl.1 rfl (Nat.le_of_ble_eq_true rfl) ⟨⟨rfl, rfl⟩, Nat.le_of_ble_eq_true rfl, Nat.le_of_ble_eq_true rfl⟩ ⟨Nat.zero_le _, Nat.zero_le _⟩ dL_sets_446) (fun r5 I5 H locs h hM => ?_)
          refine lv_iload hx hb dL_sets_449 (lv_at hl 1 rfl) ?_
          refine lv_iload hx hb dL_sets_451 (lv_at hl 0 rfl) ?_
          refine lv_icmp_ne (tgt := 461) hx hb dL_sets_453 (by decide) (fun hc => ?_) (fun hc => ?_)
          · replace h := h.2 hc
            refine lv_iload hx hb dL_sets_461 (lv_at hl 1 rfl) ?_
            exact tj_L_sets_463 C p0 x1 r3 r5 (hp0) I5 _ _ _ hM (lv_sub hl [3, 0] rfl) h
          · replace h := h.1 hc
            refine gq_ldc (v := (-1000004 : Int32)) C gw_659 dL_sets_456 ?_
            refine lv_goto (tgt := 463) hx hb dL_sets_458 (by decide) ?_
            exact tj_L_sets_463 C p0 x1 (-1000004 : Int32) r5 (hp0) I5 _ _ _ hM (lv_sub hl [3, 0] rfl) h
        · replace h := h.1 hc
          refine lv_aload_n hx hb dL_sets_345 rfl (lv_at hl 1 rfl) ?_
          refine lv_iload hx hb dL_sets_346 (lv_at hl 0 rfl) ?_
          refine lv_bipush (v := (8 : Int32)) hx hb dL_sets_348 (by decide) ?_
          refine gq_backi C hM (gq_runV (As := [.int r2, .int (8 : Int32)]) (rest := []) C hM (kX_lt hp0 (by decide)) (cX_7 hp0) rfl (c_X7_rosette l L p0 hp0 r2 (8 : Int32) I2 _ h) k_X7_rosette gw_588 rfl hl.1 rfl (Nat.le_of_ble_eq_true rfl) ⟨⟨rfl, rfl⟩, Nat.le_of_ble_eq_true rfl, Nat.le_of_ble_eq_true rfl⟩ ⟨Nat.zero_le _, Nat.zero_le _⟩ dL_sets_350) (fun r6 I6 H locs h hM => ?_)
          refine lv_istore (lv' := [(5, .int r6), (4, .int r2), (0, .ref (gx_ad L p0)), (1, .int p1), (2, .int p2), (3, .int p3)]) hx hb dL_sets_353 hl (by decide) rfl (fun ls hl => ?_)
          refine lv_iload_n hx hb dL_sets_355 rfl (lv_at hl 5 rfl) ?_
          refine lv_iconst (v := (1 : Int32)) hx hb dL_sets_356 (by decide) ?_
          refine lv_iand hx hb dL_sets_357 ?_
          refine lv_topi (fun x2 ex2 => ?_)
          replace h := h x2 ex2
          refine lv_istore (lv' := [(6, .int x2), (5, .int r6), (4, .int r2), (0, .ref (gx_ad L p0)), (1, .int p1), (2, .int p2), (3, .int p3)]) hx hb dL_sets_358 hl (by decide) rfl (fun ls hl => ?_)
          refine lv_aload_n hx hb dL_sets_360 rfl (lv_at hl 3 rfl) ?_
          refine lv_iload hx hb dL_sets_361 (lv_at hl 2 rfl) ?_
          refine lv_iload hx hb dL_sets_363 (lv_at hl 0 rfl) ?_
          refine lv_iconst (v := (1 : Int32)) hx hb dL_sets_365 (by decide) ?_
          refine lv_icmp_ne (tgt := 373) hx hb dL_sets_366 (by decide) (fun hc => ?_) (fun hc => ?_)
          · replace h := h.2 hc
            refine lv_iconst (v := (0 : Int32)) hx hb dL_sets_373 (by decide) ?_
            exact tj_L_sets_374 C p0 r2 r6 x2 (0 : Int32) r2 p0 (hp0) (hp0) I6 _ _ _ hM (lv_sub hl [3, 2, 1, 0] rfl) h
          · replace h := h.1 hc
            refine lv_iconst (v := (1 : Int32)) hx hb dL_sets_369 (by decide) ?_
            refine lv_goto (tgt := 374) hx hb dL_sets_370 (by decide) ?_
            exact tj_L_sets_374 C p0 r2 r6 x2 (1 : Int32) r2 p0 (hp0) (hp0) I6 _ _ _ hM (lv_sub hl [3, 2, 1, 0] rfl) h
      · replace h := h.1 hc
        refine lv_iload_n hx hb dL_sets_247 rfl (lv_at hl 4 rfl) ?_
        refine lv_iconst (v := (3 : Int32)) hx hb dL_sets_248 (by decide) ?_
        refine gq_backi C hM (gq_runS (As := [.int p3, .int (3 : Int32)]) (rest := []) C hM (c_L_low l L p3 (3 : Int32) I2 _ h) k_L_low gw_609 rfl hl.1 rfl (Nat.le_of_ble_eq_true rfl) ⟨⟨rfl, rfl⟩, Nat.le_of_ble_eq_true rfl, Nat.le_of_ble_eq_true rfl⟩ ⟨Nat.zero_le _, Nat.zero_le _⟩ dL_sets_249) (fun r7 I7 H locs h hM => ?_)
        refine lv_istore (lv' := [(5, .int r7), (4, .int r2), (0, .ref (gx_ad L p0)), (1, .int p1), (2, .int p2), (3, .int p3)]) hx hb dL_sets_252 hl (by decide) rfl (fun ls hl => ?_)
        refine lv_aload_n hx hb dL_sets_254 rfl (lv_at hl 2 rfl) ?_
        refine lv_iload hx hb dL_sets_255 (lv_at hl 1 rfl) ?_
        refine lv_iload hx hb dL_sets_257 (lv_at hl 0 rfl) ?_
        refine lv_iconst (v := (0 : Int32)) hx hb dL_sets_259 (by decide) ?_
        refine gq_backi C hM (gq_runV (As := [.int r2, .int r7, .int (0 : Int32)]) (rest := []) C hM (kX_lt hp0 (by decide)) (cX_7 hp0) rfl (c_X7_gauge l L p0 hp0 r2 r7 (0 : Int32) I7 _ h) k_X7_gauge gw_592 rfl hl.1 rfl (Nat.le_of_ble_eq_true rfl) ⟨⟨rfl, rfl⟩, Nat.le_of_ble_eq_true rfl, Nat.le_of_ble_eq_true rfl⟩ ⟨Nat.zero_le _, Nat.zero_le _⟩ dL_sets_260) (fun r8 I8 H locs h hM => ?_)
        refine lv_istore (lv' := [(6, .int r8), (5, .int r7), (4, .int r2), (0, .ref (gx_ad L p0)), (1, .int p1), (2, .int p2), (3, .int p3)]) hx hb dL_sets_263 hl (by decide) rfl (fun ls hl => ?_)
        refine lv_iload_n hx hb dL_sets_265 rfl (lv_at hl 6 rfl) ?_
        refine lv_iconst (v := (2 : Int32)) hx hb dL_sets_266 (by decide) ?_
        refine lv_ishr hx hb dL_sets_267 ?_
        refine lv_sipush (v := (19999 : Int32)) hx hb dL_sets_268 (by decide) ?_
        refine gq_backi C hM (gq_runS (As := [.int (p3 >>> ((2 : Int32) &&& 31)), .int (19999 : Int32)]) (rest := []) C hM (c_L_low l L (p3 >>> ((2 : Int32) &&& 31)) (19999 : Int32) I8 _ h) k_L_low gw_609 rfl hl.1 rfl (Nat.le_of_ble_eq_true rfl) ⟨⟨rfl, rfl⟩, Nat.le_of_ble_eq_true rfl, Nat.le_of_ble_eq_true rfl⟩ ⟨Nat.zero_le _, Nat.zero_le _⟩ dL_sets_271) (fun r9 I9 H locs h hM => ?_)
        refine lv_sipush (v := (9999 : Int32)) hx hb dL_sets_274 (by decide) ?_
        refine lv_isub hx hb dL_sets_277 ?_
        refine lv_topi (fun x3 ex3 => ?_)
        replace h := h x3 ex3
        refine lv_istore (lv' := [(7, .int x3), (6, .int r8), (5, .int r7), (4, .int r2), (0, .ref (gx_ad L p0)), (1, .int p1), (2, .int p2), (3, .int p3)]) hx hb dL_sets_278 hl (by decide) rfl (fun ls hl => ?_)
        refine lv_aload_n hx hb dL_sets_280 rfl (lv_at hl 4 rfl) ?_
        refine lv_iload hx hb dL_sets_281 (lv_at hl 3 rfl) ?_
        refine lv_iload hx hb dL_sets_283 (lv_at hl 2 rfl) ?_
        refine lv_iload hx hb dL_sets_285 (lv_at hl 0 rfl) ?_
        refine gq_backi C hM (gq_runV (As := [.int r2, .int r7, .int x3]) (rest := []) C hM (kX_lt hp0 (by decide)) (cX_7 hp0) rfl (c_X7_setOffset l L p0 hp0 r2 r7 x3 I9 _ h) k_X7_setOffset gw_693 rfl hl.1 rfl (Nat.le_of_ble_eq_true rfl) ⟨⟨rfl, rfl⟩, Nat.le_of_ble_eq_true rfl, Nat.le_of_ble_eq_true rfl⟩ ⟨Nat.zero_le _, Nat.zero_le _⟩ dL_sets_287) (fun r10 I10 H locs h hM => ?_)
        refine lv_iload hx hb dL_sets_290 (lv_at hl 1 rfl) ?_
        refine lv_iload hx hb dL_sets_292 (lv_at hl 0 rfl) ?_
        refine lv_icmp_ne (tgt := 302) hx hb dL_sets_294 (by decide) (fun hc => ?_) (fun hc => ?_)
        · replace h := h.2 hc
          refine lv_iload hx hb dL_sets_302 (lv_at hl 1 rfl) ?_
          exact tj_L_sets_304 C p0 r2 r7 x3 r8 r10 (hp0) I10 _ _ _ hM (lv_sub hl [4, 3, 2, 0] rfl) h
        · replace h := h.1 hc
          refine gq_ldc (v := (-1000004 : Int32)) C gw_659 dL_sets_297 ?_
          refine lv_goto (tgt := 304) hx hb dL_sets_299 (by decide) ?_
          exact tj_L_sets_304 C p0 r2 r7 x3 (-1000004 : Int32) r10 (hp0) I10 _ _ _ hM (lv_sub hl [4, 3, 2, 0] rfl) h
    · replace h := h.1 hc
      refine lv_aload_n hx hb dL_sets_157 rfl (lv_at hl 1 rfl) ?_
      refine lv_iload hx hb dL_sets_158 (lv_at hl 0 rfl) ?_
      refine lv_iconst (v := (4 : Int32)) hx hb dL_sets_160 (by decide) ?_
      refine gq_backi C hM (gq_runV (As := [.int r2, .int (4 : Int32)]) (rest := []) C hM (kX_lt hp0 (by decide)) (cX_7 hp0) rfl (c_X7_rosette l L p0 hp0 r2 (4 : Int32) I2 _ h) k_X7_rosette gw_588 rfl hl.1 rfl (Nat.le_of_ble_eq_true rfl) ⟨⟨rfl, rfl⟩, Nat.le_of_ble_eq_true rfl, Nat.le_of_ble_eq_true rfl⟩ ⟨Nat.zero_le _, Nat.zero_le _⟩ dL_sets_161) (fun r11 I11 H locs h hM => ?_)
      refine lv_istore (lv' := [(5, .int r11), (4, .int r2), (0, .ref (gx_ad L p0)), (1, .int p1), (2, .int p2), (3, .int p3)]) hx hb dL_sets_164 hl (by decide) rfl (fun ls hl => ?_)
      refine lv_iload_n hx hb dL_sets_166 rfl (lv_at hl 5 rfl) ?_
      refine lv_iconst (v := (3 : Int32)) hx hb dL_sets_167 (by decide) ?_
      refine lv_iand hx hb dL_sets_168 ?_
      refine lv_if_ne (tgt := 176) hx hb dL_sets_169 (by decide) (fun hc => ?_) (fun hc => ?_)
      · replace h := h.2 hc
        refine lv_iload_n hx hb dL_sets_176 rfl (lv_at hl 5 rfl) ?_
        refine lv_iconst (v := (2 : Int32)) hx hb dL_sets_177 (by decide) ?_
        refine lv_ishr hx hb dL_sets_178 ?_
        refine lv_sipush (v := (20001 : Int32)) hx hb dL_sets_179 (by decide) ?_
        refine gq_backi C hM (gq_runS (As := [.int (p3 >>> ((2 : Int32) &&& 31)), .int (20001 : Int32)]) (rest := []) C hM (c_L_low l L (p3 >>> ((2 : Int32) &&& 31)) (20001 : Int32) I11 _ h) k_L_low gw_609 rfl hl.1 rfl (Nat.le_of_ble_eq_true rfl) ⟨⟨rfl, rfl⟩, Nat.le_of_ble_eq_true rfl, Nat.le_of_ble_eq_true rfl⟩ ⟨Nat.zero_le _, Nat.zero_le _⟩ dL_sets_182) (fun r12 I12 H locs h hM => ?_)
        exact tj_L_sets_185 C p0 r2 r11 r12 (hp0) I12 _ _ _ hM (lv_sub hl [2, 1, 0] rfl) h
      · replace h := h.1 hc
        refine lv_iconst (v := (0 : Int32)) hx hb dL_sets_172 (by decide) ?_
        refine lv_goto (tgt := 185) hx hb dL_sets_173 (by decide) ?_
        exact tj_L_sets_185 C p0 r2 r11 (0 : Int32) (hp0) I11 _ _ _ hM (lv_sub hl [2, 1, 0] rfl) h
  · replace h := h.1 hc
    refine lv_iload_n hx hb dL_sets_16 rfl (lv_at hl 4 rfl) ?_
    refine lv_sipush (v := (10001 : Int32)) hx hb dL_sets_17 (by decide) ?_
    refine gq_backi C hM (gq_runS (As := [.int p3, .int (10001 : Int32)]) (rest := []) C hM (c_L_low l L p3 (10001 : Int32) I2 _ h) k_L_low gw_609 rfl hl.1 rfl (Nat.le_of_ble_eq_true rfl) ⟨⟨rfl, rfl⟩, Nat.le_of_ble_eq_true rfl, Nat.le_of_ble_eq_true rfl⟩ ⟨Nat.zero_le _, Nat.zero_le _⟩ dL_sets_20) (fun r13 I13 H locs h hM => ?_)
    refine lv_sipush (v := (5000 : Int32)) hx hb dL_sets_23 (by decide) ?_
    refine lv_isub hx hb dL_sets_26 ?_
    refine lv_topi (fun x4 ex4 => ?_)
    replace h := h x4 ex4
    refine lv_istore (lv' := [(5, .int x4), (4, .int r2), (0, .ref (gx_ad L p0)), (1, .int p1), (2, .int p2), (3, .int p3)]) hx hb dL_sets_27 hl (by decide) rfl (fun ls hl => ?_)
    refine lv_iload_n hx hb dL_sets_29 rfl (lv_at hl 5 rfl) ?_
    refine lv_iconst (v := (5 : Int32)) hx hb dL_sets_30 (by decide) ?_
    refine lv_ishr hx hb dL_sets_31 ?_
    refine lv_sipush (v := (10001 : Int32)) hx hb dL_sets_32 (by decide) ?_
    refine gq_backi C hM (gq_runS (As := [.int (p3 >>> ((5 : Int32) &&& 31)), .int (10001 : Int32)]) (rest := []) C hM (c_L_low l L (p3 >>> ((5 : Int32) &&& 31)) (10001 : Int32) I13 _ h) k_L_low gw_609 rfl hl.1 rfl (Nat.le_of_ble_eq_true rfl) ⟨⟨rfl, rfl⟩, Nat.le_of_ble_eq_true rfl, Nat.le_of_ble_eq_true rfl⟩ ⟨Nat.zero_le _, Nat.zero_le _⟩ dL_sets_35) (fun r14 I14 H locs h hM => ?_)
    refine lv_sipush (v := (5000 : Int32)) hx hb dL_sets_38 (by decide) ?_
    refine lv_isub hx hb dL_sets_41 ?_
    refine lv_topi (fun x5 ex5 => ?_)
    replace h := h x5 ex5
    refine lv_istore (lv' := [(6, .int x5), (5, .int x4), (4, .int r2), (0, .ref (gx_ad L p0)), (1, .int p1), (2, .int p2), (3, .int p3)]) hx hb dL_sets_42 hl (by decide) rfl (fun ls hl => ?_)
    refine lv_iload_n hx hb dL_sets_44 rfl (lv_at hl 6 rfl) ?_
    refine lv_bipush (v := (9 : Int32)) hx hb dL_sets_45 (by decide) ?_
    refine lv_ishr hx hb dL_sets_47 ?_
    refine lv_sipush (v := (10001 : Int32)) hx hb dL_sets_48 (by decide) ?_
    refine gq_backi C hM (gq_runS (As := [.int (p3 >>> ((9 : Int32) &&& 31)), .int (10001 : Int32)]) (rest := []) C hM (c_L_low l L (p3 >>> ((9 : Int32) &&& 31)) (10001 : Int32) I14 _ h) k_L_low gw_609 rfl hl.1 rfl (Nat.le_of_ble_eq_true rfl) ⟨⟨rfl, rfl⟩, Nat.le_of_ble_eq_true rfl, Nat.le_of_ble_eq_true rfl⟩ ⟨Nat.zero_le _, Nat.zero_le _⟩ dL_sets_51) (fun r15 I15 H locs h hM => ?_)
    refine lv_sipush (v := (5000 : Int32)) hx hb dL_sets_54 (by decide) ?_
    refine lv_isub hx hb dL_sets_57 ?_
    refine lv_topi (fun x6 ex6 => ?_)
    replace h := h x6 ex6
    refine lv_istore (lv' := [(7, .int x6), (6, .int x5), (5, .int x4), (4, .int r2), (0, .ref (gx_ad L p0)), (1, .int p1), (2, .int p2), (3, .int p3)]) hx hb dL_sets_58 hl (by decide) rfl (fun ls hl => ?_)
    refine lv_aload_n hx hb dL_sets_60 rfl (lv_at hl 4 rfl) ?_
    refine lv_iload hx hb dL_sets_61 (lv_at hl 3 rfl) ?_
    refine lv_iload hx hb dL_sets_63 (lv_at hl 2 rfl) ?_
    refine lv_iload hx hb dL_sets_65 (lv_at hl 1 rfl) ?_
    refine lv_iload hx hb dL_sets_67 (lv_at hl 0 rfl) ?_
    refine gq_backi C hM (gq_runV (As := [.int r2, .int x4, .int x5, .int x6]) (rest := []) C hM (kX_lt hp0 (by decide)) (cX_7 hp0) rfl (c_X7_setStrain l L p0 hp0 r2 x4 x5 x6 I15 _ h) k_X7_setStrain gw_676 rfl hl.1 rfl (Nat.le_of_ble_eq_true rfl) ⟨⟨rfl, rfl⟩, Nat.le_of_ble_eq_true rfl, Nat.le_of_ble_eq_true rfl⟩ ⟨Nat.zero_le _, Nat.zero_le _⟩ dL_sets_69) (fun r16 I16 H locs h hM => ?_)
    refine lv_istore (lv' := [(8, .int r16), (7, .int x6), (6, .int x5), (5, .int x4), (4, .int r2), (0, .ref (gx_ad L p0)), (1, .int p1), (2, .int p2), (3, .int p3)]) hx hb dL_sets_72 hl (by decide) rfl (fun ls hl => ?_)
    refine lv_iload hx hb dL_sets_74 (lv_at hl 0 rfl) ?_
    refine gq_ldc (v := (-1000004 : Int32)) C gw_659 dL_sets_76 ?_
    refine lv_icmp_eq (tgt := 92) hx hb dL_sets_78 (by decide) (fun hc => ?_) (fun hc => ?_)
    · replace h := h.1 hc
      exact tj_L_sets_92 C p0 r2 x4 x5 x6 (hp0) I16 _ _ _ hM (lv_sub hl [5, 4, 3, 2, 1] rfl) h
    · replace h := h.2 hc
      refine lv_iload hx hb dL_sets_81 (lv_at hl 0 rfl) ?_
      refine lv_if_lt (tgt := 150) hx hb dL_sets_83 (by decide) (fun hc => ?_) (fun hc => ?_)
      · replace h := h.1 hc
        refine lv_iconst (v := (0 : Int32)) hx hb dL_sets_150 (by decide) ?_
        exact gq_zret C hM ⟨rfl, h⟩ (rfl) dL_sets_151
      · replace h := h.2 hc
        refine lv_iload hx hb dL_sets_86 (lv_at hl 0 rfl) ?_
        refine lv_iconst (v := (3 : Int32)) hx hb dL_sets_88 (by decide) ?_
        refine lv_icmp_gt (tgt := 150) hx hb dL_sets_89 (by decide) (fun hc => ?_) (fun hc => ?_)
        · replace h := h.1 hc
          refine lv_iconst (v := (0 : Int32)) hx hb dL_sets_150 (by decide) ?_
          exact gq_zret C hM ⟨rfl, h⟩ (rfl) dL_sets_151
        · replace h := h.2 hc
          exact tj_L_sets_92 C p0 r2 x4 x5 x6 (hp0) I16 _ _ _ hM (lv_sub hl [5, 4, 3, 2, 1] rfl) h
theorem k_L_sets : gx_kS yL_sets cL_sets 9 (some .boolean) 4 := ⟨⟨gw_675, gw_21, by decide, by decide, by decide +kernel⟩, gw_674⟩
abbrev rm_L_strains : Room := { frames := 6, cells := 0, slots := 0, locals := 134 }
set_option maxHeartbeats 4000000 in
set_option maxRecDepth 100000 in
theorem tj_L_strains_77 (C : gx_C L 282 p s m args meth c RL cL_strains 6 (some .boolean)) {Q : Int32 → gx_M → Prop} {K17 : Nat → Int32 → Int32 → Int32 → Int32 → gx_M → Prop} (hK17 : ∀ (v0 : Nat) (v1 : Int32) (v2 : Int32) (v3 : Int32) (v4 : Int32) (hv0 : kX v0 = 7) (I : gx_M) (H : Heap) (locs : List Loc) (ls : Array Slot), gx_S L 282 (cellX L I) s.heap H locs → lv_has ls 6 [(0, .ref (gx_ad L v0)), (1, .int v1), (2, .int v2), (3, .int v3), (4, .int v4)] → K17 v0 v1 v2 v3 v4 I → W p l e rm_L_strains s m args below meth c H locs 0 0 (MQ below (va_Qi (fun r I' => r &&& 1 = r ∧ Q r I') (fun I' t => gx_U L 282 (cellX L I') t) (gx_A L)) args s 0 0 (gx_A L)) (F0 m 17 ls [])) : ∀ (v0 : Nat) (v1 : Int32) (v2 : Int32) (v3 : Int32) (v4 : Int32) (hv0 : kX v0 = 7) (I : gx_M) (H : Heap) (locs : List Loc) (ls : Array Slot), gx_S L 282 (cellX L I) s.heap H locs → lv_has ls 6 [(0, .ref (gx_ad L v0)), (1, .int v1), (2, .int v2), (3, .int v3), (4, .int v4)] → wj_L_strains_77 Q K17 v0 v1 v2 v3 v4 I → W p l e rm_L_strains s m args below meth c H locs 0 0 (MQ below (va_Qi (fun r I' => r &&& 1 = r ∧ Q r I') (fun I' t => gx_U L 282 (cellX L I') t) (gx_A L)) args s 0 0 (gx_A L)) (F0 m 77 ls []) := by
  have hx := C.1
  have hb := C.2.1
  intro v0 v1 v2 v3 v4 hv0 I H locs ls hM hl h
  unfold wj_L_strains_77 at h
  obtain ⟨x1, ex1⟩ : ∃ z : Int32, z = v4 + (1 : Int32) := ⟨_, rfl⟩
  replace h := h x1 ex1
  refine lv_iinc (v := x1) (lv' := [(4, .int x1), (0, .ref (gx_ad L v0)), (1, .int v1), (2, .int v2), (3, .int v3)]) hx hb dL_strains_77 hl (k := 4) rfl (by rw [ex1]; rfl) (by decide) rfl (fun ls hl => ?_)
  refine lv_goto (tgt := 17) hx hb dL_strains_80 (by decide) ?_
  exact hK17 v0 v1 v2 v3 x1 (hv0) I _ _ _ hM (lv_sub hl [1, 2, 3, 4, 0] rfl) h
set_option maxHeartbeats 4000000 in
set_option maxRecDepth 100000 in
theorem tj_L_strains_212 (C : gx_C L 282 p s m args meth c RL cL_strains 6 (some .boolean)) {Q : Int32 → gx_M → Prop} : ∀ (v0 : Nat) (v1 : Int32) (hv0 : kX v0 = 7) (I : gx_M) (H : Heap) (locs : List Loc) (ls : Array Slot), gx_S L 282 (cellX L I) s.heap H locs → lv_has ls 6 [(0, .ref (gx_ad L v0)), (1, .int v1)] → wj_L_strains_212 Q v0 v1 I → W p l e rm_L_strains s m args below meth c H locs 0 0 (MQ below (va_Qi (fun r I' => r &&& 1 = r ∧ Q r I') (fun I' t => gx_U L 282 (cellX L I') t) (gx_A L)) args s 0 0 (gx_A L)) (F0 m 212 ls []) := by
  have hx := C.1
  have hb := C.2.1
  intro v0 v1 hv0 I H locs ls hM hl h
  unfold wj_L_strains_212 at h
  refine lv_aload_n hx hb dL_strains_212 rfl (lv_at hl 0 rfl) ?_
  refine lv_iload_n hx hb dL_strains_213 rfl (lv_at hl 1 rfl) ?_
  refine lv_bipush (v := (8 : Int32)) hx hb dL_strains_214 (by decide) ?_
  refine gq_backi C hM (gq_runV (As := [.int v1, .int (8 : Int32)]) (rest := []) C hM (kX_lt hv0 (by decide)) (cX_7 hv0) rfl (c_X7_principal l L v0 hv0 v1 (8 : Int32) I _ h) k_X7_principal gw_619 rfl hl.1 rfl (Nat.le_of_ble_eq_true rfl) ⟨⟨rfl, rfl⟩, Nat.le_of_ble_eq_true rfl, Nat.le_of_ble_eq_true rfl⟩ ⟨Nat.zero_le _, Nat.zero_le _⟩ dL_strains_216) (fun r1 I1 H locs h hM => ?_)
  refine gq_ldc (v := (-1000002 : Int32)) C gw_647 dL_strains_219 ?_
  refine lv_icmp_ne (tgt := 240) hx hb dL_strains_221 (by decide) (fun hc => ?_) (fun hc => ?_)
  · replace h := h.2 hc
    refine lv_iconst (v := (0 : Int32)) hx hb dL_strains_240 (by decide) ?_
    exact gq_zret C hM ⟨rfl, h⟩ (rfl) dL_strains_241
  · replace h := h.1 hc
    refine lv_aload_n hx hb dL_strains_224 rfl (lv_at hl 0 rfl) ?_
    refine lv_iload_n hx hb dL_strains_225 rfl (lv_at hl 1 rfl) ?_
    refine lv_bipush (v := (24 : Int32)) hx hb dL_strains_226 (by decide) ?_
    refine gq_backi C hM (gq_runV (As := [.int v1, .int (24 : Int32)]) (rest := []) C hM (kX_lt hv0 (by decide)) (cX_7 hv0) rfl (c_X7_pull l L v0 hv0 v1 (24 : Int32) I1 _ h) k_X7_pull gw_641 rfl hl.1 rfl (Nat.le_of_ble_eq_true rfl) ⟨⟨rfl, rfl⟩, Nat.le_of_ble_eq_true rfl, Nat.le_of_ble_eq_true rfl⟩ ⟨Nat.zero_le _, Nat.zero_le _⟩ dL_strains_228) (fun r2 I2 H locs h hM => ?_)
    refine gq_ldc (v := (-1000002 : Int32)) C gw_647 dL_strains_231 ?_
    refine lv_icmp_ne (tgt := 240) hx hb dL_strains_233 (by decide) (fun hc => ?_) (fun hc => ?_)
    · replace h := h.2 hc
      refine lv_iconst (v := (0 : Int32)) hx hb dL_strains_240 (by decide) ?_
      exact gq_zret C hM ⟨rfl, h⟩ (rfl) dL_strains_241
    · replace h := h.1 hc
      refine lv_iconst (v := (1 : Int32)) hx hb dL_strains_236 (by decide) ?_
      refine lv_goto (tgt := 241) hx hb dL_strains_237 (by decide) ?_
      exact gq_zret C hM ⟨rfl, h⟩ (rfl) dL_strains_241
set_option maxHeartbeats 4000000 in
set_option maxRecDepth 100000 in
theorem tj_L_strains_171 (C : gx_C L 282 p s m args meth c RL cL_strains 6 (some .boolean)) {Q : Int32 → gx_M → Prop} : ∀ (v0 : Nat) (v1 : Int32) (u0 : Int32) (hv0 : kX v0 = 7) (I : gx_M) (H : Heap) (locs : List Loc) (ls : Array Slot), gx_S L 282 (cellX L I) s.heap H locs → lv_has ls 6 [(0, .ref (gx_ad L v0)), (1, .int v1)] → wj_L_strains_171 Q v0 v1 u0 I → W p l e rm_L_strains s m args below meth c H locs 0 0 (MQ below (va_Qi (fun r I' => r &&& 1 = r ∧ Q r I') (fun I' t => gx_U L 282 (cellX L I') t) (gx_A L)) args s 0 0 (gx_A L)) (F0 m 171 ls [.int u0]) := by
  have hx := C.1
  have hb := C.2.1
  intro v0 v1 u0 hv0 I H locs ls hM hl h
  unfold wj_L_strains_171 at h
  refine lv_istore (lv' := [(5, .int u0), (0, .ref (gx_ad L v0)), (1, .int v1)]) hx hb dL_strains_171 hl (by decide) rfl (fun ls hl => ?_)
  refine lv_aload_n hx hb dL_strains_173 rfl (lv_at hl 1 rfl) ?_
  refine lv_iload_n hx hb dL_strains_174 rfl (lv_at hl 2 rfl) ?_
  refine lv_iconst (v := (4 : Int32)) hx hb dL_strains_175 (by decide) ?_
  refine gq_backi C hM (gq_runV (As := [.int v1, .int (4 : Int32)]) (rest := []) C hM (kX_lt hv0 (by decide)) (cX_7 hv0) rfl (c_X7_principal l L v0 hv0 v1 (4 : Int32) I _ h) k_X7_principal gw_619 rfl hl.1 rfl (Nat.le_of_ble_eq_true rfl) ⟨⟨rfl, rfl⟩, Nat.le_of_ble_eq_true rfl, Nat.le_of_ble_eq_true rfl⟩ ⟨Nat.zero_le _, Nat.zero_le _⟩ dL_strains_176) (fun r1 I1 H locs h hM => ?_)
  refine lv_aload_n hx hb dL_strains_179 rfl (lv_at hl 1 rfl) ?_
  refine lv_iload_n hx hb dL_strains_180 rfl (lv_at hl 2 rfl) ?_
  refine lv_iconst (v := (0 : Int32)) hx hb dL_strains_181 (by decide) ?_
  refine lv_bipush (v := (6 : Int32)) hx hb dL_strains_182 (by decide) ?_
  refine gq_backi C hM (gq_runV (As := [.int v1, .int (0 : Int32), .int (6 : Int32)]) (rest := [.int r1]) C hM (kX_lt hv0 (by decide)) (cX_7 hv0) rfl (c_X7_gauge l L v0 hv0 v1 (0 : Int32) (6 : Int32) I1 _ h) k_X7_gauge gw_592 rfl hl.1 rfl (Nat.le_of_ble_eq_true rfl) ⟨⟨rfl, rfl⟩, Nat.le_of_ble_eq_true rfl, Nat.le_of_ble_eq_true rfl⟩ ⟨Nat.zero_le _, Nat.zero_le _⟩ dL_strains_184) (fun r2 I2 H locs h hM => ?_)
  refine lv_icmp_ne (tgt := 240) hx hb dL_strains_187 (by decide) (fun hc => ?_) (fun hc => ?_)
  · replace h := h.2 hc
    refine lv_iconst (v := (0 : Int32)) hx hb dL_strains_240 (by decide) ?_
    exact gq_zret C hM ⟨rfl, h⟩ (rfl) dL_strains_241
  · replace h := h.1 hc
    refine lv_iload hx hb dL_strains_190 (lv_at hl 0 rfl) ?_
    refine lv_if_eq (tgt := 212) hx hb dL_strains_192 (by decide) (fun hc => ?_) (fun hc => ?_)
    · replace h := h.1 hc
      exact tj_L_strains_212 C v0 v1 (hv0) I2 _ _ _ hM (lv_sub hl [1, 2] rfl) h
    · replace h := h.2 hc
      refine lv_aload_n hx hb dL_strains_195 rfl (lv_at hl 1 rfl) ?_
      refine lv_iload_n hx hb dL_strains_196 rfl (lv_at hl 2 rfl) ?_
      refine lv_iconst (v := (5 : Int32)) hx hb dL_strains_197 (by decide) ?_
      refine gq_backi C hM (gq_runV (As := [.int v1, .int (5 : Int32)]) (rest := []) C hM (kX_lt hv0 (by decide)) (cX_7 hv0) rfl (c_X7_principal l L v0 hv0 v1 (5 : Int32) I2 _ h) k_X7_principal gw_619 rfl hl.1 rfl (Nat.le_of_ble_eq_true rfl) ⟨⟨rfl, rfl⟩, Nat.le_of_ble_eq_true rfl, Nat.le_of_ble_eq_true rfl⟩ ⟨Nat.zero_le _, Nat.zero_le _⟩ dL_strains_198) (fun r3 I3 H locs h hM => ?_)
      refine lv_aload_n hx hb dL_strains_201 rfl (lv_at hl 1 rfl) ?_
      refine lv_iload_n hx hb dL_strains_202 rfl (lv_at hl 2 rfl) ?_
      refine lv_iconst (v := (2 : Int32)) hx hb dL_strains_203 (by decide) ?_
      refine lv_bipush (v := (6 : Int32)) hx hb dL_strains_204 (by decide) ?_
      refine gq_backi C hM (gq_runV (As := [.int v1, .int (2 : Int32), .int (6 : Int32)]) (rest := [.int r3]) C hM (kX_lt hv0 (by decide)) (cX_7 hv0) rfl (c_X7_gauge l L v0 hv0 v1 (2 : Int32) (6 : Int32) I3 _ h) k_X7_gauge gw_592 rfl hl.1 rfl (Nat.le_of_ble_eq_true rfl) ⟨⟨rfl, rfl⟩, Nat.le_of_ble_eq_true rfl, Nat.le_of_ble_eq_true rfl⟩ ⟨Nat.zero_le _, Nat.zero_le _⟩ dL_strains_206) (fun r4 I4 H locs h hM => ?_)
      refine lv_icmp_ne (tgt := 240) hx hb dL_strains_209 (by decide) (fun hc => ?_) (fun hc => ?_)
      · replace h := h.2 hc
        refine lv_iconst (v := (0 : Int32)) hx hb dL_strains_240 (by decide) ?_
        exact gq_zret C hM ⟨rfl, h⟩ (rfl) dL_strains_241
      · replace h := h.1 hc
        exact tj_L_strains_212 C v0 v1 (hv0) I4 _ _ _ hM (lv_sub hl [1, 2] rfl) h
set_option maxHeartbeats 4000000 in
set_option maxRecDepth 100000 in
theorem tl_L_strains_17 (C : gx_C L 282 p s m args meth c RL cL_strains 6 (some .boolean)) {Q : Int32 → gx_M → Prop} : ∀ (fu : Nat) (v0 : Nat) (v1 : Int32) (v2 : Int32) (v3 : Int32) (v4 : Int32) (hv0 : kX v0 = 7) (I : gx_M) (H : Heap) (locs : List Loc) (ls : Array Slot), gx_S L 282 (cellX L I) s.heap H locs → lv_has ls 6 [(0, .ref (gx_ad L v0)), (1, .int v1), (2, .int v2), (3, .int v3), (4, .int v4)] → wl_L_strains_17 Q fu v0 v1 v2 v3 v4 I → W p l e rm_L_strains s m args below meth c H locs 0 0 (MQ below (va_Qi (fun r I' => r &&& 1 = r ∧ Q r I') (fun I' t => gx_U L 282 (cellX L I') t) (gx_A L)) args s 0 0 (gx_A L)) (F0 m 17 ls []) := by
  have hx := C.1
  have hb := C.2.1
  intro fu
  induction fu with
  | zero => intros; rename_i h; exact False.elim h
  | succ fu ih =>
    intro v0 v1 v2 v3 v4 hv0 I H locs ls hM hl h
    rw [wl_L_strains_17] at h
    refine lv_iload hx hb dL_strains_17 (lv_at hl 4 rfl) ?_
    refine lv_bipush (v := (24 : Int32)) hx hb dL_strains_19 (by decide) ?_
    refine lv_icmp_ge (tgt := 83) hx hb dL_strains_21 (by decide) (fun hc => ?_) (fun hc => ?_)
    · replace h := h.1 hc
      refine lv_aload_n hx hb dL_strains_83 rfl (lv_at hl 0 rfl) ?_
      refine lv_iload_n hx hb dL_strains_84 rfl (lv_at hl 1 rfl) ?_
      refine lv_bipush (v := (7 : Int32)) hx hb dL_strains_85 (by decide) ?_
      refine gq_backi C hM (gq_runV (As := [.int v1, .int (7 : Int32)]) (rest := []) C hM (kX_lt hv0 (by decide)) (cX_7 hv0) rfl (c_X7_principal l L v0 hv0 v1 (7 : Int32) I _ h) k_X7_principal gw_619 rfl hl.1 rfl (Nat.le_of_ble_eq_true rfl) ⟨⟨rfl, rfl⟩, Nat.le_of_ble_eq_true rfl, Nat.le_of_ble_eq_true rfl⟩ ⟨Nat.zero_le _, Nat.zero_le _⟩ dL_strains_87) (fun r1 I1 H locs h hM => ?_)
      refine lv_istore (lv' := [(4, .int r1), (0, .ref (gx_ad L v0)), (1, .int v1), (2, .int v2), (3, .int v3)]) hx hb dL_strains_90 hl (by decide) rfl (fun ls hl => ?_)
      refine lv_iload hx hb dL_strains_92 (lv_at hl 0 rfl) ?_
      refine lv_aload_n hx hb dL_strains_94 rfl (lv_at hl 1 rfl) ?_
      refine lv_iload_n hx hb dL_strains_95 rfl (lv_at hl 2 rfl) ?_
      refine lv_iconst (v := (4 : Int32)) hx hb dL_strains_96 (by decide) ?_
      refine gq_backi C hM (gq_runV (As := [.int v1, .int (4 : Int32)]) (rest := [.int r1]) C hM (kX_lt hv0 (by decide)) (cX_7 hv0) rfl (c_X7_principal l L v0 hv0 v1 (4 : Int32) I1 _ h) k_X7_principal gw_619 rfl hl.1 rfl (Nat.le_of_ble_eq_true rfl) ⟨⟨rfl, rfl⟩, Nat.le_of_ble_eq_true rfl, Nat.le_of_ble_eq_true rfl⟩ ⟨Nat.zero_le _, Nat.zero_le _⟩ dL_strains_97) (fun r2 I2 H locs h hM => ?_)
      refine lv_aload_n hx hb dL_strains_100 rfl (lv_at hl 1 rfl) ?_
      refine lv_iload_n hx hb dL_strains_101 rfl (lv_at hl 2 rfl) ?_
      refine lv_iconst (v := (5 : Int32)) hx hb dL_strains_102 (by decide) ?_
      refine gq_backi C hM (gq_runV (As := [.int v1, .int (5 : Int32)]) (rest := [.int r2, .int r1]) C hM (kX_lt hv0 (by decide)) (cX_7 hv0) rfl (c_X7_principal l L v0 hv0 v1 (5 : Int32) I2 _ h) k_X7_principal gw_619 rfl hl.1 rfl (Nat.le_of_ble_eq_true rfl) ⟨⟨rfl, rfl⟩, Nat.le_of_ble_eq_true rfl, Nat.le_of_ble_eq_true rfl⟩ ⟨Nat.zero_le _, Nat.zero_le _⟩ dL_strains_103) (fun r3 I3 H locs h hM => ?_)
      refine lv_iadd hx hb dL_strains_106 ?_
      refine lv_iconst (v := (2 : Int32)) hx hb dL_strains_107 (by decide) ?_
      refine lv_idiv hx hb dL_strains_108 (by decide) ?_
      refine lv_icmp_ne (tgt := 155) hx hb dL_strains_109 (by decide) (fun hc => ?_) (fun hc => ?_)
      · replace h := h.2 hc
        refine lv_iconst (v := (0 : Int32)) hx hb dL_strains_155 (by decide) ?_
        exact gq_zret C hM ⟨rfl, h⟩ (rfl) dL_strains_156
      · replace h := h.1 hc
        refine lv_aload_n hx hb dL_strains_112 rfl (lv_at hl 1 rfl) ?_
        refine lv_iload_n hx hb dL_strains_113 rfl (lv_at hl 2 rfl) ?_
        refine lv_iconst (v := (3 : Int32)) hx hb dL_strains_114 (by decide) ?_
        refine gq_backi C hM (gq_runV (As := [.int v1, .int (3 : Int32)]) (rest := []) C hM (kX_lt hv0 (by decide)) (cX_7 hv0) rfl (c_X7_principal l L v0 hv0 v1 (3 : Int32) I3 _ h) k_X7_principal gw_619 rfl hl.1 rfl (Nat.le_of_ble_eq_true rfl) ⟨⟨rfl, rfl⟩, Nat.le_of_ble_eq_true rfl, Nat.le_of_ble_eq_true rfl⟩ ⟨Nat.zero_le _, Nat.zero_le _⟩ dL_strains_115) (fun r4 I4 H locs h hM => ?_)
        refine lv_iload_n hx hb dL_strains_118 rfl (lv_at hl 4 rfl) ?_
        refine lv_icmp_ne (tgt := 155) hx hb dL_strains_119 (by decide) (fun hc => ?_) (fun hc => ?_)
        · replace h := h.2 hc
          refine lv_iconst (v := (0 : Int32)) hx hb dL_strains_155 (by decide) ?_
          exact gq_zret C hM ⟨rfl, h⟩ (rfl) dL_strains_156
        · replace h := h.1 hc
          refine lv_aload_n hx hb dL_strains_122 rfl (lv_at hl 1 rfl) ?_
          refine lv_iload_n hx hb dL_strains_123 rfl (lv_at hl 2 rfl) ?_
          refine lv_iconst (v := (0 : Int32)) hx hb dL_strains_124 (by decide) ?_
          refine gq_backi C hM (gq_runV (As := [.int v1, .int (0 : Int32)]) (rest := []) C hM (kX_lt hv0 (by decide)) (cX_7 hv0) rfl (c_X7_principal l L v0 hv0 v1 (0 : Int32) I4 _ h) k_X7_principal gw_619 rfl hl.1 rfl (Nat.le_of_ble_eq_true rfl) ⟨⟨rfl, rfl⟩, Nat.le_of_ble_eq_true rfl, Nat.le_of_ble_eq_true rfl⟩ ⟨Nat.zero_le _, Nat.zero_le _⟩ dL_strains_125) (fun r5 I5 H locs h hM => ?_)
          refine lv_aload_n hx hb dL_strains_128 rfl (lv_at hl 1 rfl) ?_
          refine lv_iload_n hx hb dL_strains_129 rfl (lv_at hl 2 rfl) ?_
          refine lv_iconst (v := (1 : Int32)) hx hb dL_strains_130 (by decide) ?_
          refine gq_backi C hM (gq_runV (As := [.int v1, .int (1 : Int32)]) (rest := [.int r5]) C hM (kX_lt hv0 (by decide)) (cX_7 hv0) rfl (c_X7_principal l L v0 hv0 v1 (1 : Int32) I5 _ h) k_X7_principal gw_619 rfl hl.1 rfl (Nat.le_of_ble_eq_true rfl) ⟨⟨rfl, rfl⟩, Nat.le_of_ble_eq_true rfl, Nat.le_of_ble_eq_true rfl⟩ ⟨Nat.zero_le _, Nat.zero_le _⟩ dL_strains_131) (fun r6 I6 H locs h hM => ?_)
          refine lv_iadd hx hb dL_strains_134 ?_
          refine lv_iconst (v := (2 : Int32)) hx hb dL_strains_135 (by decide) ?_
          refine lv_iload hx hb dL_strains_136 (lv_at hl 0 rfl) ?_
          refine lv_imul hx hb dL_strains_138 ?_
          refine lv_icmp_ne (tgt := 155) hx hb dL_strains_139 (by decide) (fun hc => ?_) (fun hc => ?_)
          · replace h := h.2 hc
            refine lv_iconst (v := (0 : Int32)) hx hb dL_strains_155 (by decide) ?_
            exact gq_zret C hM ⟨rfl, h⟩ (rfl) dL_strains_156
          · replace h := h.1 hc
            refine lv_aload_n hx hb dL_strains_142 rfl (lv_at hl 1 rfl) ?_
            refine lv_iload_n hx hb dL_strains_143 rfl (lv_at hl 2 rfl) ?_
            refine lv_iconst (v := (0 : Int32)) hx hb dL_strains_144 (by decide) ?_
            refine gq_backi C hM (gq_runV (As := [.int v1, .int (0 : Int32)]) (rest := []) C hM (kX_lt hv0 (by decide)) (cX_7 hv0) rfl (c_X7_principal l L v0 hv0 v1 (0 : Int32) I6 _ h) k_X7_principal gw_619 rfl hl.1 rfl (Nat.le_of_ble_eq_true rfl) ⟨⟨rfl, rfl⟩, Nat.le_of_ble_eq_true rfl, Nat.le_of_ble_eq_true rfl⟩ ⟨Nat.zero_le _, Nat.zero_le _⟩ dL_strains_145) (fun r7 I7 H locs h hM => ?_)
            refine lv_iload hx hb dL_strains_148 (lv_at hl 0 rfl) ?_
            refine lv_iload_n hx hb dL_strains_150 rfl (lv_at hl 4 rfl) ?_
            refine lv_iadd hx hb dL_strains_151 ?_
            refine lv_icmp_eq (tgt := 157) hx hb dL_strains_152 (by decide) (fun hc => ?_) (fun hc => ?_)
            · replace h := h.1 hc
              refine lv_aload_n hx hb dL_strains_157 rfl (lv_at hl 1 rfl) ?_
              refine lv_iload_n hx hb dL_strains_158 rfl (lv_at hl 2 rfl) ?_
              refine lv_iconst (v := (1 : Int32)) hx hb dL_strains_159 (by decide) ?_
              refine gq_backi C hM (gq_runV (As := [.int v1, .int (1 : Int32)]) (rest := []) C hM (kX_lt hv0 (by decide)) (cX_7 hv0) rfl (c_X7_rosette l L v0 hv0 v1 (1 : Int32) I7 _ h) k_X7_rosette gw_588 rfl hl.1 rfl (Nat.le_of_ble_eq_true rfl) ⟨⟨rfl, rfl⟩, Nat.le_of_ble_eq_true rfl, Nat.le_of_ble_eq_true rfl⟩ ⟨Nat.zero_le _, Nat.zero_le _⟩ dL_strains_160) (fun r8 I8 H locs h hM => ?_)
              refine lv_if_ne (tgt := 170) hx hb dL_strains_163 (by decide) (fun hc => ?_) (fun hc => ?_)
              · replace h := h.2 hc
                refine lv_iconst (v := (0 : Int32)) hx hb dL_strains_170 (by decide) ?_
                exact tj_L_strains_171 C v0 v1 (0 : Int32) (hv0) I8 _ _ _ hM (lv_sub hl [1, 2] rfl) h
              · replace h := h.1 hc
                refine lv_iconst (v := (1 : Int32)) hx hb dL_strains_166 (by decide) ?_
                refine lv_goto (tgt := 171) hx hb dL_strains_167 (by decide) ?_
                exact tj_L_strains_171 C v0 v1 (1 : Int32) (hv0) I8 _ _ _ hM (lv_sub hl [1, 2] rfl) h
            · replace h := h.2 hc
              refine lv_iconst (v := (0 : Int32)) hx hb dL_strains_155 (by decide) ?_
              exact gq_zret C hM ⟨rfl, h⟩ (rfl) dL_strains_156
    · replace h := h.2 hc
      refine lv_aload_n hx hb dL_strains_24 rfl (lv_at hl 0 rfl) ?_
      refine lv_iload_n hx hb dL_strains_25 rfl (lv_at hl 1 rfl) ?_
      refine lv_iload hx hb dL_strains_26 (lv_at hl 4 rfl) ?_
      refine gq_backi C hM (gq_runV (As := [.int v1, .int v4]) (rest := []) C hM (kX_lt hv0 (by decide)) (cX_7 hv0) rfl (c_X7_pull l L v0 hv0 v1 v4 I _ h) k_X7_pull gw_641 rfl hl.1 rfl (Nat.le_of_ble_eq_true rfl) ⟨⟨rfl, rfl⟩, Nat.le_of_ble_eq_true rfl, Nat.le_of_ble_eq_true rfl⟩ ⟨Nat.zero_le _, Nat.zero_le _⟩ dL_strains_28) (fun r9 I9 H locs h hM => ?_)
      refine lv_istore (lv' := [(5, .int r9), (0, .ref (gx_ad L v0)), (1, .int v1), (2, .int v2), (3, .int v3), (4, .int v4)]) hx hb dL_strains_31 hl (by decide) rfl (fun ls hl => ?_)
      refine lv_iload hx hb dL_strains_33 (lv_at hl 0 rfl) ?_
      refine lv_iload_n hx hb dL_strains_35 rfl (lv_at hl 4 rfl) ?_
      refine lv_icmp_gt (tgt := 75) hx hb dL_strains_36 (by decide) (fun hc => ?_) (fun hc => ?_)
      · replace h := h.1 hc
        refine lv_iconst (v := (0 : Int32)) hx hb dL_strains_75 (by decide) ?_
        exact gq_zret C hM ⟨rfl, h⟩ (rfl) dL_strains_76
      · replace h := h.2 hc
        refine lv_iload hx hb dL_strains_39 (lv_at hl 0 rfl) ?_
        refine lv_aload_n hx hb dL_strains_41 rfl (lv_at hl 1 rfl) ?_
        refine lv_iload_n hx hb dL_strains_42 rfl (lv_at hl 2 rfl) ?_
        refine lv_iload hx hb dL_strains_43 (lv_at hl 5 rfl) ?_
        refine lv_bipush (v := (12 : Int32)) hx hb dL_strains_45 (by decide) ?_
        refine lv_iadd hx hb dL_strains_47 ?_
        refine lv_bipush (v := (24 : Int32)) hx hb dL_strains_48 (by decide) ?_
        refine lv_irem hx hb dL_strains_50 (by decide) ?_
        refine gq_backi C hM (gq_runV (As := [.int v1, .int ((v4 + (12 : Int32)) - (v4 + (12 : Int32)) / (24 : Int32) * (24 : Int32))]) (rest := [.int r9]) C hM (kX_lt hv0 (by decide)) (cX_7 hv0) rfl (c_X7_pull l L v0 hv0 v1 ((v4 + (12 : Int32)) - (v4 + (12 : Int32)) / (24 : Int32) * (24 : Int32)) I9 _ h) k_X7_pull gw_641 rfl hl.1 rfl (Nat.le_of_ble_eq_true rfl) ⟨⟨rfl, rfl⟩, Nat.le_of_ble_eq_true rfl, Nat.le_of_ble_eq_true rfl⟩ ⟨Nat.zero_le _, Nat.zero_le _⟩ dL_strains_51) (fun r10 I10 H locs h hM => ?_)
        refine lv_ineg hx hb dL_strains_54 ?_
        refine lv_icmp_ne (tgt := 75) hx hb dL_strains_55 (by decide) (fun hc => ?_) (fun hc => ?_)
        · replace h := h.2 hc
          refine lv_iconst (v := (0 : Int32)) hx hb dL_strains_75 (by decide) ?_
          exact gq_zret C hM ⟨rfl, h⟩ (rfl) dL_strains_76
        · replace h := h.1 hc
          refine lv_iload hx hb dL_strains_58 (lv_at hl 5 rfl) ?_
          refine lv_iload_n hx hb dL_strains_60 rfl (lv_at hl 3 rfl) ?_
          refine lv_icmp_ge (tgt := 77) hx hb dL_strains_61 (by decide) (fun hc => ?_) (fun hc => ?_)
          · replace h := h.1 hc
            exact tj_L_strains_77 C ih v0 v1 v2 v3 v4 (hv0) I10 _ _ _ hM (lv_sub hl [1, 2, 3, 4, 5] rfl) h
          · replace h := h.2 hc
            refine lv_aload_n hx hb dL_strains_64 rfl (lv_at hl 1 rfl) ?_
            refine lv_iload_n hx hb dL_strains_65 rfl (lv_at hl 2 rfl) ?_
            refine lv_iload hx hb dL_strains_66 (lv_at hl 5 rfl) ?_
            refine gq_backi C hM (gq_runV (As := [.int v1, .int v4]) (rest := []) C hM (kX_lt hv0 (by decide)) (cX_7 hv0) rfl (c_X7_pull l L v0 hv0 v1 v4 I10 _ h) k_X7_pull gw_641 rfl hl.1 rfl (Nat.le_of_ble_eq_true rfl) ⟨⟨rfl, rfl⟩, Nat.le_of_ble_eq_true rfl, Nat.le_of_ble_eq_true rfl⟩ ⟨Nat.zero_le _, Nat.zero_le _⟩ dL_strains_68) (fun r11 I11 H locs h hM => ?_)
            refine lv_iload_n hx hb dL_strains_71 rfl (lv_at hl 4 rfl) ?_
            refine lv_icmp_le (tgt := 77) hx hb dL_strains_72 (by decide) (fun hc => ?_) (fun hc => ?_)
            · replace h := h.1 hc
              exact tj_L_strains_77 C ih v0 v1 v2 v3 v4 (hv0) I11 _ _ _ hM (lv_sub hl [1, 2, 3, 4, 5] rfl) h
            · replace h := h.2 hc
              refine lv_iconst (v := (0 : Int32)) hx hb dL_strains_75 (by decide) ?_
              exact gq_zret C hM ⟨rfl, h⟩ (rfl) dL_strains_76
set_option maxHeartbeats 4000000 in
set_option maxRecDepth 100000 in
theorem c_L_strains (l : Launch) (L : gx_L) (p0 : Nat) (hp0 : kX p0 = 7) (p1 : Int32) (I : gx_M) (Q : Int32 → gx_M → Prop) (h : wp_L_strains p0 p1 I Q) : Met l yL_strains (gx_w yL_strains cL_strains 6 (some .boolean)) rm_L_strains (va_Pc [.ref (gx_ad L p0), .int p1] (gx_U L 282 (cellX L I))) (va_Qi (fun r I' => r &&& 1 = r ∧ Q r I') (fun I' t => gx_U L 282 (cellX L I') t) (gx_A L)) 0 0 (gx_A L) := by
  refine gq_enter (by decide) (Nat.le_of_ble_eq_true rfl) (fun p e s m below meth c ls C hM hl => ?_)
  have C : gx_C L 282 p s m _ meth c RL cL_strains 6 (some .boolean) := C
  have hl : lv_has ls 6 [(0, .ref (gx_ad L p0)), (1, .int p1)] := hl
  have hx := C.1
  have hb := C.2.1
  unfold wp_L_strains at h
  refine lv_aload_n hx hb dL_strains_0 rfl (lv_at hl 0 rfl) ?_
  refine lv_iload_n hx hb dL_strains_1 rfl (lv_at hl 1 rfl) ?_
  refine lv_iconst (v := (2 : Int32)) hx hb dL_strains_2 (by decide) ?_
  refine gq_backi C hM (gq_runV (As := [.int p1, .int (2 : Int32)]) (rest := []) C hM (kX_lt hp0 (by decide)) (cX_7 hp0) rfl (c_X7_principal l L p0 hp0 p1 (2 : Int32) I _ h) k_X7_principal gw_619 rfl hl.1 rfl (Nat.le_of_ble_eq_true rfl) ⟨⟨rfl, rfl⟩, Nat.le_of_ble_eq_true rfl, Nat.le_of_ble_eq_true rfl⟩ ⟨Nat.zero_le _, Nat.zero_le _⟩ dL_strains_3) (fun r1 I1 H locs h hM => ?_)
  refine lv_istore_n (lv' := [(2, .int r1), (0, .ref (gx_ad L p0)), (1, .int p1)]) hx hb dL_strains_6 rfl hl (by decide) rfl (fun ls hl => ?_)
  refine lv_aload_n hx hb dL_strains_7 rfl (lv_at hl 1 rfl) ?_
  refine lv_iload_n hx hb dL_strains_8 rfl (lv_at hl 2 rfl) ?_
  refine lv_iload_n hx hb dL_strains_9 rfl (lv_at hl 0 rfl) ?_
  refine gq_backi C hM (gq_runV (As := [.int p1, .int r1]) (rest := []) C hM (kX_lt hp0 (by decide)) (cX_7 hp0) rfl (c_X7_pull l L p0 hp0 p1 r1 I1 _ h) k_X7_pull gw_641 rfl hl.1 rfl (Nat.le_of_ble_eq_true rfl) ⟨⟨rfl, rfl⟩, Nat.le_of_ble_eq_true rfl, Nat.le_of_ble_eq_true rfl⟩ ⟨Nat.zero_le _, Nat.zero_le _⟩ dL_strains_10) (fun r2 I2 H locs h hM => ?_)
  refine lv_istore_n (lv' := [(3, .int r2), (2, .int r1), (0, .ref (gx_ad L p0)), (1, .int p1)]) hx hb dL_strains_13 rfl hl (by decide) rfl (fun ls hl => ?_)
  refine lv_iconst (v := (0 : Int32)) hx hb dL_strains_14 (by decide) ?_
  refine lv_istore (lv' := [(4, .int (0 : Int32)), (3, .int r2), (2, .int r1), (0, .ref (gx_ad L p0)), (1, .int p1)]) hx hb dL_strains_15 hl (by decide) rfl (fun ls hl => ?_)
  obtain ⟨fv, h⟩ := h
  exact tl_L_strains_17 C fv p0 p1 r1 r2 (0 : Int32) (hp0) I2 _ _ _ hM (lv_sub hl [3, 4, 2, 1, 0] rfl) h
theorem k_L_strains : gx_kS yL_strains cL_strains 6 (some .boolean) 2 := ⟨⟨gw_640, gw_21, by decide, by decide, by decide +kernel⟩, gw_639⟩
abbrev rm_L_sound : Room := { frames := 7, cells := 0, slots := 0, locals := 166 }
set_option maxHeartbeats 4000000 in
set_option maxRecDepth 100000 in
theorem tj_L_sound_72 (C : gx_C L 282 p s m args meth c RL cL_sound 5 (some .boolean)) {Q : Int32 → gx_M → Prop} : ∀ (v0 : Nat) (v1 : Int32) (v2 : Int32) (v3 : Int32) (u0 : Int32) (hv0 : kX v0 = 7) (I : gx_M) (H : Heap) (locs : List Loc) (ls : Array Slot), gx_S L 282 (cellX L I) s.heap H locs → lv_has ls 5 [(0, .ref (gx_ad L v0)), (1, .int v1), (2, .int v2), (3, .int v3)] → wj_L_sound_72 Q v0 v1 v2 v3 u0 I → W p l e rm_L_sound s m args below meth c H locs 0 0 (MQ below (va_Qi (fun r I' => r &&& 1 = r ∧ Q r I') (fun I' t => gx_U L 282 (cellX L I') t) (gx_A L)) args s 0 0 (gx_A L)) (F0 m 72 ls [.int u0]) := by
  have hx := C.1
  have hb := C.2.1
  intro v0 v1 v2 v3 u0 hv0 I H locs ls hM hl h
  unfold wj_L_sound_72 at h
  refine lv_istore (lv' := [(4, .int u0), (0, .ref (gx_ad L v0)), (1, .int v1), (2, .int v2), (3, .int v3)]) hx hb dL_sound_72 hl (by decide) rfl (fun ls hl => ?_)
  refine lv_aload_n hx hb dL_sound_74 rfl (lv_at hl 1 rfl) ?_
  refine gq_backi C hM (gq_runS (As := [.ref (gx_ad L v0)]) (rest := []) C hM (c_L_lines l L v0 hv0 I _ h) k_L_lines gw_656 rfl hl.1 rfl (Nat.le_of_ble_eq_true rfl) ⟨⟨rfl, rfl⟩, Nat.le_of_ble_eq_true rfl, Nat.le_of_ble_eq_true rfl⟩ ⟨Nat.zero_le _, Nat.zero_le _⟩ dL_sound_75) (fun r1 I1 H locs h hM => ?_)
  obtain ⟨hz1, h⟩ := h
  refine lv_if_eq (tgt := 153) hx hb dL_sound_78 (by decide) (fun hc => ?_) (fun hc => ?_)
  · replace h := h.1 hc
    refine lv_iconst (v := (0 : Int32)) hx hb dL_sound_153 (by decide) ?_
    exact gq_zret C hM ⟨rfl, h⟩ (rfl) dL_sound_154
  · replace h := h.2 hc
    refine lv_aload_n hx hb dL_sound_81 rfl (lv_at hl 1 rfl) ?_
    refine lv_iload_n hx hb dL_sound_82 rfl (lv_at hl 3 rfl) ?_
    refine gq_backi C hM (gq_runS (As := [.ref (gx_ad L v0), .int v2]) (rest := []) C hM (c_L_rail l L v0 hv0 v2 I1 _ h) k_L_rail gw_660 rfl hl.1 rfl (Nat.le_of_ble_eq_true rfl) ⟨⟨rfl, rfl⟩, Nat.le_of_ble_eq_true rfl, Nat.le_of_ble_eq_true rfl⟩ ⟨Nat.zero_le _, Nat.zero_le _⟩ dL_sound_83) (fun r2 I2 H locs h hM => ?_)
    obtain ⟨hz2, h⟩ := h
    refine lv_if_eq (tgt := 153) hx hb dL_sound_86 (by decide) (fun hc => ?_) (fun hc => ?_)
    · replace h := h.1 hc
      refine lv_iconst (v := (0 : Int32)) hx hb dL_sound_153 (by decide) ?_
      exact gq_zret C hM ⟨rfl, h⟩ (rfl) dL_sound_154
    · replace h := h.2 hc
      refine lv_iload_n hx hb dL_sound_89 rfl (lv_at hl 4 rfl) ?_
      refine lv_aload_n hx hb dL_sound_90 rfl (lv_at hl 1 rfl) ?_
      refine lv_iconst (v := (1 : Int32)) hx hb dL_sound_91 (by decide) ?_
      refine gq_backi C hM (gq_runV (As := [.int (1 : Int32)]) (rest := [.int v3]) C hM (kX_lt hv0 (by decide)) (cX_7 hv0) rfl (c_X7_count l L v0 hv0 (1 : Int32) I2 _ h) k_X7_count gw_601 rfl hl.1 rfl (Nat.le_of_ble_eq_true rfl) ⟨⟨rfl, rfl⟩, Nat.le_of_ble_eq_true rfl, Nat.le_of_ble_eq_true rfl⟩ ⟨Nat.zero_le _, Nat.zero_le _⟩ dL_sound_92) (fun r3 I3 H locs h hM => ?_)
      refine lv_icmp_ne (tgt := 153) hx hb dL_sound_95 (by decide) (fun hc => ?_) (fun hc => ?_)
      · replace h := h.2 hc
        refine lv_iconst (v := (0 : Int32)) hx hb dL_sound_153 (by decide) ?_
        exact gq_zret C hM ⟨rfl, h⟩ (rfl) dL_sound_154
      · replace h := h.1 hc
        refine lv_aload_n hx hb dL_sound_98 rfl (lv_at hl 1 rfl) ?_
        refine lv_iconst (v := (2 : Int32)) hx hb dL_sound_99 (by decide) ?_
        refine gq_backi C hM (gq_runV (As := [.int (2 : Int32)]) (rest := []) C hM (kX_lt hv0 (by decide)) (cX_7 hv0) rfl (c_X7_count l L v0 hv0 (2 : Int32) I3 _ h) k_X7_count gw_601 rfl hl.1 rfl (Nat.le_of_ble_eq_true rfl) ⟨⟨rfl, rfl⟩, Nat.le_of_ble_eq_true rfl, Nat.le_of_ble_eq_true rfl⟩ ⟨Nat.zero_le _, Nat.zero_le _⟩ dL_sound_100) (fun r4 I4 H locs h hM => ?_)
        refine lv_iload_n hx hb dL_sound_103 rfl (lv_at hl 4 rfl) ?_
        refine lv_aload_n hx hb dL_sound_104 rfl (lv_at hl 1 rfl) ?_
        refine lv_iconst (v := (3 : Int32)) hx hb dL_sound_105 (by decide) ?_
        refine gq_backi C hM (gq_runV (As := [.int (3 : Int32)]) (rest := [.int v3, .int r4]) C hM (kX_lt hv0 (by decide)) (cX_7 hv0) rfl (c_X7_count l L v0 hv0 (3 : Int32) I4 _ h) k_X7_count gw_601 rfl hl.1 rfl (Nat.le_of_ble_eq_true rfl) ⟨⟨rfl, rfl⟩, Nat.le_of_ble_eq_true rfl, Nat.le_of_ble_eq_true rfl⟩ ⟨Nat.zero_le _, Nat.zero_le _⟩ dL_sound_106) (fun r5 I5 H locs h hM => ?_)
        refine lv_iadd hx hb dL_sound_109 ?_
        refine lv_iload_n hx hb dL_sound_110 rfl (lv_at hl 2 rfl) ?_
        refine lv_iadd hx hb dL_sound_111 ?_
        refine lv_icmp_ne (tgt := 153) hx hb dL_sound_112 (by decide) (fun hc => ?_) (fun hc => ?_)
        · replace h := h.2 hc
          refine lv_iconst (v := (0 : Int32)) hx hb dL_sound_153 (by decide) ?_
          exact gq_zret C hM ⟨rfl, h⟩ (rfl) dL_sound_154
        · replace h := h.1 hc
          refine lv_aload_n hx hb dL_sound_115 rfl (lv_at hl 1 rfl) ?_
          refine lv_bipush (v := (8 : Int32)) hx hb dL_sound_116 (by decide) ?_
          refine gq_backi C hM (gq_runV (As := [.int (8 : Int32)]) (rest := []) C hM (kX_lt hv0 (by decide)) (cX_7 hv0) rfl (c_X7_count l L v0 hv0 (8 : Int32) I5 _ h) k_X7_count gw_601 rfl hl.1 rfl (Nat.le_of_ble_eq_true rfl) ⟨⟨rfl, rfl⟩, Nat.le_of_ble_eq_true rfl, Nat.le_of_ble_eq_true rfl⟩ ⟨Nat.zero_le _, Nat.zero_le _⟩ dL_sound_118) (fun r6 I6 H locs h hM => ?_)
          refine lv_iload hx hb dL_sound_121 (lv_at hl 0 rfl) ?_
          refine lv_icmp_ne (tgt := 153) hx hb dL_sound_123 (by decide) (fun hc => ?_) (fun hc => ?_)
          · replace h := h.2 hc
            refine lv_iconst (v := (0 : Int32)) hx hb dL_sound_153 (by decide) ?_
            exact gq_zret C hM ⟨rfl, h⟩ (rfl) dL_sound_154
          · replace h := h.1 hc
            refine lv_aload_n hx hb dL_sound_126 rfl (lv_at hl 1 rfl) ?_
            refine lv_iload hx hb dL_sound_127 (lv_at hl 0 rfl) ?_
            refine lv_iconst (v := (0 : Int32)) hx hb dL_sound_129 (by decide) ?_
            refine gq_backi C hM (gq_runV (As := [.int u0, .int (0 : Int32)]) (rest := []) C hM (kX_lt hv0 (by decide)) (cX_7 hv0) rfl (c_X7_record l L v0 hv0 u0 (0 : Int32) I6 _ h) k_X7_record gw_630 rfl hl.1 rfl (Nat.le_of_ble_eq_true rfl) ⟨⟨rfl, rfl⟩, Nat.le_of_ble_eq_true rfl, Nat.le_of_ble_eq_true rfl⟩ ⟨Nat.zero_le _, Nat.zero_le _⟩ dL_sound_130) (fun r7 I7 H locs h hM => ?_)
            refine gq_ldc (v := (-1000004 : Int32)) C gw_659 dL_sound_133 ?_
            refine lv_icmp_ne (tgt := 153) hx hb dL_sound_135 (by decide) (fun hc => ?_) (fun hc => ?_)
            · replace h := h.2 hc
              refine lv_iconst (v := (0 : Int32)) hx hb dL_sound_153 (by decide) ?_
              exact gq_zret C hM ⟨rfl, h⟩ (rfl) dL_sound_154
            · replace h := h.1 hc
              refine lv_aload_n hx hb dL_sound_138 rfl (lv_at hl 1 rfl) ?_
              refine lv_bipush (v := (12 : Int32)) hx hb dL_sound_139 (by decide) ?_
              refine gq_backi C hM (gq_runV (As := [.int (12 : Int32)]) (rest := []) C hM (kX_lt hv0 (by decide)) (cX_7 hv0) rfl (c_X7_count l L v0 hv0 (12 : Int32) I7 _ h) k_X7_count gw_601 rfl hl.1 rfl (Nat.le_of_ble_eq_true rfl) ⟨⟨rfl, rfl⟩, Nat.le_of_ble_eq_true rfl, Nat.le_of_ble_eq_true rfl⟩ ⟨Nat.zero_le _, Nat.zero_le _⟩ dL_sound_141) (fun r8 I8 H locs h hM => ?_)
              refine gq_ldc (v := (-1000002 : Int32)) C gw_647 dL_sound_144 ?_
              refine lv_icmp_ne (tgt := 153) hx hb dL_sound_146 (by decide) (fun hc => ?_) (fun hc => ?_)
              · replace h := h.2 hc
                refine lv_iconst (v := (0 : Int32)) hx hb dL_sound_153 (by decide) ?_
                exact gq_zret C hM ⟨rfl, h⟩ (rfl) dL_sound_154
              · replace h := h.1 hc
                refine lv_iconst (v := (1 : Int32)) hx hb dL_sound_149 (by decide) ?_
                refine lv_goto (tgt := 154) hx hb dL_sound_150 (by decide) ?_
                exact gq_zret C hM ⟨rfl, h⟩ (rfl) dL_sound_154
set_option maxHeartbeats 4000000 in
set_option maxRecDepth 100000 in
theorem tl_L_sound_5 (C : gx_C L 282 p s m args meth c RL cL_sound 5 (some .boolean)) {Q : Int32 → gx_M → Prop} : ∀ (fu : Nat) (v0 : Nat) (v1 : Int32) (v2 : Int32) (v3 : Int32) (v4 : Int32) (hv0 : kX v0 = 7) (I : gx_M) (H : Heap) (locs : List Loc) (ls : Array Slot), gx_S L 282 (cellX L I) s.heap H locs → lv_has ls 5 [(0, .ref (gx_ad L v0)), (1, .int v1), (2, .int v2), (3, .int v3), (4, .int v4)] → wl_L_sound_5 Q fu v0 v1 v2 v3 v4 I → W p l e rm_L_sound s m args below meth c H locs 0 0 (MQ below (va_Qi (fun r I' => r &&& 1 = r ∧ Q r I') (fun I' t => gx_U L 282 (cellX L I') t) (gx_A L)) args s 0 0 (gx_A L)) (F0 m 5 ls []) := by
  have hx := C.1
  have hb := C.2.1
  intro fu
  induction fu with
  | zero => intros; rename_i h; exact False.elim h
  | succ fu ih =>
    intro v0 v1 v2 v3 v4 hv0 I H locs ls hM hl h
    rw [wl_L_sound_5] at h
    refine lv_iload hx hb dL_sound_5 (lv_at hl 4 rfl) ?_
    refine lv_aload_n hx hb dL_sound_7 rfl (lv_at hl 0 rfl) ?_
    refine lv_iconst (v := (0 : Int32)) hx hb dL_sound_8 (by decide) ?_
    refine gq_backi C hM (gq_runV (As := [.int (0 : Int32)]) (rest := [.int v4]) C hM (kX_lt hv0 (by decide)) (cX_7 hv0) rfl (c_X7_count l L v0 hv0 (0 : Int32) I _ h) k_X7_count gw_601 rfl hl.1 rfl (Nat.le_of_ble_eq_true rfl) ⟨⟨rfl, rfl⟩, Nat.le_of_ble_eq_true rfl, Nat.le_of_ble_eq_true rfl⟩ ⟨Nat.zero_le _, Nat.zero_le _⟩ dL_sound_9) (fun r1 I1 H locs h hM => ?_)
    refine lv_icmp_ge (tgt := 52) hx hb dL_sound_12 (by decide) (fun hc => ?_) (fun hc => ?_)
    · replace h := h.1 hc
      refine lv_aload_n hx hb dL_sound_52 rfl (lv_at hl 0 rfl) ?_
      refine lv_iconst (v := (3 : Int32)) hx hb dL_sound_53 (by decide) ?_
      refine gq_backi C hM (gq_runV (As := [.int (3 : Int32)]) (rest := []) C hM (kX_lt hv0 (by decide)) (cX_7 hv0) rfl (c_X7_count l L v0 hv0 (3 : Int32) I1 _ h) k_X7_count gw_601 rfl hl.1 rfl (Nat.le_of_ble_eq_true rfl) ⟨⟨rfl, rfl⟩, Nat.le_of_ble_eq_true rfl, Nat.le_of_ble_eq_true rfl⟩ ⟨Nat.zero_le _, Nat.zero_le _⟩ dL_sound_54) (fun r2 I2 H locs h hM => ?_)
      refine lv_bipush (v := (12 : Int32)) hx hb dL_sound_57 (by decide) ?_
      refine lv_icmp_ge (tgt := 70) hx hb dL_sound_59 (by decide) (fun hc => ?_) (fun hc => ?_)
      · replace h := h.1 hc
        refine lv_bipush (v := (12 : Int32)) hx hb dL_sound_70 (by decide) ?_
        exact tj_L_sound_72 C v0 v1 v2 v3 (12 : Int32) (hv0) I2 _ _ _ hM (lv_sub hl [0, 1, 2, 3] rfl) h
      · replace h := h.2 hc
        refine lv_aload_n hx hb dL_sound_62 rfl (lv_at hl 0 rfl) ?_
        refine lv_iconst (v := (3 : Int32)) hx hb dL_sound_63 (by decide) ?_
        refine gq_backi C hM (gq_runV (As := [.int (3 : Int32)]) (rest := []) C hM (kX_lt hv0 (by decide)) (cX_7 hv0) rfl (c_X7_count l L v0 hv0 (3 : Int32) I2 _ h) k_X7_count gw_601 rfl hl.1 rfl (Nat.le_of_ble_eq_true rfl) ⟨⟨rfl, rfl⟩, Nat.le_of_ble_eq_true rfl, Nat.le_of_ble_eq_true rfl⟩ ⟨Nat.zero_le _, Nat.zero_le _⟩ dL_sound_64) (fun r3 I3 H locs h hM => ?_)
        refine lv_goto (tgt := 72) hx hb dL_sound_67 (by decide) ?_
        exact tj_L_sound_72 C v0 v1 v2 v3 r3 (hv0) I3 _ _ _ hM (lv_sub hl [0, 1, 2, 3] rfl) h
    · replace h := h.2 hc
      refine lv_iload_n hx hb dL_sound_15 rfl (lv_at hl 3 rfl) ?_
      refine lv_aload_n hx hb dL_sound_16 rfl (lv_at hl 0 rfl) ?_
      refine lv_iload hx hb dL_sound_17 (lv_at hl 4 rfl) ?_
      refine lv_bipush (v := (11 : Int32)) hx hb dL_sound_19 (by decide) ?_
      refine gq_backi C hM (gq_runV (As := [.int v4, .int (11 : Int32)]) (rest := [.int v3]) C hM (kX_lt hv0 (by decide)) (cX_7 hv0) rfl (c_X7_rosette l L v0 hv0 v4 (11 : Int32) I1 _ h) k_X7_rosette gw_588 rfl hl.1 rfl (Nat.le_of_ble_eq_true rfl) ⟨⟨rfl, rfl⟩, Nat.le_of_ble_eq_true rfl, Nat.le_of_ble_eq_true rfl⟩ ⟨Nat.zero_le _, Nat.zero_le _⟩ dL_sound_21) (fun r4 I4 H locs h hM => ?_)
      refine lv_iadd hx hb dL_sound_24 ?_
      refine lv_topi (fun x1 ex1 => ?_)
      replace h := h x1 ex1
      refine lv_istore_n (lv' := [(3, .int x1), (0, .ref (gx_ad L v0)), (1, .int v1), (2, .int v2), (4, .int v4)]) hx hb dL_sound_25 rfl hl (by decide) rfl (fun ls hl => ?_)
      refine lv_aload_n hx hb dL_sound_26 rfl (lv_at hl 1 rfl) ?_
      refine lv_iload hx hb dL_sound_27 (lv_at hl 4 rfl) ?_
      refine gq_backi C hM (gq_runS (As := [.ref (gx_ad L v0), .int v4]) (rest := []) C hM (c_L_strains l L v0 hv0 v4 I4 _ h) k_L_strains gw_638 rfl hl.1 rfl (Nat.le_of_ble_eq_true rfl) ⟨⟨rfl, rfl⟩, Nat.le_of_ble_eq_true rfl, Nat.le_of_ble_eq_true rfl⟩ ⟨Nat.zero_le _, Nat.zero_le _⟩ dL_sound_29) (fun r5 I5 H locs h hM => ?_)
      obtain ⟨hz1, h⟩ := h
      refine lv_if_eq (tgt := 44) hx hb dL_sound_32 (by decide) (fun hc => ?_) (fun hc => ?_)
      · replace h := h.1 hc
        refine lv_iconst (v := (0 : Int32)) hx hb dL_sound_44 (by decide) ?_
        exact gq_zret C hM ⟨rfl, h⟩ (rfl) dL_sound_45
      · replace h := h.2 hc
        refine lv_aload_n hx hb dL_sound_35 rfl (lv_at hl 1 rfl) ?_
        refine lv_iload hx hb dL_sound_36 (lv_at hl 4 rfl) ?_
        refine gq_backi C hM (gq_runS (As := [.ref (gx_ad L v0), .int v4]) (rest := []) C hM (c_L_gauges l L v0 hv0 v4 I5 _ h) k_L_gauges gw_648 rfl hl.1 rfl (Nat.le_of_ble_eq_true rfl) ⟨⟨rfl, rfl⟩, Nat.le_of_ble_eq_true rfl, Nat.le_of_ble_eq_true rfl⟩ ⟨Nat.zero_le _, Nat.zero_le _⟩ dL_sound_38) (fun r6 I6 H locs h hM => ?_)
        obtain ⟨hz2, h⟩ := h
        refine lv_if_ne (tgt := 46) hx hb dL_sound_41 (by decide) (fun hc => ?_) (fun hc => ?_)
        · replace h := h.2 hc
          obtain ⟨x2, ex2⟩ : ∃ z : Int32, z = v4 + (1 : Int32) := ⟨_, rfl⟩
          replace h := h x2 ex2
          refine lv_iinc (v := x2) (lv' := [(4, .int x2), (3, .int x1), (0, .ref (gx_ad L v0)), (1, .int v1), (2, .int v2)]) hx hb dL_sound_46 hl (k := 4) rfl (by rw [ex2]; rfl) (by decide) rfl (fun ls hl => ?_)
          refine lv_goto (tgt := 5) hx hb dL_sound_49 (by decide) ?_
          exact ih v0 v1 v2 x1 x2 (hv0) I6 _ _ _ hM (lv_sub hl [2, 3, 4, 1, 0] rfl) h
        · replace h := h.1 hc
          refine lv_iconst (v := (0 : Int32)) hx hb dL_sound_44 (by decide) ?_
          exact gq_zret C hM ⟨rfl, h⟩ (rfl) dL_sound_45
set_option maxHeartbeats 4000000 in
set_option maxRecDepth 100000 in
theorem c_L_sound (l : Launch) (L : gx_L) (p0 : Nat) (hp0 : kX p0 = 7) (p1 : Int32) (p2 : Int32) (I : gx_M) (Q : Int32 → gx_M → Prop) (h : wp_L_sound p0 p1 p2 I Q) : Met l yL_sound (gx_w yL_sound cL_sound 5 (some .boolean)) rm_L_sound (va_Pc [.ref (gx_ad L p0), .int p1, .int p2] (gx_U L 282 (cellX L I))) (va_Qi (fun r I' => r &&& 1 = r ∧ Q r I') (fun I' t => gx_U L 282 (cellX L I') t) (gx_A L)) 0 0 (gx_A L) := by
  refine gq_enter (by decide) (Nat.le_of_ble_eq_true rfl) (fun p e s m below meth c ls C hM hl => ?_)
  have C : gx_C L 282 p s m _ meth c RL cL_sound 5 (some .boolean) := C
  have hl : lv_has ls 5 [(0, .ref (gx_ad L p0)), (1, .int p1), (2, .int p2)] := hl
  have hx := C.1
  have hb := C.2.1
  unfold wp_L_sound at h
  refine lv_iconst (v := (0 : Int32)) hx hb dL_sound_0 (by decide) ?_
  refine lv_istore_n (lv' := [(3, .int (0 : Int32)), (0, .ref (gx_ad L p0)), (1, .int p1), (2, .int p2)]) hx hb dL_sound_1 rfl hl (by decide) rfl (fun ls hl => ?_)
  refine lv_iconst (v := (0 : Int32)) hx hb dL_sound_2 (by decide) ?_
  refine lv_istore (lv' := [(4, .int (0 : Int32)), (3, .int (0 : Int32)), (0, .ref (gx_ad L p0)), (1, .int p1), (2, .int p2)]) hx hb dL_sound_3 hl (by decide) rfl (fun ls hl => ?_)
  obtain ⟨fv, h⟩ := h
  exact tl_L_sound_5 C fv p0 p1 p2 (0 : Int32) (0 : Int32) (hp0) I _ _ _ hM (lv_sub hl [2, 3, 4, 1, 0] rfl) h
theorem k_L_sound : gx_kS yL_sound cL_sound 5 (some .boolean) 3 := ⟨⟨gw_637, gw_21, by decide, by decide, by decide +kernel⟩, gw_636⟩
end
