section
variable {p : Program} {l : Launch} {e : Env} {s : State} {m : MethodId} {args : Array Value} {below : List Frame} {meth : Method} {c : Code} {L : gx_L}
abbrev rm_L_gauges : Room := { frames := 6, cells := 0, slots := 0, locals := 134 }
set_option maxHeartbeats 4000000 in
set_option maxRecDepth 100000 in
theorem tj_L_gauges_226 (C : gx_C L 282 p s m args meth c RL cL_gauges 13 (some .boolean)) {Q : Int32 → gx_M → Prop} {K79 : Nat → Int32 → Int32 → Int32 → Int32 → gx_M → Prop} (hK79 : ∀ (v0 : Nat) (v1 : Int32) (v5 : Int32) (v6 : Int32) (v7 : Int32) (hv0 : kX v0 = 7) (I : gx_M) (H : Heap) (locs : List Loc) (ls : Array Slot), gx_S L 282 (cellX L I) s.heap H locs → lv_has ls 13 [(0, .ref (gx_ad L v0)), (1, .int v1), (5, .int v5), (6, .int v6), (7, .int v7)] → K79 v0 v1 v5 v6 v7 I → W p l e rm_L_gauges s m args below meth c H locs 0 0 (MQ below (va_Qi (fun r I' => r &&& 1 = r ∧ Q r I') (fun I' t => gx_U L 282 (cellX L I') t) (gx_A L)) args s 0 0 (gx_A L)) (F0 m 79 ls [])) : ∀ (v0 : Nat) (v1 : Int32) (v5 : Int32) (v6 : Int32) (v7 : Int32) (v9 : Int32) (hv0 : kX v0 = 7) (I : gx_M) (H : Heap) (locs : List Loc) (ls : Array Slot), gx_S L 282 (cellX L I) s.heap H locs → lv_has ls 13 [(0, .ref (gx_ad L v0)), (1, .int v1), (5, .int v5), (6, .int v6), (7, .int v7), (9, .int v9)] → wj_L_gauges_226 Q K79 v0 v1 v5 v6 v7 v9 I → W p l e rm_L_gauges s m args below meth c H locs 0 0 (MQ below (va_Qi (fun r I' => r &&& 1 = r ∧ Q r I') (fun I' t => gx_U L 282 (cellX L I') t) (gx_A L)) args s 0 0 (gx_A L)) (F0 m 226 ls []) := by
  have hx := C.1
  have hb := C.2.1
  intro v0 v1 v5 v6 v7 v9 hv0 I H locs ls hM hl h
  unfold wj_L_gauges_226 at h
  refine lv_iload hx hb dL_gauges_226 (lv_at hl 5 rfl) ?_
  refine lv_i2l hx hb dL_gauges_228 rfl ?_
  refine lv_aload_n hx hb dL_gauges_229 rfl (lv_at hl 0 rfl) ?_
  refine lv_iload_n hx hb dL_gauges_230 rfl (lv_at hl 1 rfl) ?_
  refine lv_iload hx hb dL_gauges_231 (lv_at hl 4 rfl) ?_
  refine lv_iconst (v := (5 : Int32)) hx hb dL_gauges_233 (by decide) ?_
  refine gq_backi C hM (gq_runV (As := [.int v1, .int v7, .int (5 : Int32)]) (rest := [.long (Int32.toInt64 v9)]) C hM (kX_lt hv0 (by decide)) (cX_7 hv0) rfl (c_X7_gauge l L v0 hv0 v1 v7 (5 : Int32) I _ h) k_X7_gauge gw_592 rfl hl.1 rfl (Nat.le_of_ble_eq_true rfl) ⟨⟨rfl, rfl⟩, Nat.le_of_ble_eq_true rfl, Nat.le_of_ble_eq_true rfl⟩ ⟨Nat.zero_le _, Nat.zero_le _⟩ dL_gauges_234) (fun r1 I1 H locs h hM => ?_)
  refine lv_i2l hx hb dL_gauges_237 rfl ?_
  refine lv_lmul hx hb dL_gauges_238 ?_
  refine gq_ldc2 (v := (1000 : Int64)) C gw_623 dL_gauges_239 ?_
  refine lv_ldiv hx hb dL_gauges_242 (by decide) ?_
  refine lv_topl (fun x1 ex1 => ?_)
  replace h := h x1 ex1
  refine lv_lstore (lv' := [(11, .long x1), (0, .ref (gx_ad L v0)), (1, .int v1), (5, .int v5), (6, .int v6), (7, .int v7), (9, .int v9)]) hx hb dL_gauges_243 hl (by decide) rfl (fun ls hl => ?_)
  refine lv_aload_n hx hb dL_gauges_245 rfl (lv_at hl 1 rfl) ?_
  refine lv_iload_n hx hb dL_gauges_246 rfl (lv_at hl 2 rfl) ?_
  refine lv_iload hx hb dL_gauges_247 (lv_at hl 5 rfl) ?_
  refine lv_bipush (v := (6 : Int32)) hx hb dL_gauges_249 (by decide) ?_
  refine gq_backi C hM (gq_runV (As := [.int v1, .int v7, .int (6 : Int32)]) (rest := []) C hM (kX_lt hv0 (by decide)) (cX_7 hv0) rfl (c_X7_gauge l L v0 hv0 v1 v7 (6 : Int32) I1 _ h) k_X7_gauge gw_592 rfl hl.1 rfl (Nat.le_of_ble_eq_true rfl) ⟨⟨rfl, rfl⟩, Nat.le_of_ble_eq_true rfl, Nat.le_of_ble_eq_true rfl⟩ ⟨Nat.zero_le _, Nat.zero_le _⟩ dL_gauges_251) (fun r2 I2 H locs h hM => ?_)
  refine lv_i2l hx hb dL_gauges_254 rfl ?_
  refine lv_lload hx hb dL_gauges_255 (lv_at hl 0 rfl) ?_
  refine gq_ldc2 (v := (100 : Int64)) C gw_628 dL_gauges_257 ?_
  refine lv_lmul hx hb dL_gauges_260 ?_
  refine lv_aload_n hx hb dL_gauges_261 rfl (lv_at hl 1 rfl) ?_
  refine lv_iload_n hx hb dL_gauges_262 rfl (lv_at hl 2 rfl) ?_
  refine lv_iconst (v := (3 : Int32)) hx hb dL_gauges_263 (by decide) ?_
  refine gq_backi C hM (gq_runV (As := [.int v1, .int (3 : Int32)]) (rest := [.long (x1 * (100 : Int64)), .long (Int32.toInt64 r2)]) C hM (kX_lt hv0 (by decide)) (cX_7 hv0) rfl (c_X7_rosette l L v0 hv0 v1 (3 : Int32) I2 _ h) k_X7_rosette gw_588 rfl hl.1 rfl (Nat.le_of_ble_eq_true rfl) ⟨⟨rfl, rfl⟩, Nat.le_of_ble_eq_true rfl, Nat.le_of_ble_eq_true rfl⟩ ⟨Nat.zero_le _, Nat.zero_le _⟩ dL_gauges_264) (fun r3 I3 H locs h hM => ?_)
  refine lv_i2l hx hb dL_gauges_267 rfl ?_
  refine lv_ldiv hx hb dL_gauges_268 h.1 ?_
  replace h := h.2
  refine W.lcmp hx hb dL_gauges_269 ?_
  refine lv_if_ne (tgt := 290) hx hb dL_gauges_270 (by decide) (fun hc => ?_) (fun hc => ?_)
  · replace h := h.2 hc
    refine lv_iconst (v := (0 : Int32)) hx hb dL_gauges_290 (by decide) ?_
    exact gq_zret C hM ⟨rfl, h⟩ (rfl) dL_gauges_291
  · replace h := h.1 hc
    refine lv_aload_n hx hb dL_gauges_273 rfl (lv_at hl 1 rfl) ?_
    refine lv_iload_n hx hb dL_gauges_274 rfl (lv_at hl 2 rfl) ?_
    refine lv_iload hx hb dL_gauges_275 (lv_at hl 5 rfl) ?_
    refine lv_iconst (v := (4 : Int32)) hx hb dL_gauges_277 (by decide) ?_
    refine gq_backi C hM (gq_runV (As := [.int v1, .int v7, .int (4 : Int32)]) (rest := []) C hM (kX_lt hv0 (by decide)) (cX_7 hv0) rfl (c_X7_gauge l L v0 hv0 v1 v7 (4 : Int32) I3 _ h) k_X7_gauge gw_592 rfl hl.1 rfl (Nat.le_of_ble_eq_true rfl) ⟨⟨rfl, rfl⟩, Nat.le_of_ble_eq_true rfl, Nat.le_of_ble_eq_true rfl⟩ ⟨Nat.zero_le _, Nat.zero_le _⟩ dL_gauges_278) (fun r4 I4 H locs h hM => ?_)
    refine gq_backi C hM (gq_runS (As := [.int r4]) (rest := []) C hM (c_L_size l L r4 I4 _ h) k_L_size gw_652 rfl hl.1 rfl (Nat.le_of_ble_eq_true rfl) ⟨⟨rfl, rfl⟩, Nat.le_of_ble_eq_true rfl, Nat.le_of_ble_eq_true rfl⟩ ⟨Nat.zero_le _, Nat.zero_le _⟩ dL_gauges_281) (fun r5 I5 H locs h hM => ?_)
    refine lv_sipush (v := (15000 : Int32)) hx hb dL_gauges_284 (by decide) ?_
    refine lv_icmp_le (tgt := 292) hx hb dL_gauges_287 (by decide) (fun hc => ?_) (fun hc => ?_)
    · replace h := h.1 hc
      obtain ⟨x2, ex2⟩ : ∃ z : Int32, z = v7 + (1 : Int32) := ⟨_, rfl⟩
      replace h := h x2 ex2
      refine lv_iinc (v := x2) (lv' := [(7, .int x2), (11, .long x1), (0, .ref (gx_ad L v0)), (1, .int v1), (5, .int v5), (6, .int v6), (9, .int v9)]) hx hb dL_gauges_292 hl (k := 5) rfl (by rw [ex2]; rfl) (by decide) rfl (fun ls hl => ?_)
      refine lv_goto (tgt := 79) hx hb dL_gauges_295 (by decide) ?_
      exact hK79 v0 v1 v5 v6 x2 (hv0) I5 _ _ _ hM (lv_sub hl [2, 3, 4, 5, 0] rfl) h
    · replace h := h.2 hc
      refine lv_iconst (v := (0 : Int32)) hx hb dL_gauges_290 (by decide) ?_
      exact gq_zret C hM ⟨rfl, h⟩ (rfl) dL_gauges_291
set_option maxHeartbeats 4000000 in
set_option maxRecDepth 100000 in
theorem tj_L_gauges_180 (C : gx_C L 282 p s m args meth c RL cL_gauges 13 (some .boolean)) {Q : Int32 → gx_M → Prop} {K79 : Nat → Int32 → Int32 → Int32 → Int32 → gx_M → Prop} (hK79 : ∀ (v0 : Nat) (v1 : Int32) (v5 : Int32) (v6 : Int32) (v7 : Int32) (hv0 : kX v0 = 7) (I : gx_M) (H : Heap) (locs : List Loc) (ls : Array Slot), gx_S L 282 (cellX L I) s.heap H locs → lv_has ls 13 [(0, .ref (gx_ad L v0)), (1, .int v1), (5, .int v5), (6, .int v6), (7, .int v7)] → K79 v0 v1 v5 v6 v7 I → W p l e rm_L_gauges s m args below meth c H locs 0 0 (MQ below (va_Qi (fun r I' => r &&& 1 = r ∧ Q r I') (fun I' t => gx_U L 282 (cellX L I') t) (gx_A L)) args s 0 0 (gx_A L)) (F0 m 79 ls [])) : ∀ (v0 : Nat) (v1 : Int32) (v5 : Int32) (v6 : Int32) (v7 : Int32) (v9 : Int32) (v10 : Int32) (u0 : Int32) (u1 : Int32) (hv0 : kX v0 = 7) (I : gx_M) (H : Heap) (locs : List Loc) (ls : Array Slot), gx_S L 282 (cellX L I) s.heap H locs → lv_has ls 13 [(0, .ref (gx_ad L v0)), (1, .int v1), (5, .int v5), (6, .int v6), (7, .int v7), (9, .int v9), (10, .int v10)] → wj_L_gauges_180 Q K79 v0 v1 v5 v6 v7 v9 v10 u0 u1 I → W p l e rm_L_gauges s m args below meth c H locs 0 0 (MQ below (va_Qi (fun r I' => r &&& 1 = r ∧ Q r I') (fun I' t => gx_U L 282 (cellX L I') t) (gx_A L)) args s 0 0 (gx_A L)) (F0 m 180 ls [.int u0, .int u1]) := by
  have hx := C.1
  have hb := C.2.1
  intro v0 v1 v5 v6 v7 v9 v10 u0 u1 hv0 I H locs ls hM hl h
  unfold wj_L_gauges_180 at h
  refine lv_icmp_eq (tgt := 185) hx hb dL_gauges_180 (by decide) (fun hc => ?_) (fun hc => ?_)
  · replace h := h.1 hc
    refine lv_iload hx hb dL_gauges_185 (lv_at hl 6 rfl) ?_
    refine gq_backi C hM (gq_runS (As := [.int v10]) (rest := []) C hM (c_L_size l L v10 I _ h) k_L_size gw_652 rfl hl.1 rfl (Nat.le_of_ble_eq_true rfl) ⟨⟨rfl, rfl⟩, Nat.le_of_ble_eq_true rfl, Nat.le_of_ble_eq_true rfl⟩ ⟨Nat.zero_le _, Nat.zero_le _⟩ dL_gauges_187) (fun r1 I1 H locs h hM => ?_)
    refine lv_sipush (v := (30000 : Int32)) hx hb dL_gauges_190 (by decide) ?_
    refine lv_icmp_gt (tgt := 226) hx hb dL_gauges_193 (by decide) (fun hc => ?_) (fun hc => ?_)
    · replace h := h.1 hc
      exact tj_L_gauges_226 C hK79 v0 v1 v5 v6 v7 v9 (hv0) I1 _ _ _ hM (lv_sub hl [0, 1, 2, 3, 4, 5] rfl) h
    · replace h := h.2 hc
      refine lv_iload hx hb dL_gauges_196 (lv_at hl 6 rfl) ?_
      refine lv_iload hx hb dL_gauges_198 (lv_at hl 2 rfl) ?_
      refine lv_iadd hx hb dL_gauges_200 ?_
      refine gq_backi C hM (gq_runS (As := [.int (v10 + v5)]) (rest := []) C hM (c_L_size l L (v10 + v5) I1 _ h) k_L_size gw_652 rfl hl.1 rfl (Nat.le_of_ble_eq_true rfl) ⟨⟨rfl, rfl⟩, Nat.le_of_ble_eq_true rfl, Nat.le_of_ble_eq_true rfl⟩ ⟨Nat.zero_le _, Nat.zero_le _⟩ dL_gauges_201) (fun r2 I2 H locs h hM => ?_)
      refine lv_sipush (v := (30000 : Int32)) hx hb dL_gauges_204 (by decide) ?_
      refine lv_icmp_gt (tgt := 226) hx hb dL_gauges_207 (by decide) (fun hc => ?_) (fun hc => ?_)
      · replace h := h.1 hc
        exact tj_L_gauges_226 C hK79 v0 v1 v5 v6 v7 v9 (hv0) I2 _ _ _ hM (lv_sub hl [0, 1, 2, 3, 4, 5] rfl) h
      · replace h := h.2 hc
        refine lv_aload_n hx hb dL_gauges_210 rfl (lv_at hl 0 rfl) ?_
        refine lv_iload_n hx hb dL_gauges_211 rfl (lv_at hl 1 rfl) ?_
        refine lv_iload hx hb dL_gauges_212 (lv_at hl 4 rfl) ?_
        refine lv_bipush (v := (7 : Int32)) hx hb dL_gauges_214 (by decide) ?_
        refine gq_backi C hM (gq_runV (As := [.int v1, .int v7, .int (7 : Int32)]) (rest := []) C hM (kX_lt hv0 (by decide)) (cX_7 hv0) rfl (c_X7_gauge l L v0 hv0 v1 v7 (7 : Int32) I2 _ h) k_X7_gauge gw_592 rfl hl.1 rfl (Nat.le_of_ble_eq_true rfl) ⟨⟨rfl, rfl⟩, Nat.le_of_ble_eq_true rfl, Nat.le_of_ble_eq_true rfl⟩ ⟨Nat.zero_le _, Nat.zero_le _⟩ dL_gauges_216) (fun r3 I3 H locs h hM => ?_)
        refine lv_iload hx hb dL_gauges_219 (lv_at hl 2 rfl) ?_
        refine lv_icmp_eq (tgt := 226) hx hb dL_gauges_221 (by decide) (fun hc => ?_) (fun hc => ?_)
        · replace h := h.1 hc
          exact tj_L_gauges_226 C hK79 v0 v1 v5 v6 v7 v9 (hv0) I3 _ _ _ hM (lv_sub hl [0, 1, 2, 3, 4, 5] rfl) h
        · replace h := h.2 hc
          refine lv_iconst (v := (0 : Int32)) hx hb dL_gauges_224 (by decide) ?_
          exact gq_zret C hM ⟨rfl, h⟩ (rfl) dL_gauges_225
  · replace h := h.2 hc
    refine lv_iconst (v := (0 : Int32)) hx hb dL_gauges_183 (by decide) ?_
    exact gq_zret C hM ⟨rfl, h⟩ (rfl) dL_gauges_184
set_option maxHeartbeats 4000000 in
set_option maxRecDepth 100000 in
theorem tj_L_gauges_145 (C : gx_C L 282 p s m args meth c RL cL_gauges 13 (some .boolean)) {Q : Int32 → gx_M → Prop} {K79 : Nat → Int32 → Int32 → Int32 → Int32 → gx_M → Prop} (hK79 : ∀ (v0 : Nat) (v1 : Int32) (v5 : Int32) (v6 : Int32) (v7 : Int32) (hv0 : kX v0 = 7) (I : gx_M) (H : Heap) (locs : List Loc) (ls : Array Slot), gx_S L 282 (cellX L I) s.heap H locs → lv_has ls 13 [(0, .ref (gx_ad L v0)), (1, .int v1), (5, .int v5), (6, .int v6), (7, .int v7)] → K79 v0 v1 v5 v6 v7 I → W p l e rm_L_gauges s m args below meth c H locs 0 0 (MQ below (va_Qi (fun r I' => r &&& 1 = r ∧ Q r I') (fun I' t => gx_U L 282 (cellX L I') t) (gx_A L)) args s 0 0 (gx_A L)) (F0 m 79 ls [])) : ∀ (v0 : Nat) (v1 : Int32) (v5 : Int32) (v7 : Int32) (v8 : Int32) (v9 : Int32) (v10 : Int32) (u0 : Int32) (u1 : Int32) (hv0 : kX v0 = 7) (I : gx_M) (H : Heap) (locs : List Loc) (ls : Array Slot), gx_S L 282 (cellX L I) s.heap H locs → lv_has ls 13 [(0, .ref (gx_ad L v0)), (1, .int v1), (5, .int v5), (7, .int v7), (8, .int v8), (9, .int v9), (10, .int v10)] → wj_L_gauges_145 Q K79 v0 v1 v5 v7 v8 v9 v10 u0 u1 I → W p l e rm_L_gauges s m args below meth c H locs 0 0 (MQ below (va_Qi (fun r I' => r &&& 1 = r ∧ Q r I') (fun I' t => gx_U L 282 (cellX L I') t) (gx_A L)) args s 0 0 (gx_A L)) (F0 m 145 ls [.int u0, .int u1]) := by
  have hx := C.1
  have hb := C.2.1
  intro v0 v1 v5 v7 v8 v9 v10 u0 u1 hv0 I H locs ls hM hl h
  unfold wj_L_gauges_145 at h
  refine lv_iadd hx hb dL_gauges_145 ?_
  refine lv_topi (fun x1 ex1 => ?_)
  replace h := h x1 ex1
  refine lv_istore (lv' := [(6, .int x1), (0, .ref (gx_ad L v0)), (1, .int v1), (5, .int v5), (7, .int v7), (8, .int v8), (9, .int v9), (10, .int v10)]) hx hb dL_gauges_146 hl (by decide) rfl (fun ls hl => ?_)
  refine lv_iload hx hb dL_gauges_148 (lv_at hl 6 rfl) ?_
  refine lv_iload hx hb dL_gauges_150 (lv_at hl 5 rfl) ?_
  refine lv_sipush (v := (30000 : Int32)) hx hb dL_gauges_152 (by decide) ?_
  refine lv_icmp_le (tgt := 164) hx hb dL_gauges_155 (by decide) (fun hc => ?_) (fun hc => ?_)
  · replace h := h.1 hc
    refine lv_iload hx hb dL_gauges_164 (lv_at hl 5 rfl) ?_
    refine lv_sipush (v := (-30000 : Int32)) hx hb dL_gauges_166 (by decide) ?_
    refine lv_icmp_ge (tgt := 178) hx hb dL_gauges_169 (by decide) (fun hc => ?_) (fun hc => ?_)
    · replace h := h.1 hc
      refine lv_iload hx hb dL_gauges_178 (lv_at hl 5 rfl) ?_
      exact tj_L_gauges_180 C hK79 v0 v1 v5 x1 v7 v9 v10 v8 v9 (hv0) I _ _ _ hM (lv_sub hl [1, 2, 3, 0, 4, 6, 7] rfl) h
    · replace h := h.2 hc
      refine lv_sipush (v := (-30000 : Int32)) hx hb dL_gauges_172 (by decide) ?_
      refine lv_goto (tgt := 180) hx hb dL_gauges_175 (by decide) ?_
      exact tj_L_gauges_180 C hK79 v0 v1 v5 x1 v7 v9 v10 (-30000 : Int32) v9 (hv0) I _ _ _ hM (lv_sub hl [1, 2, 3, 0, 4, 6, 7] rfl) h
  · replace h := h.2 hc
    refine lv_sipush (v := (30000 : Int32)) hx hb dL_gauges_158 (by decide) ?_
    refine lv_goto (tgt := 180) hx hb dL_gauges_161 (by decide) ?_
    exact tj_L_gauges_180 C hK79 v0 v1 v5 x1 v7 v9 v10 (30000 : Int32) v9 (hv0) I _ _ _ hM (lv_sub hl [1, 2, 3, 0, 4, 6, 7] rfl) h
set_option maxHeartbeats 4000000 in
set_option maxRecDepth 100000 in
theorem tj_L_gauges_124 (C : gx_C L 282 p s m args meth c RL cL_gauges 13 (some .boolean)) {Q : Int32 → gx_M → Prop} {K79 : Nat → Int32 → Int32 → Int32 → Int32 → gx_M → Prop} (hK79 : ∀ (v0 : Nat) (v1 : Int32) (v5 : Int32) (v6 : Int32) (v7 : Int32) (hv0 : kX v0 = 7) (I : gx_M) (H : Heap) (locs : List Loc) (ls : Array Slot), gx_S L 282 (cellX L I) s.heap H locs → lv_has ls 13 [(0, .ref (gx_ad L v0)), (1, .int v1), (5, .int v5), (6, .int v6), (7, .int v7)] → K79 v0 v1 v5 v6 v7 I → W p l e rm_L_gauges s m args below meth c H locs 0 0 (MQ below (va_Qi (fun r I' => r &&& 1 = r ∧ Q r I') (fun I' t => gx_U L 282 (cellX L I') t) (gx_A L)) args s 0 0 (gx_A L)) (F0 m 79 ls [])) : ∀ (v0 : Nat) (v1 : Int32) (v5 : Int32) (v6 : Int32) (v7 : Int32) (v8 : Int32) (v9 : Int32) (u0 : Int32) (u1 : Int32) (hv0 : kX v0 = 7) (I : gx_M) (H : Heap) (locs : List Loc) (ls : Array Slot), gx_S L 282 (cellX L I) s.heap H locs → lv_has ls 13 [(0, .ref (gx_ad L v0)), (1, .int v1), (5, .int v5), (6, .int v6), (7, .int v7), (8, .int v8), (9, .int v9)] → wj_L_gauges_124 Q K79 v0 v1 v5 v6 v7 v8 v9 u0 u1 I → W p l e rm_L_gauges s m args below meth c H locs 0 0 (MQ below (va_Qi (fun r I' => r &&& 1 = r ∧ Q r I') (fun I' t => gx_U L 282 (cellX L I') t) (gx_A L)) args s 0 0 (gx_A L)) (F0 m 124 ls [.int u0, .int u1]) := by
  have hx := C.1
  have hb := C.2.1
  intro v0 v1 v5 v6 v7 v8 v9 u0 u1 hv0 I H locs ls hM hl h
  unfold wj_L_gauges_124 at h
  refine lv_isub hx hb dL_gauges_124 ?_
  refine lv_topi (fun x1 ex1 => ?_)
  replace h := h x1 ex1
  refine lv_istore (lv' := [(10, .int x1), (0, .ref (gx_ad L v0)), (1, .int v1), (5, .int v5), (6, .int v6), (7, .int v7), (8, .int v8), (9, .int v9)]) hx hb dL_gauges_125 hl (by decide) rfl (fun ls hl => ?_)
  refine lv_iload hx hb dL_gauges_127 (lv_at hl 4 rfl) ?_
  refine lv_iload hx hb dL_gauges_129 (lv_at hl 6 rfl) ?_
  refine gq_backi C hM (gq_runS (As := [.int v8]) (rest := [.int v6]) C hM (c_L_size l L v8 I _ h) k_L_size gw_652 rfl hl.1 rfl (Nat.le_of_ble_eq_true rfl) ⟨⟨rfl, rfl⟩, Nat.le_of_ble_eq_true rfl, Nat.le_of_ble_eq_true rfl⟩ ⟨Nat.zero_le _, Nat.zero_le _⟩ dL_gauges_131) (fun r1 I1 H locs h hM => ?_)
  refine lv_sipush (v := (30000 : Int32)) hx hb dL_gauges_134 (by decide) ?_
  refine lv_icmp_le (tgt := 144) hx hb dL_gauges_137 (by decide) (fun hc => ?_) (fun hc => ?_)
  · replace h := h.1 hc
    refine lv_iconst (v := (0 : Int32)) hx hb dL_gauges_144 (by decide) ?_
    exact tj_L_gauges_145 C hK79 v0 v1 v5 v7 v8 v9 x1 (0 : Int32) v6 (hv0) I1 _ _ _ hM (lv_sub hl [1, 2, 3, 5, 6, 7, 0] rfl) h
  · replace h := h.2 hc
    refine lv_iconst (v := (1 : Int32)) hx hb dL_gauges_140 (by decide) ?_
    refine lv_goto (tgt := 145) hx hb dL_gauges_141 (by decide) ?_
    exact tj_L_gauges_145 C hK79 v0 v1 v5 v7 v8 v9 x1 (1 : Int32) v6 (hv0) I1 _ _ _ hM (lv_sub hl [1, 2, 3, 5, 6, 7, 0] rfl) h
set_option maxHeartbeats 4000000 in
set_option maxRecDepth 100000 in
theorem tl_L_gauges_79 (C : gx_C L 282 p s m args meth c RL cL_gauges 13 (some .boolean)) {Q : Int32 → gx_M → Prop} : ∀ (fu : Nat) (v0 : Nat) (v1 : Int32) (v5 : Int32) (v6 : Int32) (v7 : Int32) (hv0 : kX v0 = 7) (I : gx_M) (H : Heap) (locs : List Loc) (ls : Array Slot), gx_S L 282 (cellX L I) s.heap H locs → lv_has ls 13 [(0, .ref (gx_ad L v0)), (1, .int v1), (5, .int v5), (6, .int v6), (7, .int v7)] → wl_L_gauges_79 Q fu v0 v1 v5 v6 v7 I → W p l e rm_L_gauges s m args below meth c H locs 0 0 (MQ below (va_Qi (fun r I' => r &&& 1 = r ∧ Q r I') (fun I' t => gx_U L 282 (cellX L I') t) (gx_A L)) args s 0 0 (gx_A L)) (F0 m 79 ls []) := by
  have hx := C.1
  have hb := C.2.1
  intro fu
  induction fu with
  | zero => intros; rename_i h; exact False.elim h
  | succ fu ih =>
    intro v0 v1 v5 v6 v7 hv0 I H locs ls hM hl h
    rw [wl_L_gauges_79] at h
    refine lv_iload hx hb dL_gauges_79 (lv_at hl 4 rfl) ?_
    refine lv_iconst (v := (3 : Int32)) hx hb dL_gauges_81 (by decide) ?_
    refine lv_icmp_ge (tgt := 298) hx hb dL_gauges_82 (by decide) (fun hc => ?_) (fun hc => ?_)
    · replace h := h.1 hc
      refine lv_iload hx hb dL_gauges_298 (lv_at hl 3 rfl) ?_
      refine lv_aload_n hx hb dL_gauges_300 rfl (lv_at hl 0 rfl) ?_
      refine lv_iload_n hx hb dL_gauges_301 rfl (lv_at hl 1 rfl) ?_
      refine lv_bipush (v := (10 : Int32)) hx hb dL_gauges_302 (by decide) ?_
      refine gq_backi C hM (gq_runV (As := [.int v1, .int (10 : Int32)]) (rest := [.int v6]) C hM (kX_lt hv0 (by decide)) (cX_7 hv0) rfl (c_X7_rosette l L v0 hv0 v1 (10 : Int32) I _ h) k_X7_rosette gw_588 rfl hl.1 rfl (Nat.le_of_ble_eq_true rfl) ⟨⟨rfl, rfl⟩, Nat.le_of_ble_eq_true rfl, Nat.le_of_ble_eq_true rfl⟩ ⟨Nat.zero_le _, Nat.zero_le _⟩ dL_gauges_304) (fun r1 I1 H locs h hM => ?_)
      refine lv_icmp_ne (tgt := 339) hx hb dL_gauges_307 (by decide) (fun hc => ?_) (fun hc => ?_)
      · replace h := h.2 hc
        refine lv_iconst (v := (0 : Int32)) hx hb dL_gauges_339 (by decide) ?_
        exact gq_zret C hM ⟨rfl, h⟩ (rfl) dL_gauges_340
      · replace h := h.1 hc
        refine lv_aload_n hx hb dL_gauges_310 rfl (lv_at hl 0 rfl) ?_
        refine lv_iload_n hx hb dL_gauges_311 rfl (lv_at hl 1 rfl) ?_
        refine lv_iconst (v := (3 : Int32)) hx hb dL_gauges_312 (by decide) ?_
        refine lv_iconst (v := (0 : Int32)) hx hb dL_gauges_313 (by decide) ?_
        refine gq_backi C hM (gq_runV (As := [.int v1, .int (3 : Int32), .int (0 : Int32)]) (rest := []) C hM (kX_lt hv0 (by decide)) (cX_7 hv0) rfl (c_X7_gauge l L v0 hv0 v1 (3 : Int32) (0 : Int32) I1 _ h) k_X7_gauge gw_592 rfl hl.1 rfl (Nat.le_of_ble_eq_true rfl) ⟨⟨rfl, rfl⟩, Nat.le_of_ble_eq_true rfl, Nat.le_of_ble_eq_true rfl⟩ ⟨Nat.zero_le _, Nat.zero_le _⟩ dL_gauges_314) (fun r2 I2 H locs h hM => ?_)
        refine gq_ldc (v := (-1000001 : Int32)) C gw_655 dL_gauges_317 ?_
        refine lv_icmp_ne (tgt := 339) hx hb dL_gauges_319 (by decide) (fun hc => ?_) (fun hc => ?_)
        · replace h := h.2 hc
          refine lv_iconst (v := (0 : Int32)) hx hb dL_gauges_339 (by decide) ?_
          exact gq_zret C hM ⟨rfl, h⟩ (rfl) dL_gauges_340
        · replace h := h.1 hc
          refine lv_aload_n hx hb dL_gauges_322 rfl (lv_at hl 0 rfl) ?_
          refine lv_iload_n hx hb dL_gauges_323 rfl (lv_at hl 1 rfl) ?_
          refine lv_iconst (v := (0 : Int32)) hx hb dL_gauges_324 (by decide) ?_
          refine lv_bipush (v := (8 : Int32)) hx hb dL_gauges_325 (by decide) ?_
          refine gq_backi C hM (gq_runV (As := [.int v1, .int (0 : Int32), .int (8 : Int32)]) (rest := []) C hM (kX_lt hv0 (by decide)) (cX_7 hv0) rfl (c_X7_gauge l L v0 hv0 v1 (0 : Int32) (8 : Int32) I2 _ h) k_X7_gauge gw_592 rfl hl.1 rfl (Nat.le_of_ble_eq_true rfl) ⟨⟨rfl, rfl⟩, Nat.le_of_ble_eq_true rfl, Nat.le_of_ble_eq_true rfl⟩ ⟨Nat.zero_le _, Nat.zero_le _⟩ dL_gauges_327) (fun r3 I3 H locs h hM => ?_)
          refine gq_ldc (v := (-1000002 : Int32)) C gw_647 dL_gauges_330 ?_
          refine lv_icmp_ne (tgt := 339) hx hb dL_gauges_332 (by decide) (fun hc => ?_) (fun hc => ?_)
          · replace h := h.2 hc
            refine lv_iconst (v := (0 : Int32)) hx hb dL_gauges_339 (by decide) ?_
            exact gq_zret C hM ⟨rfl, h⟩ (rfl) dL_gauges_340
          · replace h := h.1 hc
            refine lv_iconst (v := (1 : Int32)) hx hb dL_gauges_335 (by decide) ?_
            refine lv_goto (tgt := 340) hx hb dL_gauges_336 (by decide) ?_
            exact gq_zret C hM ⟨rfl, h⟩ (rfl) dL_gauges_340
    · replace h := h.2 hc
      refine lv_aload_n hx hb dL_gauges_85 rfl (lv_at hl 0 rfl) ?_
      refine lv_iload_n hx hb dL_gauges_86 rfl (lv_at hl 1 rfl) ?_
      refine lv_iload hx hb dL_gauges_87 (lv_at hl 4 rfl) ?_
      refine lv_iconst (v := (2 : Int32)) hx hb dL_gauges_89 (by decide) ?_
      refine gq_backi C hM (gq_runV (As := [.int v1, .int v7, .int (2 : Int32)]) (rest := []) C hM (kX_lt hv0 (by decide)) (cX_7 hv0) rfl (c_X7_gauge l L v0 hv0 v1 v7 (2 : Int32) I _ h) k_X7_gauge gw_592 rfl hl.1 rfl (Nat.le_of_ble_eq_true rfl) ⟨⟨rfl, rfl⟩, Nat.le_of_ble_eq_true rfl, Nat.le_of_ble_eq_true rfl⟩ ⟨Nat.zero_le _, Nat.zero_le _⟩ dL_gauges_90) (fun r4 I4 H locs h hM => ?_)
      refine lv_istore (lv' := [(8, .int r4), (0, .ref (gx_ad L v0)), (1, .int v1), (5, .int v5), (6, .int v6), (7, .int v7)]) hx hb dL_gauges_93 hl (by decide) rfl (fun ls hl => ?_)
      refine lv_aload_n hx hb dL_gauges_95 rfl (lv_at hl 1 rfl) ?_
      refine lv_iload_n hx hb dL_gauges_96 rfl (lv_at hl 2 rfl) ?_
      refine lv_iload hx hb dL_gauges_97 (lv_at hl 5 rfl) ?_
      refine lv_iconst (v := (3 : Int32)) hx hb dL_gauges_99 (by decide) ?_
      refine gq_backi C hM (gq_runV (As := [.int v1, .int v7, .int (3 : Int32)]) (rest := []) C hM (kX_lt hv0 (by decide)) (cX_7 hv0) rfl (c_X7_gauge l L v0 hv0 v1 v7 (3 : Int32) I4 _ h) k_X7_gauge gw_592 rfl hl.1 rfl (Nat.le_of_ble_eq_true rfl) ⟨⟨rfl, rfl⟩, Nat.le_of_ble_eq_true rfl, Nat.le_of_ble_eq_true rfl⟩ ⟨Nat.zero_le _, Nat.zero_le _⟩ dL_gauges_100) (fun r5 I5 H locs h hM => ?_)
      refine lv_istore (lv' := [(9, .int r5), (8, .int r4), (0, .ref (gx_ad L v0)), (1, .int v1), (5, .int v5), (6, .int v6), (7, .int v7)]) hx hb dL_gauges_103 hl (by decide) rfl (fun ls hl => ?_)
      refine lv_iload hx hb dL_gauges_105 (lv_at hl 1 rfl) ?_
      refine lv_aload_n hx hb dL_gauges_107 rfl (lv_at hl 2 rfl) ?_
      refine lv_iload_n hx hb dL_gauges_108 rfl (lv_at hl 3 rfl) ?_
      refine lv_bipush (v := (8 : Int32)) hx hb dL_gauges_109 (by decide) ?_
      refine gq_backi C hM (gq_runV (As := [.int v1, .int (8 : Int32)]) (rest := [.int r4]) C hM (kX_lt hv0 (by decide)) (cX_7 hv0) rfl (c_X7_rosette l L v0 hv0 v1 (8 : Int32) I5 _ h) k_X7_rosette gw_588 rfl hl.1 rfl (Nat.le_of_ble_eq_true rfl) ⟨⟨rfl, rfl⟩, Nat.le_of_ble_eq_true rfl, Nat.le_of_ble_eq_true rfl⟩ ⟨Nat.zero_le _, Nat.zero_le _⟩ dL_gauges_111) (fun r6 I6 H locs h hM => ?_)
      refine lv_iconst (v := (1 : Int32)) hx hb dL_gauges_114 (by decide) ?_
      refine lv_icmp_ne (tgt := 123) hx hb dL_gauges_115 (by decide) (fun hc => ?_) (fun hc => ?_)
      · replace h := h.2 hc
        refine lv_iconst (v := (0 : Int32)) hx hb dL_gauges_123 (by decide) ?_
        exact tj_L_gauges_124 C ih v0 v1 v5 v6 v7 r4 r5 (0 : Int32) r4 (hv0) I6 _ _ _ hM (lv_sub hl [2, 3, 4, 5, 6, 1, 0] rfl) h
      · replace h := h.1 hc
        refine lv_iload hx hb dL_gauges_118 (lv_at hl 4 rfl) ?_
        refine lv_goto (tgt := 124) hx hb dL_gauges_120 (by decide) ?_
        exact tj_L_gauges_124 C ih v0 v1 v5 v6 v7 r4 r5 v5 r4 (hv0) I6 _ _ _ hM (lv_sub hl [2, 3, 4, 5, 6, 1, 0] rfl) h
set_option maxHeartbeats 4000000 in
set_option maxRecDepth 100000 in
theorem c_L_gauges (l : Launch) (L : gx_L) (p0 : Nat) (hp0 : kX p0 = 7) (p1 : Int32) (I : gx_M) (Q : Int32 → gx_M → Prop) (h : wp_L_gauges p0 p1 I Q) : Met l yL_gauges (gx_w yL_gauges cL_gauges 13 (some .boolean)) rm_L_gauges (va_Pc [.ref (gx_ad L p0), .int p1] (gx_U L 282 (cellX L I))) (va_Qi (fun r I' => r &&& 1 = r ∧ Q r I') (fun I' t => gx_U L 282 (cellX L I') t) (gx_A L)) 0 0 (gx_A L) := by
  refine gq_enter (by decide) (Nat.le_of_ble_eq_true rfl) (fun p e s m below meth c ls C hM hl => ?_)
  have C : gx_C L 282 p s m _ meth c RL cL_gauges 13 (some .boolean) := C
  have hl : lv_has ls 13 [(0, .ref (gx_ad L p0)), (1, .int p1)] := hl
  have hx := C.1
  have hb := C.2.1
  unfold wp_L_gauges at h
  refine gq_ldc2 (v := (1000 : Int64)) C gw_623 dL_gauges_0 ?_
  refine lv_aload_n hx hb dL_gauges_3 rfl (lv_at hl 0 rfl) ?_
  refine lv_iload_n hx hb dL_gauges_4 rfl (lv_at hl 1 rfl) ?_
  refine lv_iconst (v := (2 : Int32)) hx hb dL_gauges_5 (by decide) ?_
  refine gq_backi C hM (gq_runV (As := [.int p1, .int (2 : Int32)]) (rest := [.long (1000 : Int64)]) C hM (kX_lt hp0 (by decide)) (cX_7 hp0) rfl (c_X7_rosette l L p0 hp0 p1 (2 : Int32) I _ h) k_X7_rosette gw_588 rfl hl.1 rfl (Nat.le_of_ble_eq_true rfl) ⟨⟨rfl, rfl⟩, Nat.le_of_ble_eq_true rfl, Nat.le_of_ble_eq_true rfl⟩ ⟨Nat.zero_le _, Nat.zero_le _⟩ dL_gauges_6) (fun r1 I1 H locs h hM => ?_)
  refine lv_i2l hx hb dL_gauges_9 rfl ?_
  refine lv_lmul hx hb dL_gauges_10 ?_
  refine lv_topl (fun x1 ex1 => ?_)
  replace h := h x1 ex1
  refine lv_lstore_n (lv' := [(2, .long x1), (0, .ref (gx_ad L p0)), (1, .int p1)]) hx hb dL_gauges_11 rfl hl (by decide) rfl (fun ls hl => ?_)
  refine lv_aload_n hx hb dL_gauges_12 rfl (lv_at hl 1 rfl) ?_
  refine lv_iload_n hx hb dL_gauges_13 rfl (lv_at hl 2 rfl) ?_
  refine lv_bipush (v := (9 : Int32)) hx hb dL_gauges_14 (by decide) ?_
  refine gq_backi C hM (gq_runV (As := [.int p1, .int (9 : Int32)]) (rest := []) C hM (kX_lt hp0 (by decide)) (cX_7 hp0) rfl (c_X7_rosette l L p0 hp0 p1 (9 : Int32) I1 _ h) k_X7_rosette gw_588 rfl hl.1 rfl (Nat.le_of_ble_eq_true rfl) ⟨⟨rfl, rfl⟩, Nat.le_of_ble_eq_true rfl, Nat.le_of_ble_eq_true rfl⟩ ⟨Nat.zero_le _, Nat.zero_le _⟩ dL_gauges_16) (fun r2 I2 H locs h hM => ?_)
  refine lv_istore (lv' := [(4, .int r2), (2, .long x1), (0, .ref (gx_ad L p0)), (1, .int p1)]) hx hb dL_gauges_19 hl (by decide) rfl (fun ls hl => ?_)
  refine lv_iload hx hb dL_gauges_21 (lv_at hl 0 rfl) ?_
  refine lv_i2l hx hb dL_gauges_23 rfl ?_
  refine lv_lload_n hx hb dL_gauges_24 rfl (lv_at hl 1 rfl) ?_
  refine lv_lmul hx hb dL_gauges_25 ?_
  refine lv_lload_n hx hb dL_gauges_26 rfl (lv_at hl 1 rfl) ?_
  refine lv_aload_n hx hb dL_gauges_27 rfl (lv_at hl 2 rfl) ?_
  refine lv_iload_n hx hb dL_gauges_28 rfl (lv_at hl 3 rfl) ?_
  refine lv_iconst (v := (4 : Int32)) hx hb dL_gauges_29 (by decide) ?_
  refine gq_backi C hM (gq_runV (As := [.int p1, .int (4 : Int32)]) (rest := [.long x1, .long ((Int32.toInt64 r2) * x1)]) C hM (kX_lt hp0 (by decide)) (cX_7 hp0) rfl (c_X7_rosette l L p0 hp0 p1 (4 : Int32) I2 _ h) k_X7_rosette gw_588 rfl hl.1 rfl (Nat.le_of_ble_eq_true rfl) ⟨⟨rfl, rfl⟩, Nat.le_of_ble_eq_true rfl, Nat.le_of_ble_eq_true rfl⟩ ⟨Nat.zero_le _, Nat.zero_le _⟩ dL_gauges_30) (fun r3 I3 H locs h hM => ?_)
  refine lv_i2l hx hb dL_gauges_33 rfl ?_
  refine lv_ladd hx hb dL_gauges_34 ?_
  refine lv_ldiv hx hb dL_gauges_35 h.1 ?_
  replace h := h.2
  refine lv_l2i hx hb dL_gauges_36 rfl ?_
  refine lv_topi (fun x2 ex2 => ?_)
  replace h := h x2 ex2
  refine lv_istore (lv' := [(5, .int x2), (4, .int r2), (2, .long x1), (0, .ref (gx_ad L p0)), (1, .int p1)]) hx hb dL_gauges_37 hl (by decide) rfl (fun ls hl => ?_)
  refine lv_iconst (v := (0 : Int32)) hx hb dL_gauges_39 (by decide) ?_
  refine lv_istore (lv' := [(6, .int (0 : Int32)), (5, .int x2), (4, .int r2), (2, .long x1), (0, .ref (gx_ad L p0)), (1, .int p1)]) hx hb dL_gauges_40 hl (by decide) rfl (fun ls hl => ?_)
  refine lv_iload hx hb dL_gauges_42 (lv_at hl 2 rfl) ?_
  refine lv_aload_n hx hb dL_gauges_44 rfl (lv_at hl 4 rfl) ?_
  refine lv_iload_n hx hb dL_gauges_45 rfl (lv_at hl 5 rfl) ?_
  refine lv_iconst (v := (2 : Int32)) hx hb dL_gauges_46 (by decide) ?_
  refine gq_backi C hM (gq_runV (As := [.int p1, .int (2 : Int32)]) (rest := [.int r2]) C hM (kX_lt hp0 (by decide)) (cX_7 hp0) rfl (c_X7_rosette l L p0 hp0 p1 (2 : Int32) I3 _ h) k_X7_rosette gw_588 rfl hl.1 rfl (Nat.le_of_ble_eq_true rfl) ⟨⟨rfl, rfl⟩, Nat.le_of_ble_eq_true rfl, Nat.le_of_ble_eq_true rfl⟩ ⟨Nat.zero_le _, Nat.zero_le _⟩ dL_gauges_47) (fun r4 I4 H locs h hM => ?_)
  refine gq_ldc (v := (1000000 : Int32)) C gw_651 dL_gauges_50 ?_
  refine lv_imul hx hb dL_gauges_52 ?_
  refine lv_aload_n hx hb dL_gauges_53 rfl (lv_at hl 4 rfl) ?_
  refine lv_iload_n hx hb dL_gauges_54 rfl (lv_at hl 5 rfl) ?_
  refine lv_iconst (v := (2 : Int32)) hx hb dL_gauges_55 (by decide) ?_
  refine gq_backi C hM (gq_runV (As := [.int p1, .int (2 : Int32)]) (rest := [.int (r4 * (1000000 : Int32)), .int r2]) C hM (kX_lt hp0 (by decide)) (cX_7 hp0) rfl (c_X7_rosette l L p0 hp0 p1 (2 : Int32) I4 _ h) k_X7_rosette gw_588 rfl hl.1 rfl (Nat.le_of_ble_eq_true rfl) ⟨⟨rfl, rfl⟩, Nat.le_of_ble_eq_true rfl, Nat.le_of_ble_eq_true rfl⟩ ⟨Nat.zero_le _, Nat.zero_le _⟩ dL_gauges_56) (fun r5 I5 H locs h hM => ?_)
  refine lv_sipush (v := (1000 : Int32)) hx hb dL_gauges_59 (by decide) ?_
  refine lv_aload_n hx hb dL_gauges_62 rfl (lv_at hl 4 rfl) ?_
  refine lv_bipush (v := (7 : Int32)) hx hb dL_gauges_63 (by decide) ?_
  refine gq_backi C hM (gq_runV (As := [.int (7 : Int32)]) (rest := [.int (1000 : Int32), .int r5, .int (r4 * (1000000 : Int32)), .int r2]) C hM (kX_lt hp0 (by decide)) (cX_7 hp0) rfl (c_X7_count l L p0 hp0 (7 : Int32) I5 _ h) k_X7_count gw_601 rfl hl.1 rfl (Nat.le_of_ble_eq_true rfl) ⟨⟨rfl, rfl⟩, Nat.le_of_ble_eq_true rfl, Nat.le_of_ble_eq_true rfl⟩ ⟨Nat.zero_le _, Nat.zero_le _⟩ dL_gauges_65) (fun r6 I6 H locs h hM => ?_)
  refine lv_imul hx hb dL_gauges_68 ?_
  refine lv_iadd hx hb dL_gauges_69 ?_
  refine lv_idiv hx hb dL_gauges_70 h.1 ?_
  replace h := h.2
  refine lv_icmp_eq (tgt := 76) hx hb dL_gauges_71 (by decide) (fun hc => ?_) (fun hc => ?_)
  · replace h := h.1 hc
    refine lv_iconst (v := (0 : Int32)) hx hb dL_gauges_76 (by decide) ?_
    refine lv_istore (lv' := [(7, .int (0 : Int32)), (6, .int (0 : Int32)), (5, .int x2), (4, .int r2), (2, .long x1), (0, .ref (gx_ad L p0)), (1, .int p1)]) hx hb dL_gauges_77 hl (by decide) rfl (fun ls hl => ?_)
    obtain ⟨fv, h⟩ := h
    exact tl_L_gauges_79 C fv p0 p1 x2 (0 : Int32) (0 : Int32) (hp0) I6 _ _ _ hM (lv_sub hl [5, 6, 2, 1, 0] rfl) h
  · replace h := h.2 hc
    refine lv_iconst (v := (0 : Int32)) hx hb dL_gauges_74 (by decide) ?_
    exact gq_zret C hM ⟨rfl, h⟩ (rfl) dL_gauges_75
theorem k_L_gauges : gx_kS yL_gauges cL_gauges 13 (some .boolean) 2 := ⟨⟨gw_650, gw_21, by decide, by decide, by decide +kernel⟩, gw_649⟩
abbrev rm_L_lines : Room := { frames := 6, cells := 0, slots := 0, locals := 137 }
set_option maxHeartbeats 4000000 in
set_option maxRecDepth 100000 in
theorem tj_L_lines_133 (C : gx_C L 282 p s m args meth c RL cL_lines 9 (some .boolean)) {Q : Int32 → gx_M → Prop} {K17 : Nat → Int32 → Int32 → Int32 → Int32 → gx_M → Prop} {K48 : Nat → Int32 → Int32 → Int32 → Int32 → Int32 → Int32 → gx_M → Prop} (hK17 : ∀ (v0 : Nat) (v1 : Int32) (v2 : Int32) (v3 : Int32) (v4 : Int32) (hv0 : kX v0 = 7) (I : gx_M) (H : Heap) (locs : List Loc) (ls : Array Slot), gx_S L 282 (cellX L I) s.heap H locs → lv_has ls 9 [(0, .ref (gx_ad L v0)), (1, .int v1), (2, .int v2), (3, .int v3), (4, .int v4)] → K17 v0 v1 v2 v3 v4 I → W p l e rm_L_lines s m args below meth c H locs 0 0 (MQ below (va_Qi (fun r I' => r &&& 1 = r ∧ Q r I') (fun I' t => gx_U L 282 (cellX L I') t) (gx_A L)) args s 0 0 (gx_A L)) (F0 m 17 ls [])) (hK48 : ∀ (v0 : Nat) (v1 : Int32) (v2 : Int32) (v3 : Int32) (v4 : Int32) (v5 : Int32) (v6 : Int32) (hv0 : kX v0 = 7) (I : gx_M) (H : Heap) (locs : List Loc) (ls : Array Slot), gx_S L 282 (cellX L I) s.heap H locs → lv_has ls 9 [(0, .ref (gx_ad L v0)), (1, .int v1), (2, .int v2), (3, .int v3), (4, .int v4), (5, .int v5), (6, .int v6)] → K48 v0 v1 v2 v3 v4 v5 v6 I → W p l e rm_L_lines s m args below meth c H locs 0 0 (MQ below (va_Qi (fun r I' => r &&& 1 = r ∧ Q r I') (fun I' t => gx_U L 282 (cellX L I') t) (gx_A L)) args s 0 0 (gx_A L)) (F0 m 48 ls [])) : ∀ (v0 : Nat) (v1 : Int32) (v2 : Int32) (v3 : Int32) (v4 : Int32) (v5 : Int32) (v6 : Int32) (hv0 : kX v0 = 7) (I : gx_M) (H : Heap) (locs : List Loc) (ls : Array Slot), gx_S L 282 (cellX L I) s.heap H locs → lv_has ls 9 [(0, .ref (gx_ad L v0)), (1, .int v1), (2, .int v2), (3, .int v3), (4, .int v4), (5, .int v5), (6, .int v6)] → wj_L_lines_133 Q K17 K48 v0 v1 v2 v3 v4 v5 v6 I → W p l e rm_L_lines s m args below meth c H locs 0 0 (MQ below (va_Qi (fun r I' => r &&& 1 = r ∧ Q r I') (fun I' t => gx_U L 282 (cellX L I') t) (gx_A L)) args s 0 0 (gx_A L)) (F0 m 133 ls []) := by
  have hx := C.1
  have hb := C.2.1
  intro v0 v1 v2 v3 v4 v5 v6 hv0 I H locs ls hM hl h
  unfold wj_L_lines_133 at h
  obtain ⟨x1, ex1⟩ : ∃ z : Int32, z = v6 + (1 : Int32) := ⟨_, rfl⟩
  replace h := h x1 ex1
  refine lv_iinc (v := x1) (lv' := [(6, .int x1), (0, .ref (gx_ad L v0)), (1, .int v1), (2, .int v2), (3, .int v3), (4, .int v4), (5, .int v5)]) hx hb dL_lines_133 hl (k := 6) rfl (by rw [ex1]; rfl) (by decide) rfl (fun ls hl => ?_)
  refine lv_goto (tgt := 48) hx hb dL_lines_136 (by decide) ?_
  exact hK48 v0 v1 v2 v3 v4 v5 x1 (hv0) I _ _ _ hM (lv_sub hl [1, 2, 3, 4, 5, 6, 0] rfl) h
set_option maxHeartbeats 4000000 in
set_option maxRecDepth 100000 in
theorem tl_L_lines_48 (C : gx_C L 282 p s m args meth c RL cL_lines 9 (some .boolean)) {Q : Int32 → gx_M → Prop} {K17 : Nat → Int32 → Int32 → Int32 → Int32 → gx_M → Prop} (hK17 : ∀ (v0 : Nat) (v1 : Int32) (v2 : Int32) (v3 : Int32) (v4 : Int32) (hv0 : kX v0 = 7) (I : gx_M) (H : Heap) (locs : List Loc) (ls : Array Slot), gx_S L 282 (cellX L I) s.heap H locs → lv_has ls 9 [(0, .ref (gx_ad L v0)), (1, .int v1), (2, .int v2), (3, .int v3), (4, .int v4)] → K17 v0 v1 v2 v3 v4 I → W p l e rm_L_lines s m args below meth c H locs 0 0 (MQ below (va_Qi (fun r I' => r &&& 1 = r ∧ Q r I') (fun I' t => gx_U L 282 (cellX L I') t) (gx_A L)) args s 0 0 (gx_A L)) (F0 m 17 ls [])) : ∀ (fu : Nat) (v0 : Nat) (v1 : Int32) (v2 : Int32) (v3 : Int32) (v4 : Int32) (v5 : Int32) (v6 : Int32) (hv0 : kX v0 = 7) (I : gx_M) (H : Heap) (locs : List Loc) (ls : Array Slot), gx_S L 282 (cellX L I) s.heap H locs → lv_has ls 9 [(0, .ref (gx_ad L v0)), (1, .int v1), (2, .int v2), (3, .int v3), (4, .int v4), (5, .int v5), (6, .int v6)] → wl_L_lines_48 Q K17 fu v0 v1 v2 v3 v4 v5 v6 I → W p l e rm_L_lines s m args below meth c H locs 0 0 (MQ below (va_Qi (fun r I' => r &&& 1 = r ∧ Q r I') (fun I' t => gx_U L 282 (cellX L I') t) (gx_A L)) args s 0 0 (gx_A L)) (F0 m 48 ls []) := by
  have hx := C.1
  have hb := C.2.1
  intro fu
  induction fu with
  | zero => intros; rename_i h; exact False.elim h
  | succ fu ih =>
    intro v0 v1 v2 v3 v4 v5 v6 hv0 I H locs ls hM hl h
    rw [wl_L_lines_48] at h
    refine lv_iload hx hb dL_lines_48 (lv_at hl 6 rfl) ?_
    refine lv_iload_n hx hb dL_lines_50 rfl (lv_at hl 1 rfl) ?_
    refine lv_icmp_ge (tgt := 139) hx hb dL_lines_51 (by decide) (fun hc => ?_) (fun hc => ?_)
    · replace h := h.1 hc
      refine lv_iload_n hx hb dL_lines_139 rfl (lv_at hl 3 rfl) ?_
      refine lv_iload hx hb dL_lines_140 (lv_at hl 5 rfl) ?_
      refine lv_iadd hx hb dL_lines_142 ?_
      refine lv_topi (fun x1 ex1 => ?_)
      replace h := h x1 ex1
      refine lv_istore_n (lv' := [(3, .int x1), (0, .ref (gx_ad L v0)), (1, .int v1), (2, .int v2), (4, .int v4), (5, .int v5), (6, .int v6)]) hx hb dL_lines_143 rfl hl (by decide) rfl (fun ls hl => ?_)
      refine lv_aload_n hx hb dL_lines_144 rfl (lv_at hl 1 rfl) ?_
      refine lv_aload_n hx hb dL_lines_145 rfl (lv_at hl 1 rfl) ?_
      refine lv_iload hx hb dL_lines_146 (lv_at hl 4 rfl) ?_
      refine lv_iconst (v := (2 : Int32)) hx hb dL_lines_148 (by decide) ?_
      refine gq_backi C hM (gq_runV (As := [.int v4, .int (2 : Int32)]) (rest := [.ref (gx_ad L v0)]) C hM (kX_lt hv0 (by decide)) (cX_7 hv0) rfl (c_X7_job l L v0 hv0 v4 (2 : Int32) I _ h) k_X7_job gw_624 rfl hl.1 rfl (Nat.le_of_ble_eq_true rfl) ⟨⟨rfl, rfl⟩, Nat.le_of_ble_eq_true rfl, Nat.le_of_ble_eq_true rfl⟩ ⟨Nat.zero_le _, Nat.zero_le _⟩ dL_lines_149) (fun r1 I1 H locs h hM => ?_)
      refine lv_iconst (v := (0 : Int32)) hx hb dL_lines_152 (by decide) ?_
      refine gq_backi C hM (gq_runV (As := [.int r1, .int (0 : Int32)]) (rest := []) C hM (kX_lt hv0 (by decide)) (cX_7 hv0) rfl (c_X7_rosette l L v0 hv0 r1 (0 : Int32) I1 _ h) k_X7_rosette gw_588 rfl hl.1 rfl (Nat.le_of_ble_eq_true rfl) ⟨⟨rfl, rfl⟩, Nat.le_of_ble_eq_true rfl, Nat.le_of_ble_eq_true rfl⟩ ⟨Nat.zero_le _, Nat.zero_le _⟩ dL_lines_153) (fun r2 I2 H locs h hM => ?_)
      refine lv_istore_n (lv' := [(2, .int r2), (3, .int x1), (0, .ref (gx_ad L v0)), (1, .int v1), (4, .int v4), (5, .int v5), (6, .int v6)]) hx hb dL_lines_156 rfl hl (by decide) rfl (fun ls hl => ?_)
      refine lv_aload_n hx hb dL_lines_157 rfl (lv_at hl 2 rfl) ?_
      refine lv_iload hx hb dL_lines_158 (lv_at hl 4 rfl) ?_
      refine lv_iconst (v := (4 : Int32)) hx hb dL_lines_160 (by decide) ?_
      refine gq_backi C hM (gq_runV (As := [.int v4, .int (4 : Int32)]) (rest := []) C hM (kX_lt hv0 (by decide)) (cX_7 hv0) rfl (c_X7_job l L v0 hv0 v4 (4 : Int32) I2 _ h) k_X7_job gw_624 rfl hl.1 rfl (Nat.le_of_ble_eq_true rfl) ⟨⟨rfl, rfl⟩, Nat.le_of_ble_eq_true rfl, Nat.le_of_ble_eq_true rfl⟩ ⟨Nat.zero_le _, Nat.zero_le _⟩ dL_lines_161) (fun r3 I3 H locs h hM => ?_)
      refine lv_iload_n hx hb dL_lines_164 rfl (lv_at hl 1 rfl) ?_
      refine lv_icmp_ne (tgt := 183) hx hb dL_lines_165 (by decide) (fun hc => ?_) (fun hc => ?_)
      · replace h := h.2 hc
        refine lv_iconst (v := (0 : Int32)) hx hb dL_lines_183 (by decide) ?_
        exact gq_zret C hM ⟨rfl, h⟩ (rfl) dL_lines_184
      · replace h := h.1 hc
        refine lv_aload_n hx hb dL_lines_168 rfl (lv_at hl 2 rfl) ?_
        refine lv_iload hx hb dL_lines_169 (lv_at hl 4 rfl) ?_
        refine lv_iconst (v := (0 : Int32)) hx hb dL_lines_171 (by decide) ?_
        refine gq_backi C hM (gq_runV (As := [.int v4, .int (0 : Int32)]) (rest := []) C hM (kX_lt hv0 (by decide)) (cX_7 hv0) rfl (c_X7_job l L v0 hv0 v4 (0 : Int32) I3 _ h) k_X7_job gw_624 rfl hl.1 rfl (Nat.le_of_ble_eq_true rfl) ⟨⟨rfl, rfl⟩, Nat.le_of_ble_eq_true rfl, Nat.le_of_ble_eq_true rfl⟩ ⟨Nat.zero_le _, Nat.zero_le _⟩ dL_lines_172) (fun r4 I4 H locs h hM => ?_)
        refine lv_aload_n hx hb dL_lines_175 rfl (lv_at hl 2 rfl) ?_
        refine lv_iconst (v := (2 : Int32)) hx hb dL_lines_176 (by decide) ?_
        refine gq_backi C hM (gq_runV (As := [.int (2 : Int32)]) (rest := [.int r4]) C hM (kX_lt hv0 (by decide)) (cX_7 hv0) rfl (c_X7_count l L v0 hv0 (2 : Int32) I4 _ h) k_X7_count gw_601 rfl hl.1 rfl (Nat.le_of_ble_eq_true rfl) ⟨⟨rfl, rfl⟩, Nat.le_of_ble_eq_true rfl, Nat.le_of_ble_eq_true rfl⟩ ⟨Nat.zero_le _, Nat.zero_le _⟩ dL_lines_177) (fun r5 I5 H locs h hM => ?_)
        refine lv_icmp_lt (tgt := 185) hx hb dL_lines_180 (by decide) (fun hc => ?_) (fun hc => ?_)
        · replace h := h.1 hc
          obtain ⟨x2, ex2⟩ : ∃ z : Int32, z = v4 + (1 : Int32) := ⟨_, rfl⟩
          replace h := h x2 ex2
          refine lv_iinc (v := x2) (lv' := [(4, .int x2), (2, .int r2), (3, .int x1), (0, .ref (gx_ad L v0)), (1, .int v1), (5, .int v5), (6, .int v6)]) hx hb dL_lines_185 hl (k := 4) rfl (by rw [ex2]; rfl) (by decide) rfl (fun ls hl => ?_)
          refine lv_goto (tgt := 17) hx hb dL_lines_188 (by decide) ?_
          exact hK17 v0 v1 r2 x1 x2 (hv0) I5 _ _ _ hM (lv_sub hl [3, 4, 1, 2, 0] rfl) h
        · replace h := h.2 hc
          refine lv_iconst (v := (0 : Int32)) hx hb dL_lines_183 (by decide) ?_
          exact gq_zret C hM ⟨rfl, h⟩ (rfl) dL_lines_184
    · replace h := h.2 hc
      refine lv_aload_n hx hb dL_lines_54 rfl (lv_at hl 0 rfl) ?_
      refine lv_iload hx hb dL_lines_55 (lv_at hl 6 rfl) ?_
      refine lv_iconst (v := (3 : Int32)) hx hb dL_lines_57 (by decide) ?_
      refine gq_backi C hM (gq_runV (As := [.int v6, .int (3 : Int32)]) (rest := []) C hM (kX_lt hv0 (by decide)) (cX_7 hv0) rfl (c_X7_job l L v0 hv0 v6 (3 : Int32) I _ h) k_X7_job gw_624 rfl hl.1 rfl (Nat.le_of_ble_eq_true rfl) ⟨⟨rfl, rfl⟩, Nat.le_of_ble_eq_true rfl, Nat.le_of_ble_eq_true rfl⟩ ⟨Nat.zero_le _, Nat.zero_le _⟩ dL_lines_58) (fun r6 I6 H locs h hM => ?_)
      refine lv_aload_n hx hb dL_lines_61 rfl (lv_at hl 0 rfl) ?_
      refine lv_iload hx hb dL_lines_62 (lv_at hl 4 rfl) ?_
      refine lv_iconst (v := (3 : Int32)) hx hb dL_lines_64 (by decide) ?_
      refine gq_backi C hM (gq_runV (As := [.int v4, .int (3 : Int32)]) (rest := [.int r6]) C hM (kX_lt hv0 (by decide)) (cX_7 hv0) rfl (c_X7_job l L v0 hv0 v4 (3 : Int32) I6 _ h) k_X7_job gw_624 rfl hl.1 rfl (Nat.le_of_ble_eq_true rfl) ⟨⟨rfl, rfl⟩, Nat.le_of_ble_eq_true rfl, Nat.le_of_ble_eq_true rfl⟩ ⟨Nat.zero_le _, Nat.zero_le _⟩ dL_lines_65) (fun r7 I7 H locs h hM => ?_)
      refine lv_isub hx hb dL_lines_68 ?_
      refine lv_topi (fun x3 ex3 => ?_)
      replace h := h x3 ex3
      refine lv_istore (lv' := [(7, .int x3), (0, .ref (gx_ad L v0)), (1, .int v1), (2, .int v2), (3, .int v3), (4, .int v4), (5, .int v5), (6, .int v6)]) hx hb dL_lines_69 hl (by decide) rfl (fun ls hl => ?_)
      refine lv_aload_n hx hb dL_lines_71 rfl (lv_at hl 1 rfl) ?_
      refine lv_aload_n hx hb dL_lines_72 rfl (lv_at hl 1 rfl) ?_
      refine lv_iload hx hb dL_lines_73 (lv_at hl 7 rfl) ?_
      refine lv_iconst (v := (2 : Int32)) hx hb dL_lines_75 (by decide) ?_
      refine gq_backi C hM (gq_runV (As := [.int v6, .int (2 : Int32)]) (rest := [.ref (gx_ad L v0)]) C hM (kX_lt hv0 (by decide)) (cX_7 hv0) rfl (c_X7_job l L v0 hv0 v6 (2 : Int32) I7 _ h) k_X7_job gw_624 rfl hl.1 rfl (Nat.le_of_ble_eq_true rfl) ⟨⟨rfl, rfl⟩, Nat.le_of_ble_eq_true rfl, Nat.le_of_ble_eq_true rfl⟩ ⟨Nat.zero_le _, Nat.zero_le _⟩ dL_lines_76) (fun r8 I8 H locs h hM => ?_)
      refine lv_iconst (v := (0 : Int32)) hx hb dL_lines_79 (by decide) ?_
      refine gq_backi C hM (gq_runV (As := [.int r8, .int (0 : Int32)]) (rest := []) C hM (kX_lt hv0 (by decide)) (cX_7 hv0) rfl (c_X7_rosette l L v0 hv0 r8 (0 : Int32) I8 _ h) k_X7_rosette gw_588 rfl hl.1 rfl (Nat.le_of_ble_eq_true rfl) ⟨⟨rfl, rfl⟩, Nat.le_of_ble_eq_true rfl, Nat.le_of_ble_eq_true rfl⟩ ⟨Nat.zero_le _, Nat.zero_le _⟩ dL_lines_80) (fun r9 I9 H locs h hM => ?_)
      refine lv_iload_n hx hb dL_lines_83 rfl (lv_at hl 3 rfl) ?_
      refine lv_isub hx hb dL_lines_84 ?_
      refine gq_backi C hM (gq_runS (As := [.int (r9 - v2)]) (rest := []) C hM (c_L_size l L (r9 - v2) I9 _ h) k_L_size gw_652 rfl hl.1 rfl (Nat.le_of_ble_eq_true rfl) ⟨⟨rfl, rfl⟩, Nat.le_of_ble_eq_true rfl, Nat.le_of_ble_eq_true rfl⟩ ⟨Nat.zero_le _, Nat.zero_le _⟩ dL_lines_85) (fun r10 I10 H locs h hM => ?_)
      refine lv_istore (lv' := [(8, .int r10), (7, .int x3), (0, .ref (gx_ad L v0)), (1, .int v1), (2, .int v2), (3, .int v3), (4, .int v4), (5, .int v5), (6, .int v6)]) hx hb dL_lines_88 hl (by decide) rfl (fun ls hl => ?_)
      refine lv_iload hx hb dL_lines_90 (lv_at hl 1 rfl) ?_
      refine lv_if_gt (tgt := 131) hx hb dL_lines_92 (by decide) (fun hc => ?_) (fun hc => ?_)
      · replace h := h.1 hc
        refine lv_iconst (v := (0 : Int32)) hx hb dL_lines_131 (by decide) ?_
        exact gq_zret C hM ⟨rfl, h⟩ (rfl) dL_lines_132
      · replace h := h.2 hc
        refine lv_iload hx hb dL_lines_95 (lv_at hl 1 rfl) ?_
        refine lv_if_ne (tgt := 133) hx hb dL_lines_97 (by decide) (fun hc => ?_) (fun hc => ?_)
        · replace h := h.2 hc
          exact tj_L_lines_133 C hK17 ih v0 v1 v2 v3 v4 v5 v6 (hv0) I10 _ _ _ hM (lv_sub hl [2, 3, 4, 5, 6, 7, 8] rfl) h
        · replace h := h.1 hc
          refine lv_iload hx hb dL_lines_100 (lv_at hl 0 rfl) ?_
          refine lv_iload hx hb dL_lines_102 (lv_at hl 7 rfl) ?_
          refine lv_icmp_lt (tgt := 131) hx hb dL_lines_104 (by decide) (fun hc => ?_) (fun hc => ?_)
          · replace h := h.1 hc
            refine lv_iconst (v := (0 : Int32)) hx hb dL_lines_131 (by decide) ?_
            exact gq_zret C hM ⟨rfl, h⟩ (rfl) dL_lines_132
          · replace h := h.2 hc
            refine lv_iload hx hb dL_lines_107 (lv_at hl 0 rfl) ?_
            refine lv_iload hx hb dL_lines_109 (lv_at hl 7 rfl) ?_
            refine lv_icmp_ne (tgt := 133) hx hb dL_lines_111 (by decide) (fun hc => ?_) (fun hc => ?_)
            · replace h := h.2 hc
              exact tj_L_lines_133 C hK17 ih v0 v1 v2 v3 v4 v5 v6 (hv0) I10 _ _ _ hM (lv_sub hl [2, 3, 4, 5, 6, 7, 8] rfl) h
            · replace h := h.1 hc
              refine lv_aload_n hx hb dL_lines_114 rfl (lv_at hl 2 rfl) ?_
              refine lv_iload hx hb dL_lines_115 (lv_at hl 8 rfl) ?_
              refine lv_iconst (v := (0 : Int32)) hx hb dL_lines_117 (by decide) ?_
              refine gq_backi C hM (gq_runV (As := [.int v6, .int (0 : Int32)]) (rest := []) C hM (kX_lt hv0 (by decide)) (cX_7 hv0) rfl (c_X7_job l L v0 hv0 v6 (0 : Int32) I10 _ h) k_X7_job gw_624 rfl hl.1 rfl (Nat.le_of_ble_eq_true rfl) ⟨⟨rfl, rfl⟩, Nat.le_of_ble_eq_true rfl, Nat.le_of_ble_eq_true rfl⟩ ⟨Nat.zero_le _, Nat.zero_le _⟩ dL_lines_118) (fun r11 I11 H locs h hM => ?_)
              refine lv_aload_n hx hb dL_lines_121 rfl (lv_at hl 2 rfl) ?_
              refine lv_iload hx hb dL_lines_122 (lv_at hl 6 rfl) ?_
              refine lv_iconst (v := (0 : Int32)) hx hb dL_lines_124 (by decide) ?_
              refine gq_backi C hM (gq_runV (As := [.int v4, .int (0 : Int32)]) (rest := [.int r11]) C hM (kX_lt hv0 (by decide)) (cX_7 hv0) rfl (c_X7_job l L v0 hv0 v4 (0 : Int32) I11 _ h) k_X7_job gw_624 rfl hl.1 rfl (Nat.le_of_ble_eq_true rfl) ⟨⟨rfl, rfl⟩, Nat.le_of_ble_eq_true rfl, Nat.le_of_ble_eq_true rfl⟩ ⟨Nat.zero_le _, Nat.zero_le _⟩ dL_lines_125) (fun r12 I12 H locs h hM => ?_)
              refine lv_icmp_gt (tgt := 133) hx hb dL_lines_128 (by decide) (fun hc => ?_) (fun hc => ?_)
              · replace h := h.1 hc
                exact tj_L_lines_133 C hK17 ih v0 v1 v2 v3 v4 v5 v6 (hv0) I12 _ _ _ hM (lv_sub hl [2, 3, 4, 5, 6, 7, 8] rfl) h
              · replace h := h.2 hc
                refine lv_iconst (v := (0 : Int32)) hx hb dL_lines_131 (by decide) ?_
                exact gq_zret C hM ⟨rfl, h⟩ (rfl) dL_lines_132
set_option maxHeartbeats 4000000 in
set_option maxRecDepth 100000 in
theorem tl_L_lines_17 (C : gx_C L 282 p s m args meth c RL cL_lines 9 (some .boolean)) {Q : Int32 → gx_M → Prop} : ∀ (fu : Nat) (v0 : Nat) (v1 : Int32) (v2 : Int32) (v3 : Int32) (v4 : Int32) (hv0 : kX v0 = 7) (I : gx_M) (H : Heap) (locs : List Loc) (ls : Array Slot), gx_S L 282 (cellX L I) s.heap H locs → lv_has ls 9 [(0, .ref (gx_ad L v0)), (1, .int v1), (2, .int v2), (3, .int v3), (4, .int v4)] → wl_L_lines_17 Q fu v0 v1 v2 v3 v4 I → W p l e rm_L_lines s m args below meth c H locs 0 0 (MQ below (va_Qi (fun r I' => r &&& 1 = r ∧ Q r I') (fun I' t => gx_U L 282 (cellX L I') t) (gx_A L)) args s 0 0 (gx_A L)) (F0 m 17 ls []) := by
  have hx := C.1
  have hb := C.2.1
  intro fu
  induction fu with
  | zero => intros; rename_i h; exact False.elim h
  | succ fu ih =>
    intro v0 v1 v2 v3 v4 hv0 I H locs ls hM hl h
    rw [wl_L_lines_17] at h
    refine lv_iload hx hb dL_lines_17 (lv_at hl 4 rfl) ?_
    refine lv_iload_n hx hb dL_lines_19 rfl (lv_at hl 1 rfl) ?_
    refine lv_icmp_ge (tgt := 191) hx hb dL_lines_20 (by decide) (fun hc => ?_) (fun hc => ?_)
    · replace h := h.1 hc
      refine lv_aload_n hx hb dL_lines_191 rfl (lv_at hl 0 rfl) ?_
      refine lv_iload_n hx hb dL_lines_192 rfl (lv_at hl 1 rfl) ?_
      refine lv_iconst (v := (0 : Int32)) hx hb dL_lines_193 (by decide) ?_
      refine gq_backi C hM (gq_runV (As := [.int v1, .int (0 : Int32)]) (rest := []) C hM (kX_lt hv0 (by decide)) (cX_7 hv0) rfl (c_X7_job l L v0 hv0 v1 (0 : Int32) I _ h) k_X7_job gw_624 rfl hl.1 rfl (Nat.le_of_ble_eq_true rfl) ⟨⟨rfl, rfl⟩, Nat.le_of_ble_eq_true rfl, Nat.le_of_ble_eq_true rfl⟩ ⟨Nat.zero_le _, Nat.zero_le _⟩ dL_lines_194) (fun r1 I1 H locs h hM => ?_)
      refine gq_ldc (v := (-1000004 : Int32)) C gw_659 dL_lines_197 ?_
      refine lv_icmp_ne (tgt := 228) hx hb dL_lines_199 (by decide) (fun hc => ?_) (fun hc => ?_)
      · replace h := h.2 hc
        refine lv_iconst (v := (0 : Int32)) hx hb dL_lines_228 (by decide) ?_
        exact gq_zret C hM ⟨rfl, h⟩ (rfl) dL_lines_229
      · replace h := h.1 hc
        refine lv_aload_n hx hb dL_lines_202 rfl (lv_at hl 0 rfl) ?_
        refine lv_iconst (v := (-1 : Int32)) hx hb dL_lines_203 (by decide) ?_
        refine lv_iconst (v := (0 : Int32)) hx hb dL_lines_204 (by decide) ?_
        refine gq_backi C hM (gq_runV (As := [.int (-1 : Int32), .int (0 : Int32)]) (rest := []) C hM (kX_lt hv0 (by decide)) (cX_7 hv0) rfl (c_X7_job l L v0 hv0 (-1 : Int32) (0 : Int32) I1 _ h) k_X7_job gw_624 rfl hl.1 rfl (Nat.le_of_ble_eq_true rfl) ⟨⟨rfl, rfl⟩, Nat.le_of_ble_eq_true rfl, Nat.le_of_ble_eq_true rfl⟩ ⟨Nat.zero_le _, Nat.zero_le _⟩ dL_lines_205) (fun r2 I2 H locs h hM => ?_)
        refine gq_ldc (v := (-1000002 : Int32)) C gw_647 dL_lines_208 ?_
        refine lv_icmp_ne (tgt := 228) hx hb dL_lines_210 (by decide) (fun hc => ?_) (fun hc => ?_)
        · replace h := h.2 hc
          refine lv_iconst (v := (0 : Int32)) hx hb dL_lines_228 (by decide) ?_
          exact gq_zret C hM ⟨rfl, h⟩ (rfl) dL_lines_229
        · replace h := h.1 hc
          refine lv_aload_n hx hb dL_lines_213 rfl (lv_at hl 0 rfl) ?_
          refine lv_iconst (v := (0 : Int32)) hx hb dL_lines_214 (by decide) ?_
          refine lv_iconst (v := (5 : Int32)) hx hb dL_lines_215 (by decide) ?_
          refine gq_backi C hM (gq_runV (As := [.int (0 : Int32), .int (5 : Int32)]) (rest := []) C hM (kX_lt hv0 (by decide)) (cX_7 hv0) rfl (c_X7_job l L v0 hv0 (0 : Int32) (5 : Int32) I2 _ h) k_X7_job gw_624 rfl hl.1 rfl (Nat.le_of_ble_eq_true rfl) ⟨⟨rfl, rfl⟩, Nat.le_of_ble_eq_true rfl, Nat.le_of_ble_eq_true rfl⟩ ⟨Nat.zero_le _, Nat.zero_le _⟩ dL_lines_216) (fun r3 I3 H locs h hM => ?_)
          refine gq_ldc (v := (-1000002 : Int32)) C gw_647 dL_lines_219 ?_
          refine lv_icmp_ne (tgt := 228) hx hb dL_lines_221 (by decide) (fun hc => ?_) (fun hc => ?_)
          · replace h := h.2 hc
            refine lv_iconst (v := (0 : Int32)) hx hb dL_lines_228 (by decide) ?_
            exact gq_zret C hM ⟨rfl, h⟩ (rfl) dL_lines_229
          · replace h := h.1 hc
            refine lv_iconst (v := (1 : Int32)) hx hb dL_lines_224 (by decide) ?_
            refine lv_goto (tgt := 229) hx hb dL_lines_225 (by decide) ?_
            exact gq_zret C hM ⟨rfl, h⟩ (rfl) dL_lines_229
    · replace h := h.2 hc
      refine lv_aload_n hx hb dL_lines_23 rfl (lv_at hl 0 rfl) ?_
      refine lv_aload_n hx hb dL_lines_24 rfl (lv_at hl 0 rfl) ?_
      refine lv_iload hx hb dL_lines_25 (lv_at hl 4 rfl) ?_
      refine lv_iconst (v := (2 : Int32)) hx hb dL_lines_27 (by decide) ?_
      refine gq_backi C hM (gq_runV (As := [.int v4, .int (2 : Int32)]) (rest := [.ref (gx_ad L v0)]) C hM (kX_lt hv0 (by decide)) (cX_7 hv0) rfl (c_X7_job l L v0 hv0 v4 (2 : Int32) I _ h) k_X7_job gw_624 rfl hl.1 rfl (Nat.le_of_ble_eq_true rfl) ⟨⟨rfl, rfl⟩, Nat.le_of_ble_eq_true rfl, Nat.le_of_ble_eq_true rfl⟩ ⟨Nat.zero_le _, Nat.zero_le _⟩ dL_lines_28) (fun r4 I4 H locs h hM => ?_)
      refine lv_iconst (v := (0 : Int32)) hx hb dL_lines_31 (by decide) ?_
      refine gq_backi C hM (gq_runV (As := [.int r4, .int (0 : Int32)]) (rest := []) C hM (kX_lt hv0 (by decide)) (cX_7 hv0) rfl (c_X7_rosette l L v0 hv0 r4 (0 : Int32) I4 _ h) k_X7_rosette gw_588 rfl hl.1 rfl (Nat.le_of_ble_eq_true rfl) ⟨⟨rfl, rfl⟩, Nat.le_of_ble_eq_true rfl, Nat.le_of_ble_eq_true rfl⟩ ⟨Nat.zero_le _, Nat.zero_le _⟩ dL_lines_32) (fun r5 I5 H locs h hM => ?_)
      refine lv_iload_n hx hb dL_lines_35 rfl (lv_at hl 2 rfl) ?_
      refine lv_isub hx hb dL_lines_36 ?_
      refine gq_backi C hM (gq_runS (As := [.int (r5 - v2)]) (rest := []) C hM (c_L_size l L (r5 - v2) I5 _ h) k_L_size gw_652 rfl hl.1 rfl (Nat.le_of_ble_eq_true rfl) ⟨⟨rfl, rfl⟩, Nat.le_of_ble_eq_true rfl, Nat.le_of_ble_eq_true rfl⟩ ⟨Nat.zero_le _, Nat.zero_le _⟩ dL_lines_37) (fun r6 I6 H locs h hM => ?_)
      refine lv_istore (lv' := [(5, .int r6), (0, .ref (gx_ad L v0)), (1, .int v1), (2, .int v2), (3, .int v3), (4, .int v4)]) hx hb dL_lines_40 hl (by decide) rfl (fun ls hl => ?_)
      refine lv_iload hx hb dL_lines_42 (lv_at hl 5 rfl) ?_
      refine lv_iconst (v := (1 : Int32)) hx hb dL_lines_44 (by decide) ?_
      refine lv_iadd hx hb dL_lines_45 ?_
      refine lv_topi (fun x1 ex1 => ?_)
      replace h := h x1 ex1
      refine lv_istore (lv' := [(6, .int x1), (5, .int r6), (0, .ref (gx_ad L v0)), (1, .int v1), (2, .int v2), (3, .int v3), (4, .int v4)]) hx hb dL_lines_46 hl (by decide) rfl (fun ls hl => ?_)
      obtain ⟨fv, h⟩ := h
      exact tl_L_lines_48 C ih fv v0 v1 v2 v3 v4 r6 x1 (hv0) I6 _ _ _ hM (lv_sub hl [2, 3, 4, 5, 6, 1, 0] rfl) h
set_option maxHeartbeats 4000000 in
set_option maxRecDepth 100000 in
theorem c_L_lines (l : Launch) (L : gx_L) (p0 : Nat) (hp0 : kX p0 = 7) (I : gx_M) (Q : Int32 → gx_M → Prop) (h : wp_L_lines p0 I Q) : Met l yL_lines (gx_w yL_lines cL_lines 9 (some .boolean)) rm_L_lines (va_Pc [.ref (gx_ad L p0)] (gx_U L 282 (cellX L I))) (va_Qi (fun r I' => r &&& 1 = r ∧ Q r I') (fun I' t => gx_U L 282 (cellX L I') t) (gx_A L)) 0 0 (gx_A L) := by
  refine gq_enter (by decide) (Nat.le_of_ble_eq_true rfl) (fun p e s m below meth c ls C hM hl => ?_)
  have C : gx_C L 282 p s m _ meth c RL cL_lines 9 (some .boolean) := C
  have hl : lv_has ls 9 [(0, .ref (gx_ad L p0))] := hl
  have hx := C.1
  have hb := C.2.1
  unfold wp_L_lines at h
  refine lv_aload_n hx hb dL_lines_0 rfl (lv_at hl 0 rfl) ?_
  refine lv_iconst (v := (1 : Int32)) hx hb dL_lines_1 (by decide) ?_
  refine gq_backi C hM (gq_runV (As := [.int (1 : Int32)]) (rest := []) C hM (kX_lt hp0 (by decide)) (cX_7 hp0) rfl (c_X7_count l L p0 hp0 (1 : Int32) I _ h) k_X7_count gw_601 rfl hl.1 rfl (Nat.le_of_ble_eq_true rfl) ⟨⟨rfl, rfl⟩, Nat.le_of_ble_eq_true rfl, Nat.le_of_ble_eq_true rfl⟩ ⟨Nat.zero_le _, Nat.zero_le _⟩ dL_lines_2) (fun r1 I1 H locs h hM => ?_)
  refine lv_istore_n (lv' := [(1, .int r1), (0, .ref (gx_ad L p0))]) hx hb dL_lines_5 rfl hl (by decide) rfl (fun ls hl => ?_)
  refine lv_aload_n hx hb dL_lines_6 rfl (lv_at hl 1 rfl) ?_
  refine lv_iconst (v := (5 : Int32)) hx hb dL_lines_7 (by decide) ?_
  refine gq_backi C hM (gq_runV (As := [.int (5 : Int32)]) (rest := []) C hM (kX_lt hp0 (by decide)) (cX_7 hp0) rfl (c_X7_count l L p0 hp0 (5 : Int32) I1 _ h) k_X7_count gw_601 rfl hl.1 rfl (Nat.le_of_ble_eq_true rfl) ⟨⟨rfl, rfl⟩, Nat.le_of_ble_eq_true rfl, Nat.le_of_ble_eq_true rfl⟩ ⟨Nat.zero_le _, Nat.zero_le _⟩ dL_lines_8) (fun r2 I2 H locs h hM => ?_)
  refine lv_istore_n (lv' := [(2, .int r2), (1, .int r1), (0, .ref (gx_ad L p0))]) hx hb dL_lines_11 rfl hl (by decide) rfl (fun ls hl => ?_)
  refine lv_iconst (v := (0 : Int32)) hx hb dL_lines_12 (by decide) ?_
  refine lv_istore_n (lv' := [(3, .int (0 : Int32)), (2, .int r2), (1, .int r1), (0, .ref (gx_ad L p0))]) hx hb dL_lines_13 rfl hl (by decide) rfl (fun ls hl => ?_)
  refine lv_iconst (v := (0 : Int32)) hx hb dL_lines_14 (by decide) ?_
  refine lv_istore (lv' := [(4, .int (0 : Int32)), (3, .int (0 : Int32)), (2, .int r2), (1, .int r1), (0, .ref (gx_ad L p0))]) hx hb dL_lines_15 hl (by decide) rfl (fun ls hl => ?_)
  obtain ⟨fv, h⟩ := h
  exact tl_L_lines_17 C fv p0 r1 r2 (0 : Int32) (0 : Int32) (hp0) I2 _ _ _ hM (lv_sub hl [4, 3, 2, 1, 0] rfl) h
theorem k_L_lines : gx_kS yL_lines cL_lines 9 (some .boolean) 1 := ⟨⟨gw_658, gw_21, by decide, by decide, by decide +kernel⟩, gw_657⟩
abbrev rm_L_rail : Room := { frames := 6, cells := 0, slots := 0, locals := 133 }
set_option maxHeartbeats 4000000 in
set_option maxRecDepth 100000 in
theorem tj_L_rail_87 (C : gx_C L 282 p s m args meth c RL cL_rail 6 (some .boolean)) {Q : Int32 → gx_M → Prop} {K9 : Nat → Int32 → Int32 → Int32 → Int32 → gx_M → Prop} (hK9 : ∀ (v0 : Nat) (v1 : Int32) (v2 : Int32) (v3 : Int32) (v4 : Int32) (hv0 : kX v0 = 7) (I : gx_M) (H : Heap) (locs : List Loc) (ls : Array Slot), gx_S L 282 (cellX L I) s.heap H locs → lv_has ls 6 [(0, .ref (gx_ad L v0)), (1, .int v1), (2, .int v2), (3, .int v3), (4, .int v4)] → K9 v0 v1 v2 v3 v4 I → W p l e rm_L_rail s m args below meth c H locs 0 0 (MQ below (va_Qi (fun r I' => r &&& 1 = r ∧ Q r I') (fun I' t => gx_U L 282 (cellX L I') t) (gx_A L)) args s 0 0 (gx_A L)) (F0 m 9 ls [])) : ∀ (v0 : Nat) (v1 : Int32) (v2 : Int32) (v4 : Int32) (u0 : Int32) (hv0 : kX v0 = 7) (I : gx_M) (H : Heap) (locs : List Loc) (ls : Array Slot), gx_S L 282 (cellX L I) s.heap H locs → lv_has ls 6 [(0, .ref (gx_ad L v0)), (1, .int v1), (2, .int v2), (4, .int v4)] → wj_L_rail_87 Q K9 v0 v1 v2 v4 u0 I → W p l e rm_L_rail s m args below meth c H locs 0 0 (MQ below (va_Qi (fun r I' => r &&& 1 = r ∧ Q r I') (fun I' t => gx_U L 282 (cellX L I') t) (gx_A L)) args s 0 0 (gx_A L)) (F0 m 87 ls [.int u0]) := by
  have hx := C.1
  have hb := C.2.1
  intro v0 v1 v2 v4 u0 hv0 I H locs ls hM hl h
  unfold wj_L_rail_87 at h
  refine lv_istore_n (lv' := [(3, .int u0), (0, .ref (gx_ad L v0)), (1, .int v1), (2, .int v2), (4, .int v4)]) hx hb dL_rail_87 rfl hl (by decide) rfl (fun ls hl => ?_)
  obtain ⟨x1, ex1⟩ : ∃ z : Int32, z = v4 + (1 : Int32) := ⟨_, rfl⟩
  replace h := h x1 ex1
  refine lv_iinc (v := x1) (lv' := [(4, .int x1), (3, .int u0), (0, .ref (gx_ad L v0)), (1, .int v1), (2, .int v2)]) hx hb dL_rail_88 hl (k := 4) rfl (by rw [ex1]; rfl) (by decide) rfl (fun ls hl => ?_)
  refine lv_goto (tgt := 9) hx hb dL_rail_91 (by decide) ?_
  exact hK9 v0 v1 v2 u0 x1 (hv0) I _ _ _ hM (lv_sub hl [2, 3, 4, 1, 0] rfl) h
set_option maxHeartbeats 4000000 in
set_option maxRecDepth 100000 in
theorem tj_L_rail_81 (C : gx_C L 282 p s m args meth c RL cL_rail 6 (some .boolean)) {Q : Int32 → gx_M → Prop} {K9 : Nat → Int32 → Int32 → Int32 → Int32 → gx_M → Prop} (hK9 : ∀ (v0 : Nat) (v1 : Int32) (v2 : Int32) (v3 : Int32) (v4 : Int32) (hv0 : kX v0 = 7) (I : gx_M) (H : Heap) (locs : List Loc) (ls : Array Slot), gx_S L 282 (cellX L I) s.heap H locs → lv_has ls 6 [(0, .ref (gx_ad L v0)), (1, .int v1), (2, .int v2), (3, .int v3), (4, .int v4)] → K9 v0 v1 v2 v3 v4 I → W p l e rm_L_rail s m args below meth c H locs 0 0 (MQ below (va_Qi (fun r I' => r &&& 1 = r ∧ Q r I') (fun I' t => gx_U L 282 (cellX L I') t) (gx_A L)) args s 0 0 (gx_A L)) (F0 m 9 ls [])) : ∀ (v0 : Nat) (v1 : Int32) (v2 : Int32) (v4 : Int32) (hv0 : kX v0 = 7) (I : gx_M) (H : Heap) (locs : List Loc) (ls : Array Slot), gx_S L 282 (cellX L I) s.heap H locs → lv_has ls 6 [(0, .ref (gx_ad L v0)), (1, .int v1), (2, .int v2), (4, .int v4)] → wj_L_rail_81 Q K9 v0 v1 v2 v4 I → W p l e rm_L_rail s m args below meth c H locs 0 0 (MQ below (va_Qi (fun r I' => r &&& 1 = r ∧ Q r I') (fun I' t => gx_U L 282 (cellX L I') t) (gx_A L)) args s 0 0 (gx_A L)) (F0 m 81 ls []) := by
  have hx := C.1
  have hb := C.2.1
  intro v0 v1 v2 v4 hv0 I H locs ls hM hl h
  unfold wj_L_rail_81 at h
  refine lv_iload hx hb dL_rail_81 (lv_at hl 3 rfl) ?_
  refine lv_goto (tgt := 87) hx hb dL_rail_83 (by decide) ?_
  exact tj_L_rail_87 C hK9 v0 v1 v2 v4 v4 (hv0) I _ _ _ hM (lv_sub hl [0, 1, 2, 3] rfl) h
set_option maxHeartbeats 4000000 in
set_option maxRecDepth 100000 in
theorem tj_L_rail_86 (C : gx_C L 282 p s m args meth c RL cL_rail 6 (some .boolean)) {Q : Int32 → gx_M → Prop} {K9 : Nat → Int32 → Int32 → Int32 → Int32 → gx_M → Prop} (hK9 : ∀ (v0 : Nat) (v1 : Int32) (v2 : Int32) (v3 : Int32) (v4 : Int32) (hv0 : kX v0 = 7) (I : gx_M) (H : Heap) (locs : List Loc) (ls : Array Slot), gx_S L 282 (cellX L I) s.heap H locs → lv_has ls 6 [(0, .ref (gx_ad L v0)), (1, .int v1), (2, .int v2), (3, .int v3), (4, .int v4)] → K9 v0 v1 v2 v3 v4 I → W p l e rm_L_rail s m args below meth c H locs 0 0 (MQ below (va_Qi (fun r I' => r &&& 1 = r ∧ Q r I') (fun I' t => gx_U L 282 (cellX L I') t) (gx_A L)) args s 0 0 (gx_A L)) (F0 m 9 ls [])) : ∀ (v0 : Nat) (v1 : Int32) (v2 : Int32) (v3 : Int32) (v4 : Int32) (hv0 : kX v0 = 7) (I : gx_M) (H : Heap) (locs : List Loc) (ls : Array Slot), gx_S L 282 (cellX L I) s.heap H locs → lv_has ls 6 [(0, .ref (gx_ad L v0)), (1, .int v1), (2, .int v2), (3, .int v3), (4, .int v4)] → wj_L_rail_86 Q K9 v0 v1 v2 v3 v4 I → W p l e rm_L_rail s m args below meth c H locs 0 0 (MQ below (va_Qi (fun r I' => r &&& 1 = r ∧ Q r I') (fun I' t => gx_U L 282 (cellX L I') t) (gx_A L)) args s 0 0 (gx_A L)) (F0 m 86 ls []) := by
  have hx := C.1
  have hb := C.2.1
  intro v0 v1 v2 v3 v4 hv0 I H locs ls hM hl h
  unfold wj_L_rail_86 at h
  refine lv_iload_n hx hb dL_rail_86 rfl (lv_at hl 3 rfl) ?_
  exact tj_L_rail_87 C hK9 v0 v1 v2 v4 v3 (hv0) I _ _ _ hM (lv_sub hl [0, 1, 2, 4] rfl) h
set_option maxHeartbeats 4000000 in
set_option maxRecDepth 100000 in
theorem tj_L_rail_58 (C : gx_C L 282 p s m args meth c RL cL_rail 6 (some .boolean)) {Q : Int32 → gx_M → Prop} {K9 : Nat → Int32 → Int32 → Int32 → Int32 → gx_M → Prop} (hK9 : ∀ (v0 : Nat) (v1 : Int32) (v2 : Int32) (v3 : Int32) (v4 : Int32) (hv0 : kX v0 = 7) (I : gx_M) (H : Heap) (locs : List Loc) (ls : Array Slot), gx_S L 282 (cellX L I) s.heap H locs → lv_has ls 6 [(0, .ref (gx_ad L v0)), (1, .int v1), (2, .int v2), (3, .int v3), (4, .int v4)] → K9 v0 v1 v2 v3 v4 I → W p l e rm_L_rail s m args below meth c H locs 0 0 (MQ below (va_Qi (fun r I' => r &&& 1 = r ∧ Q r I') (fun I' t => gx_U L 282 (cellX L I') t) (gx_A L)) args s 0 0 (gx_A L)) (F0 m 9 ls [])) : ∀ (v0 : Nat) (v1 : Int32) (v3 : Int32) (v4 : Int32) (v5 : Int32) (u0 : Int32) (hv0 : kX v0 = 7) (I : gx_M) (H : Heap) (locs : List Loc) (ls : Array Slot), gx_S L 282 (cellX L I) s.heap H locs → lv_has ls 6 [(0, .ref (gx_ad L v0)), (1, .int v1), (3, .int v3), (4, .int v4), (5, .int v5)] → wj_L_rail_58 Q K9 v0 v1 v3 v4 v5 u0 I → W p l e rm_L_rail s m args below meth c H locs 0 0 (MQ below (va_Qi (fun r I' => r &&& 1 = r ∧ Q r I') (fun I' t => gx_U L 282 (cellX L I') t) (gx_A L)) args s 0 0 (gx_A L)) (F0 m 58 ls [.int u0]) := by
  have hx := C.1
  have hb := C.2.1
  intro v0 v1 v3 v4 v5 u0 hv0 I H locs ls hM hl h
  unfold wj_L_rail_58 at h
  refine lv_istore_n (lv' := [(2, .int u0), (0, .ref (gx_ad L v0)), (1, .int v1), (3, .int v3), (4, .int v4), (5, .int v5)]) hx hb dL_rail_58 rfl hl (by decide) rfl (fun ls hl => ?_)
  refine lv_iload hx hb dL_rail_59 (lv_at hl 5 rfl) ?_
  refine lv_if_ge (tgt := 86) hx hb dL_rail_61 (by decide) (fun hc => ?_) (fun hc => ?_)
  · replace h := h.1 hc
    exact tj_L_rail_86 C hK9 v0 v1 u0 v3 v4 (hv0) I _ _ _ hM (lv_sub hl [1, 2, 0, 3, 4] rfl) h
  · replace h := h.2 hc
    refine lv_iload_n hx hb dL_rail_64 rfl (lv_at hl 3 rfl) ?_
    refine lv_if_lt (tgt := 81) hx hb dL_rail_65 (by decide) (fun hc => ?_) (fun hc => ?_)
    · replace h := h.1 hc
      exact tj_L_rail_81 C hK9 v0 v1 u0 v4 (hv0) I _ _ _ hM (lv_sub hl [1, 2, 0, 4] rfl) h
    · replace h := h.2 hc
      refine lv_iload hx hb dL_rail_68 (lv_at hl 5 rfl) ?_
      refine lv_aload_n hx hb dL_rail_70 rfl (lv_at hl 1 rfl) ?_
      refine lv_iload_n hx hb dL_rail_71 rfl (lv_at hl 3 rfl) ?_
      refine lv_iconst (v := (0 : Int32)) hx hb dL_rail_72 (by decide) ?_
      refine gq_backi C hM (gq_runV (As := [.int v3, .int (0 : Int32)]) (rest := [.int v5]) C hM (kX_lt hv0 (by decide)) (cX_7 hv0) rfl (c_X7_rosette l L v0 hv0 v3 (0 : Int32) I _ h) k_X7_rosette gw_588 rfl hl.1 rfl (Nat.le_of_ble_eq_true rfl) ⟨⟨rfl, rfl⟩, Nat.le_of_ble_eq_true rfl, Nat.le_of_ble_eq_true rfl⟩ ⟨Nat.zero_le _, Nat.zero_le _⟩ dL_rail_73) (fun r1 I1 H locs h hM => ?_)
      refine lv_iload_n hx hb dL_rail_76 rfl (lv_at hl 2 rfl) ?_
      refine lv_isub hx hb dL_rail_77 ?_
      refine lv_icmp_le (tgt := 86) hx hb dL_rail_78 (by decide) (fun hc => ?_) (fun hc => ?_)
      · replace h := h.1 hc
        exact tj_L_rail_86 C hK9 v0 v1 u0 v3 v4 (hv0) I1 _ _ _ hM (lv_sub hl [1, 2, 0, 3, 4] rfl) h
      · replace h := h.2 hc
        exact tj_L_rail_81 C hK9 v0 v1 u0 v4 (hv0) I1 _ _ _ hM (lv_sub hl [1, 2, 0, 4] rfl) h
set_option maxHeartbeats 4000000 in
set_option maxRecDepth 100000 in
theorem tj_L_rail_52 (C : gx_C L 282 p s m args meth c RL cL_rail 6 (some .boolean)) {Q : Int32 → gx_M → Prop} {K9 : Nat → Int32 → Int32 → Int32 → Int32 → gx_M → Prop} (hK9 : ∀ (v0 : Nat) (v1 : Int32) (v2 : Int32) (v3 : Int32) (v4 : Int32) (hv0 : kX v0 = 7) (I : gx_M) (H : Heap) (locs : List Loc) (ls : Array Slot), gx_S L 282 (cellX L I) s.heap H locs → lv_has ls 6 [(0, .ref (gx_ad L v0)), (1, .int v1), (2, .int v2), (3, .int v3), (4, .int v4)] → K9 v0 v1 v2 v3 v4 I → W p l e rm_L_rail s m args below meth c H locs 0 0 (MQ below (va_Qi (fun r I' => r &&& 1 = r ∧ Q r I') (fun I' t => gx_U L 282 (cellX L I') t) (gx_A L)) args s 0 0 (gx_A L)) (F0 m 9 ls [])) : ∀ (v0 : Nat) (v1 : Int32) (v3 : Int32) (v4 : Int32) (v5 : Int32) (hv0 : kX v0 = 7) (I : gx_M) (H : Heap) (locs : List Loc) (ls : Array Slot), gx_S L 282 (cellX L I) s.heap H locs → lv_has ls 6 [(0, .ref (gx_ad L v0)), (1, .int v1), (3, .int v3), (4, .int v4), (5, .int v5)] → wj_L_rail_52 Q K9 v0 v1 v3 v4 v5 I → W p l e rm_L_rail s m args below meth c H locs 0 0 (MQ below (va_Qi (fun r I' => r &&& 1 = r ∧ Q r I') (fun I' t => gx_U L 282 (cellX L I') t) (gx_A L)) args s 0 0 (gx_A L)) (F0 m 52 ls []) := by
  have hx := C.1
  have hb := C.2.1
  intro v0 v1 v3 v4 v5 hv0 I H locs ls hM hl h
  unfold wj_L_rail_52 at h
  refine lv_iload hx hb dL_rail_52 (lv_at hl 3 rfl) ?_
  refine lv_goto (tgt := 58) hx hb dL_rail_54 (by decide) ?_
  exact tj_L_rail_58 C hK9 v0 v1 v3 v4 v5 v4 (hv0) I _ _ _ hM (lv_sub hl [0, 1, 2, 3, 4] rfl) h
set_option maxHeartbeats 4000000 in
set_option maxRecDepth 100000 in
theorem tj_L_rail_57 (C : gx_C L 282 p s m args meth c RL cL_rail 6 (some .boolean)) {Q : Int32 → gx_M → Prop} {K9 : Nat → Int32 → Int32 → Int32 → Int32 → gx_M → Prop} (hK9 : ∀ (v0 : Nat) (v1 : Int32) (v2 : Int32) (v3 : Int32) (v4 : Int32) (hv0 : kX v0 = 7) (I : gx_M) (H : Heap) (locs : List Loc) (ls : Array Slot), gx_S L 282 (cellX L I) s.heap H locs → lv_has ls 6 [(0, .ref (gx_ad L v0)), (1, .int v1), (2, .int v2), (3, .int v3), (4, .int v4)] → K9 v0 v1 v2 v3 v4 I → W p l e rm_L_rail s m args below meth c H locs 0 0 (MQ below (va_Qi (fun r I' => r &&& 1 = r ∧ Q r I') (fun I' t => gx_U L 282 (cellX L I') t) (gx_A L)) args s 0 0 (gx_A L)) (F0 m 9 ls [])) : ∀ (v0 : Nat) (v1 : Int32) (v2 : Int32) (v3 : Int32) (v4 : Int32) (v5 : Int32) (hv0 : kX v0 = 7) (I : gx_M) (H : Heap) (locs : List Loc) (ls : Array Slot), gx_S L 282 (cellX L I) s.heap H locs → lv_has ls 6 [(0, .ref (gx_ad L v0)), (1, .int v1), (2, .int v2), (3, .int v3), (4, .int v4), (5, .int v5)] → wj_L_rail_57 Q K9 v0 v1 v2 v3 v4 v5 I → W p l e rm_L_rail s m args below meth c H locs 0 0 (MQ below (va_Qi (fun r I' => r &&& 1 = r ∧ Q r I') (fun I' t => gx_U L 282 (cellX L I') t) (gx_A L)) args s 0 0 (gx_A L)) (F0 m 57 ls []) := by
  have hx := C.1
  have hb := C.2.1
  intro v0 v1 v2 v3 v4 v5 hv0 I H locs ls hM hl h
  unfold wj_L_rail_57 at h
  refine lv_iload_n hx hb dL_rail_57 rfl (lv_at hl 2 rfl) ?_
  exact tj_L_rail_58 C hK9 v0 v1 v3 v4 v5 v2 (hv0) I _ _ _ hM (lv_sub hl [0, 1, 3, 4, 5] rfl) h
set_option maxHeartbeats 4000000 in
set_option maxRecDepth 100000 in
theorem tl_L_rail_9 (C : gx_C L 282 p s m args meth c RL cL_rail 6 (some .boolean)) {Q : Int32 → gx_M → Prop} : ∀ (fu : Nat) (v0 : Nat) (v1 : Int32) (v2 : Int32) (v3 : Int32) (v4 : Int32) (hv0 : kX v0 = 7) (I : gx_M) (H : Heap) (locs : List Loc) (ls : Array Slot), gx_S L 282 (cellX L I) s.heap H locs → lv_has ls 6 [(0, .ref (gx_ad L v0)), (1, .int v1), (2, .int v2), (3, .int v3), (4, .int v4)] → wl_L_rail_9 Q fu v0 v1 v2 v3 v4 I → W p l e rm_L_rail s m args below meth c H locs 0 0 (MQ below (va_Qi (fun r I' => r &&& 1 = r ∧ Q r I') (fun I' t => gx_U L 282 (cellX L I') t) (gx_A L)) args s 0 0 (gx_A L)) (F0 m 9 ls []) := by
  have hx := C.1
  have hb := C.2.1
  intro fu
  induction fu with
  | zero => intros; rename_i h; exact False.elim h
  | succ fu ih =>
    intro v0 v1 v2 v3 v4 hv0 I H locs ls hM hl h
    rw [wl_L_rail_9] at h
    refine lv_iload hx hb dL_rail_9 (lv_at hl 4 rfl) ?_
    refine lv_aload_n hx hb dL_rail_11 rfl (lv_at hl 0 rfl) ?_
    refine lv_iconst (v := (0 : Int32)) hx hb dL_rail_12 (by decide) ?_
    refine gq_backi C hM (gq_runV (As := [.int (0 : Int32)]) (rest := [.int v4]) C hM (kX_lt hv0 (by decide)) (cX_7 hv0) rfl (c_X7_count l L v0 hv0 (0 : Int32) I _ h) k_X7_count gw_601 rfl hl.1 rfl (Nat.le_of_ble_eq_true rfl) ⟨⟨rfl, rfl⟩, Nat.le_of_ble_eq_true rfl, Nat.le_of_ble_eq_true rfl⟩ ⟨Nat.zero_le _, Nat.zero_le _⟩ dL_rail_13) (fun r1 I1 H locs h hM => ?_)
    refine lv_icmp_ge (tgt := 94) hx hb dL_rail_16 (by decide) (fun hc => ?_) (fun hc => ?_)
    · replace h := h.1 hc
      refine lv_aload_n hx hb dL_rail_94 rfl (lv_at hl 0 rfl) ?_
      refine lv_iload_n hx hb dL_rail_95 rfl (lv_at hl 1 rfl) ?_
      refine lv_iconst (v := (1 : Int32)) hx hb dL_rail_96 (by decide) ?_
      refine gq_backi C hM (gq_runV (As := [.int v1, .int (1 : Int32)]) (rest := []) C hM (kX_lt hv0 (by decide)) (cX_7 hv0) rfl (c_X7_neighbour l L v0 hv0 v1 (1 : Int32) I1 _ h) k_X7_neighbour gw_596 rfl hl.1 rfl (Nat.le_of_ble_eq_true rfl) ⟨⟨rfl, rfl⟩, Nat.le_of_ble_eq_true rfl, Nat.le_of_ble_eq_true rfl⟩ ⟨Nat.zero_le _, Nat.zero_le _⟩ dL_rail_97) (fun r2 I2 H locs h hM => ?_)
      refine lv_iload_n hx hb dL_rail_100 rfl (lv_at hl 2 rfl) ?_
      refine lv_icmp_ne (tgt := 131) hx hb dL_rail_101 (by decide) (fun hc => ?_) (fun hc => ?_)
      · replace h := h.2 hc
        refine lv_iconst (v := (0 : Int32)) hx hb dL_rail_131 (by decide) ?_
        exact gq_zret C hM ⟨rfl, h⟩ (rfl) dL_rail_132
      · replace h := h.1 hc
        refine lv_aload_n hx hb dL_rail_104 rfl (lv_at hl 0 rfl) ?_
        refine lv_iload_n hx hb dL_rail_105 rfl (lv_at hl 1 rfl) ?_
        refine lv_iconst (v := (0 : Int32)) hx hb dL_rail_106 (by decide) ?_
        refine gq_backi C hM (gq_runV (As := [.int v1, .int (0 : Int32)]) (rest := []) C hM (kX_lt hv0 (by decide)) (cX_7 hv0) rfl (c_X7_neighbour l L v0 hv0 v1 (0 : Int32) I2 _ h) k_X7_neighbour gw_596 rfl hl.1 rfl (Nat.le_of_ble_eq_true rfl) ⟨⟨rfl, rfl⟩, Nat.le_of_ble_eq_true rfl, Nat.le_of_ble_eq_true rfl⟩ ⟨Nat.zero_le _, Nat.zero_le _⟩ dL_rail_107) (fun r3 I3 H locs h hM => ?_)
        refine lv_iload_n hx hb dL_rail_110 rfl (lv_at hl 3 rfl) ?_
        refine lv_icmp_ne (tgt := 131) hx hb dL_rail_111 (by decide) (fun hc => ?_) (fun hc => ?_)
        · replace h := h.2 hc
          refine lv_iconst (v := (0 : Int32)) hx hb dL_rail_131 (by decide) ?_
          exact gq_zret C hM ⟨rfl, h⟩ (rfl) dL_rail_132
        · replace h := h.1 hc
          refine lv_aload_n hx hb dL_rail_114 rfl (lv_at hl 0 rfl) ?_
          refine lv_sipush (v := (1001 : Int32)) hx hb dL_rail_115 (by decide) ?_
          refine lv_iconst (v := (1 : Int32)) hx hb dL_rail_118 (by decide) ?_
          refine gq_backi C hM (gq_runV (As := [.int (1001 : Int32), .int (1 : Int32)]) (rest := []) C hM (kX_lt hv0 (by decide)) (cX_7 hv0) rfl (c_X7_neighbour l L v0 hv0 (1001 : Int32) (1 : Int32) I3 _ h) k_X7_neighbour gw_596 rfl hl.1 rfl (Nat.le_of_ble_eq_true rfl) ⟨⟨rfl, rfl⟩, Nat.le_of_ble_eq_true rfl, Nat.le_of_ble_eq_true rfl⟩ ⟨Nat.zero_le _, Nat.zero_le _⟩ dL_rail_119) (fun r4 I4 H locs h hM => ?_)
          refine gq_ldc (v := (-1000002 : Int32)) C gw_647 dL_rail_122 ?_
          refine lv_icmp_ne (tgt := 131) hx hb dL_rail_124 (by decide) (fun hc => ?_) (fun hc => ?_)
          · replace h := h.2 hc
            refine lv_iconst (v := (0 : Int32)) hx hb dL_rail_131 (by decide) ?_
            exact gq_zret C hM ⟨rfl, h⟩ (rfl) dL_rail_132
          · replace h := h.1 hc
            refine lv_iconst (v := (1 : Int32)) hx hb dL_rail_127 (by decide) ?_
            refine lv_goto (tgt := 132) hx hb dL_rail_128 (by decide) ?_
            exact gq_zret C hM ⟨rfl, h⟩ (rfl) dL_rail_132
    · replace h := h.2 hc
      refine lv_aload_n hx hb dL_rail_19 rfl (lv_at hl 0 rfl) ?_
      refine lv_iload hx hb dL_rail_20 (lv_at hl 4 rfl) ?_
      refine lv_iconst (v := (0 : Int32)) hx hb dL_rail_22 (by decide) ?_
      refine gq_backi C hM (gq_runV (As := [.int v4, .int (0 : Int32)]) (rest := []) C hM (kX_lt hv0 (by decide)) (cX_7 hv0) rfl (c_X7_rosette l L v0 hv0 v4 (0 : Int32) I1 _ h) k_X7_rosette gw_588 rfl hl.1 rfl (Nat.le_of_ble_eq_true rfl) ⟨⟨rfl, rfl⟩, Nat.le_of_ble_eq_true rfl, Nat.le_of_ble_eq_true rfl⟩ ⟨Nat.zero_le _, Nat.zero_le _⟩ dL_rail_23) (fun r5 I5 H locs h hM => ?_)
      refine lv_iload_n hx hb dL_rail_26 rfl (lv_at hl 1 rfl) ?_
      refine lv_isub hx hb dL_rail_27 ?_
      refine lv_topi (fun x1 ex1 => ?_)
      replace h := h x1 ex1
      refine lv_istore (lv' := [(5, .int x1), (0, .ref (gx_ad L v0)), (1, .int v1), (2, .int v2), (3, .int v3), (4, .int v4)]) hx hb dL_rail_28 hl (by decide) rfl (fun ls hl => ?_)
      refine lv_iload hx hb dL_rail_30 (lv_at hl 0 rfl) ?_
      refine lv_if_le (tgt := 57) hx hb dL_rail_32 (by decide) (fun hc => ?_) (fun hc => ?_)
      · replace h := h.1 hc
        exact tj_L_rail_57 C ih v0 v1 v2 v3 v4 x1 (hv0) I5 _ _ _ hM (lv_sub hl [1, 2, 3, 4, 5, 0] rfl) h
      · replace h := h.2 hc
        refine lv_iload_n hx hb dL_rail_35 rfl (lv_at hl 3 rfl) ?_
        refine lv_if_lt (tgt := 52) hx hb dL_rail_36 (by decide) (fun hc => ?_) (fun hc => ?_)
        · replace h := h.1 hc
          exact tj_L_rail_52 C ih v0 v1 v3 v4 x1 (hv0) I5 _ _ _ hM (lv_sub hl [1, 2, 4, 5, 0] rfl) h
        · replace h := h.2 hc
          refine lv_iload hx hb dL_rail_39 (lv_at hl 0 rfl) ?_
          refine lv_aload_n hx hb dL_rail_41 rfl (lv_at hl 1 rfl) ?_
          refine lv_iload_n hx hb dL_rail_42 rfl (lv_at hl 3 rfl) ?_
          refine lv_iconst (v := (0 : Int32)) hx hb dL_rail_43 (by decide) ?_
          refine gq_backi C hM (gq_runV (As := [.int v2, .int (0 : Int32)]) (rest := [.int x1]) C hM (kX_lt hv0 (by decide)) (cX_7 hv0) rfl (c_X7_rosette l L v0 hv0 v2 (0 : Int32) I5 _ h) k_X7_rosette gw_588 rfl hl.1 rfl (Nat.le_of_ble_eq_true rfl) ⟨⟨rfl, rfl⟩, Nat.le_of_ble_eq_true rfl, Nat.le_of_ble_eq_true rfl⟩ ⟨Nat.zero_le _, Nat.zero_le _⟩ dL_rail_44) (fun r6 I6 H locs h hM => ?_)
          refine lv_iload_n hx hb dL_rail_47 rfl (lv_at hl 2 rfl) ?_
          refine lv_isub hx hb dL_rail_48 ?_
          refine lv_icmp_ge (tgt := 57) hx hb dL_rail_49 (by decide) (fun hc => ?_) (fun hc => ?_)
          · replace h := h.1 hc
            exact tj_L_rail_57 C ih v0 v1 v2 v3 v4 x1 (hv0) I6 _ _ _ hM (lv_sub hl [1, 2, 3, 4, 5, 0] rfl) h
          · replace h := h.2 hc
            exact tj_L_rail_52 C ih v0 v1 v3 v4 x1 (hv0) I6 _ _ _ hM (lv_sub hl [1, 2, 4, 5, 0] rfl) h
set_option maxHeartbeats 4000000 in
set_option maxRecDepth 100000 in
theorem c_L_rail (l : Launch) (L : gx_L) (p0 : Nat) (hp0 : kX p0 = 7) (p1 : Int32) (I : gx_M) (Q : Int32 → gx_M → Prop) (h : wp_L_rail p0 p1 I Q) : Met l yL_rail (gx_w yL_rail cL_rail 6 (some .boolean)) rm_L_rail (va_Pc [.ref (gx_ad L p0), .int p1] (gx_U L 282 (cellX L I))) (va_Qi (fun r I' => r &&& 1 = r ∧ Q r I') (fun I' t => gx_U L 282 (cellX L I') t) (gx_A L)) 0 0 (gx_A L) := by
  refine gq_enter (by decide) (Nat.le_of_ble_eq_true rfl) (fun p e s m below meth c ls C hM hl => ?_)
  have C : gx_C L 282 p s m _ meth c RL cL_rail 6 (some .boolean) := C
  have hl : lv_has ls 6 [(0, .ref (gx_ad L p0)), (1, .int p1)] := hl
  have hx := C.1
  have hb := C.2.1
  unfold wp_L_rail at h
  refine gq_ldc (v := (-1000004 : Int32)) C gw_659 dL_rail_0 ?_
  refine lv_istore_n (lv' := [(2, .int (-1000004 : Int32)), (0, .ref (gx_ad L p0)), (1, .int p1)]) hx hb dL_rail_2 rfl hl (by decide) rfl (fun ls hl => ?_)
  refine gq_ldc (v := (-1000004 : Int32)) C gw_659 dL_rail_3 ?_
  refine lv_istore_n (lv' := [(3, .int (-1000004 : Int32)), (2, .int (-1000004 : Int32)), (0, .ref (gx_ad L p0)), (1, .int p1)]) hx hb dL_rail_5 rfl hl (by decide) rfl (fun ls hl => ?_)
  refine lv_iconst (v := (0 : Int32)) hx hb dL_rail_6 (by decide) ?_
  refine lv_istore (lv' := [(4, .int (0 : Int32)), (3, .int (-1000004 : Int32)), (2, .int (-1000004 : Int32)), (0, .ref (gx_ad L p0)), (1, .int p1)]) hx hb dL_rail_7 hl (by decide) rfl (fun ls hl => ?_)
  obtain ⟨fv, h⟩ := h
  exact tl_L_rail_9 C fv p0 p1 (-1000004 : Int32) (-1000004 : Int32) (0 : Int32) (hp0) I _ _ _ hM (lv_sub hl [3, 4, 2, 1, 0] rfl) h
theorem k_L_rail : gx_kS yL_rail cL_rail 6 (some .boolean) 2 := ⟨⟨gw_662, gw_21, by decide, by decide, by decide +kernel⟩, gw_661⟩
end
