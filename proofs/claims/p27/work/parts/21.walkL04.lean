section
variable {p : Program} {l : Launch} {e : Env} {s : State} {m : MethodId} {args : Array Value} {below : List Frame} {meth : Method} {c : Code} {L : gx_L}
abbrev rm_L_works : Room := { frames := 7, cells := 0, slots := 0, locals := 159 }
set_option maxHeartbeats 4000000 in
set_option maxRecDepth 100000 in
theorem c_L_works (l : Launch) (L : gx_L) (p0 : Nat) (hp0 : kX p0 = 7) (p1 : Int32) (I : gx_M) (Q : Int32 → gx_M → Prop) (h : wp_L_works p0 p1 I Q) : Met l yL_works (gx_w yL_works cL_works 9 (some .boolean)) rm_L_works (va_Pc [.ref (gx_ad L p0), .int p1] (gx_U L 282 (cellX L I))) (va_Qi (fun r I' => r &&& 1 = r ∧ Q r I') (fun I' t => gx_U L 282 (cellX L I') t) (gx_A L)) 0 0 (gx_A L) := by
  refine gq_enter (by decide) (Nat.le_of_ble_eq_true rfl) (fun p e s m below meth c ls C hM hl => ?_)
  have C : gx_C L 282 p s m _ meth c RL cL_works 9 (some .boolean) := C
  have hl : lv_has ls 9 [(0, .ref (gx_ad L p0)), (1, .int p1)] := hl
  have hx := C.1
  have hb := C.2.1
  unfold wp_L_works at h
  refine lv_aload_n hx hb dL_works_0 rfl (lv_at hl 0 rfl) ?_
  refine lv_iconst (v := (1 : Int32)) hx hb dL_works_1 (by decide) ?_
  refine gq_backi C hM (gq_runV (As := [.int (1 : Int32)]) (rest := []) C hM (kX_lt hp0 (by decide)) (cX_7 hp0) rfl (c_X7_count l L p0 hp0 (1 : Int32) I _ h) k_X7_count gw_601 rfl hl.1 rfl (Nat.le_of_ble_eq_true rfl) ⟨⟨rfl, rfl⟩, Nat.le_of_ble_eq_true rfl, Nat.le_of_ble_eq_true rfl⟩ ⟨Nat.zero_le _, Nat.zero_le _⟩ dL_works_2) (fun r1 I1 H locs h hM => ?_)
  refine lv_istore_n (lv' := [(2, .int r1), (0, .ref (gx_ad L p0)), (1, .int p1)]) hx hb dL_works_5 rfl hl (by decide) rfl (fun ls hl => ?_)
  refine lv_iload_n hx hb dL_works_6 rfl (lv_at hl 0 rfl) ?_
  refine lv_if_ne (tgt := 34) hx hb dL_works_7 (by decide) (fun hc => ?_) (fun hc => ?_)
  · replace h := h.2 hc
    refine lv_aload_n hx hb dL_works_34 rfl (lv_at hl 1 rfl) ?_
    refine lv_iconst (v := (3 : Int32)) hx hb dL_works_35 (by decide) ?_
    refine gq_backi C hM (gq_runV (As := [.int (3 : Int32)]) (rest := []) C hM (kX_lt hp0 (by decide)) (cX_7 hp0) rfl (c_X7_count l L p0 hp0 (3 : Int32) I1 _ h) k_X7_count gw_601 rfl hl.1 rfl (Nat.le_of_ble_eq_true rfl) ⟨⟨rfl, rfl⟩, Nat.le_of_ble_eq_true rfl, Nat.le_of_ble_eq_true rfl⟩ ⟨Nat.zero_le _, Nat.zero_le _⟩ dL_works_36) (fun r2 I2 H locs h hM => ?_)
    refine lv_istore_n (lv' := [(3, .int r2), (2, .int r1), (0, .ref (gx_ad L p0)), (1, .int p1)]) hx hb dL_works_39 rfl hl (by decide) rfl (fun ls hl => ?_)
    refine lv_aload_n hx hb dL_works_40 rfl (lv_at hl 2 rfl) ?_
    refine lv_iconst (v := (4 : Int32)) hx hb dL_works_41 (by decide) ?_
    refine gq_backi C hM (gq_runV (As := [.int (4 : Int32)]) (rest := []) C hM (kX_lt hp0 (by decide)) (cX_7 hp0) rfl (c_X7_count l L p0 hp0 (4 : Int32) I2 _ h) k_X7_count gw_601 rfl hl.1 rfl (Nat.le_of_ble_eq_true rfl) ⟨⟨rfl, rfl⟩, Nat.le_of_ble_eq_true rfl, Nat.le_of_ble_eq_true rfl⟩ ⟨Nat.zero_le _, Nat.zero_le _⟩ dL_works_42) (fun r3 I3 H locs h hM => ?_)
    refine lv_istore (lv' := [(4, .int r3), (3, .int r2), (2, .int r1), (0, .ref (gx_ad L p0)), (1, .int p1)]) hx hb dL_works_45 hl (by decide) rfl (fun ls hl => ?_)
    refine lv_aload_n hx hb dL_works_47 rfl (lv_at hl 3 rfl) ?_
    refine lv_bipush (v := (6 : Int32)) hx hb dL_works_48 (by decide) ?_
    refine gq_backi C hM (gq_runV (As := [.int (6 : Int32)]) (rest := []) C hM (kX_lt hp0 (by decide)) (cX_7 hp0) rfl (c_X7_count l L p0 hp0 (6 : Int32) I3 _ h) k_X7_count gw_601 rfl hl.1 rfl (Nat.le_of_ble_eq_true rfl) ⟨⟨rfl, rfl⟩, Nat.le_of_ble_eq_true rfl, Nat.le_of_ble_eq_true rfl⟩ ⟨Nat.zero_le _, Nat.zero_le _⟩ dL_works_50) (fun r4 I4 H locs h hM => ?_)
    refine lv_istore (lv' := [(5, .int r4), (4, .int r3), (3, .int r2), (2, .int r1), (0, .ref (gx_ad L p0)), (1, .int p1)]) hx hb dL_works_53 hl (by decide) rfl (fun ls hl => ?_)
    refine lv_iload_n hx hb dL_works_55 rfl (lv_at hl 5 rfl) ?_
    refine lv_iconst (v := (1 : Int32)) hx hb dL_works_56 (by decide) ?_
    refine lv_iand hx hb dL_works_57 ?_
    refine lv_if_ne (tgt := 169) hx hb dL_works_58 (by decide) (fun hc => ?_) (fun hc => ?_)
    · replace h := h.2 hc
      refine lv_aload_n hx hb dL_works_169 rfl (lv_at hl 4 rfl) ?_
      refine lv_iload_n hx hb dL_works_170 rfl (lv_at hl 3 rfl) ?_
      refine lv_iconst (v := (1 : Int32)) hx hb dL_works_171 (by decide) ?_
      refine lv_isub hx hb dL_works_172 ?_
      refine lv_iconst (v := (2 : Int32)) hx hb dL_works_173 (by decide) ?_
      refine gq_backi C hM (gq_runV (As := [.int (r1 - (1 : Int32)), .int (2 : Int32)]) (rest := []) C hM (kX_lt hp0 (by decide)) (cX_7 hp0) rfl (c_X7_job l L p0 hp0 (r1 - (1 : Int32)) (2 : Int32) I4 _ h) k_X7_job gw_624 rfl hl.1 rfl (Nat.le_of_ble_eq_true rfl) ⟨⟨rfl, rfl⟩, Nat.le_of_ble_eq_true rfl, Nat.le_of_ble_eq_true rfl⟩ ⟨Nat.zero_le _, Nat.zero_le _⟩ dL_works_174) (fun r5 I5 H locs h hM => ?_)
      refine lv_istore (lv' := [(6, .int r5), (5, .int r4), (4, .int r3), (3, .int r2), (2, .int r1), (0, .ref (gx_ad L p0)), (1, .int p1)]) hx hb dL_works_177 hl (by decide) rfl (fun ls hl => ?_)
      refine lv_aload_n hx hb dL_works_179 rfl (lv_at hl 5 rfl) ?_
      refine lv_iload_n hx hb dL_works_180 rfl (lv_at hl 4 rfl) ?_
      refine lv_iconst (v := (1 : Int32)) hx hb dL_works_181 (by decide) ?_
      refine lv_isub hx hb dL_works_182 ?_
      refine lv_iconst (v := (4 : Int32)) hx hb dL_works_183 (by decide) ?_
      refine gq_backi C hM (gq_runV (As := [.int (r1 - (1 : Int32)), .int (4 : Int32)]) (rest := []) C hM (kX_lt hp0 (by decide)) (cX_7 hp0) rfl (c_X7_job l L p0 hp0 (r1 - (1 : Int32)) (4 : Int32) I5 _ h) k_X7_job gw_624 rfl hl.1 rfl (Nat.le_of_ble_eq_true rfl) ⟨⟨rfl, rfl⟩, Nat.le_of_ble_eq_true rfl, Nat.le_of_ble_eq_true rfl⟩ ⟨Nat.zero_le _, Nat.zero_le _⟩ dL_works_184) (fun r6 I6 H locs h hM => ?_)
      refine lv_istore (lv' := [(7, .int r6), (6, .int r5), (5, .int r4), (4, .int r3), (3, .int r2), (2, .int r1), (0, .ref (gx_ad L p0)), (1, .int p1)]) hx hb dL_works_187 hl (by decide) rfl (fun ls hl => ?_)
      refine lv_aload_n hx hb dL_works_189 rfl (lv_at hl 6 rfl) ?_
      refine gq_backi C hM (gq_runV (As := []) (rest := []) C hM (kX_lt hp0 (by decide)) (cX_7 hp0) rfl (c_X7_workOff l L p0 hp0 I6 _ h) k_X7_workOff gw_666 rfl hl.1 rfl (Nat.le_of_ble_eq_true rfl) ⟨⟨rfl, rfl⟩, Nat.le_of_ble_eq_true rfl, Nat.le_of_ble_eq_true rfl⟩ ⟨Nat.zero_le _, Nat.zero_le _⟩ dL_works_190) (fun r7 I7 H locs h hM => ?_)
      refine lv_istore (lv' := [(8, .int r7), (7, .int r6), (6, .int r5), (5, .int r4), (4, .int r3), (3, .int r2), (2, .int r1), (0, .ref (gx_ad L p0)), (1, .int p1)]) hx hb dL_works_193 hl (by decide) rfl (fun ls hl => ?_)
      refine lv_aload_n hx hb dL_works_195 rfl (lv_at hl 7 rfl) ?_
      refine lv_iconst (v := (3 : Int32)) hx hb dL_works_196 (by decide) ?_
      refine gq_backi C hM (gq_runV (As := [.int (3 : Int32)]) (rest := []) C hM (kX_lt hp0 (by decide)) (cX_7 hp0) rfl (c_X7_count l L p0 hp0 (3 : Int32) I7 _ h) k_X7_count gw_601 rfl hl.1 rfl (Nat.le_of_ble_eq_true rfl) ⟨⟨rfl, rfl⟩, Nat.le_of_ble_eq_true rfl, Nat.le_of_ble_eq_true rfl⟩ ⟨Nat.zero_le _, Nat.zero_le _⟩ dL_works_197) (fun r8 I8 H locs h hM => ?_)
      refine lv_iload_n hx hb dL_works_200 rfl (lv_at hl 5 rfl) ?_
      refine lv_iload_n hx hb dL_works_201 rfl (lv_at hl 6 rfl) ?_
      refine lv_iadd hx hb dL_works_202 ?_
      refine lv_icmp_ne (tgt := 280) hx hb dL_works_203 (by decide) (fun hc => ?_) (fun hc => ?_)
      · replace h := h.2 hc
        refine lv_iconst (v := (0 : Int32)) hx hb dL_works_280 (by decide) ?_
        exact gq_zret C hM ⟨rfl, h⟩ (rfl) dL_works_281
      · replace h := h.1 hc
        refine lv_aload_n hx hb dL_works_206 rfl (lv_at hl 7 rfl) ?_
        refine lv_iconst (v := (1 : Int32)) hx hb dL_works_207 (by decide) ?_
        refine gq_backi C hM (gq_runV (As := [.int (1 : Int32)]) (rest := []) C hM (kX_lt hp0 (by decide)) (cX_7 hp0) rfl (c_X7_count l L p0 hp0 (1 : Int32) I8 _ h) k_X7_count gw_601 rfl hl.1 rfl (Nat.le_of_ble_eq_true rfl) ⟨⟨rfl, rfl⟩, Nat.le_of_ble_eq_true rfl, Nat.le_of_ble_eq_true rfl⟩ ⟨Nat.zero_le _, Nat.zero_le _⟩ dL_works_208) (fun r9 I9 H locs h hM => ?_)
        refine lv_if_ne (tgt := 280) hx hb dL_works_211 (by decide) (fun hc => ?_) (fun hc => ?_)
        · replace h := h.2 hc
          refine lv_iconst (v := (0 : Int32)) hx hb dL_works_280 (by decide) ?_
          exact gq_zret C hM ⟨rfl, h⟩ (rfl) dL_works_281
        · replace h := h.1 hc
          refine lv_aload_n hx hb dL_works_214 rfl (lv_at hl 7 rfl) ?_
          refine lv_bipush (v := (6 : Int32)) hx hb dL_works_215 (by decide) ?_
          refine gq_backi C hM (gq_runV (As := [.int (6 : Int32)]) (rest := []) C hM (kX_lt hp0 (by decide)) (cX_7 hp0) rfl (c_X7_count l L p0 hp0 (6 : Int32) I9 _ h) k_X7_count gw_601 rfl hl.1 rfl (Nat.le_of_ble_eq_true rfl) ⟨⟨rfl, rfl⟩, Nat.le_of_ble_eq_true rfl, Nat.le_of_ble_eq_true rfl⟩ ⟨Nat.zero_le _, Nat.zero_le _⟩ dL_works_217) (fun r10 I10 H locs h hM => ?_)
          refine lv_iload hx hb dL_works_220 (lv_at hl 3 rfl) ?_
          refine lv_iload hx hb dL_works_222 (lv_at hl 1 rfl) ?_
          refine lv_iadd hx hb dL_works_224 ?_
          refine lv_icmp_ne (tgt := 280) hx hb dL_works_225 (by decide) (fun hc => ?_) (fun hc => ?_)
          · replace h := h.2 hc
            refine lv_iconst (v := (0 : Int32)) hx hb dL_works_280 (by decide) ?_
            exact gq_zret C hM ⟨rfl, h⟩ (rfl) dL_works_281
          · replace h := h.1 hc
            refine lv_aload_n hx hb dL_works_228 rfl (lv_at hl 7 rfl) ?_
            refine lv_iconst (v := (5 : Int32)) hx hb dL_works_229 (by decide) ?_
            refine gq_backi C hM (gq_runV (As := [.int (5 : Int32)]) (rest := []) C hM (kX_lt hp0 (by decide)) (cX_7 hp0) rfl (c_X7_count l L p0 hp0 (5 : Int32) I10 _ h) k_X7_count gw_601 rfl hl.1 rfl (Nat.le_of_ble_eq_true rfl) ⟨⟨rfl, rfl⟩, Nat.le_of_ble_eq_true rfl, Nat.le_of_ble_eq_true rfl⟩ ⟨Nat.zero_le _, Nat.zero_le _⟩ dL_works_230) (fun r11 I11 H locs h hM => ?_)
            refine lv_aload_n hx hb dL_works_233 rfl (lv_at hl 7 rfl) ?_
            refine lv_iload hx hb dL_works_234 (lv_at hl 2 rfl) ?_
            refine lv_iconst (v := (0 : Int32)) hx hb dL_works_236 (by decide) ?_
            refine gq_backi C hM (gq_runV (As := [.int r5, .int (0 : Int32)]) (rest := [.int r11]) C hM (kX_lt hp0 (by decide)) (cX_7 hp0) rfl (c_X7_rosette l L p0 hp0 r5 (0 : Int32) I11 _ h) k_X7_rosette gw_588 rfl hl.1 rfl (Nat.le_of_ble_eq_true rfl) ⟨⟨rfl, rfl⟩, Nat.le_of_ble_eq_true rfl, Nat.le_of_ble_eq_true rfl⟩ ⟨Nat.zero_le _, Nat.zero_le _⟩ dL_works_237) (fun r12 I12 H locs h hM => ?_)
            refine lv_icmp_ne (tgt := 280) hx hb dL_works_240 (by decide) (fun hc => ?_) (fun hc => ?_)
            · replace h := h.2 hc
              refine lv_iconst (v := (0 : Int32)) hx hb dL_works_280 (by decide) ?_
              exact gq_zret C hM ⟨rfl, h⟩ (rfl) dL_works_281
            · replace h := h.1 hc
              refine lv_aload_n hx hb dL_works_243 rfl (lv_at hl 7 rfl) ?_
              refine lv_iconst (v := (4 : Int32)) hx hb dL_works_244 (by decide) ?_
              refine gq_backi C hM (gq_runV (As := [.int (4 : Int32)]) (rest := []) C hM (kX_lt hp0 (by decide)) (cX_7 hp0) rfl (c_X7_count l L p0 hp0 (4 : Int32) I12 _ h) k_X7_count gw_601 rfl hl.1 rfl (Nat.le_of_ble_eq_true rfl) ⟨⟨rfl, rfl⟩, Nat.le_of_ble_eq_true rfl, Nat.le_of_ble_eq_true rfl⟩ ⟨Nat.zero_le _, Nat.zero_le _⟩ dL_works_245) (fun r13 I13 H locs h hM => ?_)
              refine lv_iload hx hb dL_works_248 (lv_at hl 4 rfl) ?_
              refine lv_iload_n hx hb dL_works_250 rfl (lv_at hl 6 rfl) ?_
              refine lv_iadd hx hb dL_works_251 ?_
              refine lv_iload hx hb dL_works_252 (lv_at hl 0 rfl) ?_
              refine lv_isub hx hb dL_works_254 ?_
              refine lv_icmp_ne (tgt := 280) hx hb dL_works_255 (by decide) (fun hc => ?_) (fun hc => ?_)
              · replace h := h.2 hc
                refine lv_iconst (v := (0 : Int32)) hx hb dL_works_280 (by decide) ?_
                exact gq_zret C hM ⟨rfl, h⟩ (rfl) dL_works_281
              · replace h := h.1 hc
                refine lv_aload_n hx hb dL_works_258 rfl (lv_at hl 7 rfl) ?_
                refine lv_iconst (v := (0 : Int32)) hx hb dL_works_259 (by decide) ?_
                refine lv_iconst (v := (1 : Int32)) hx hb dL_works_260 (by decide) ?_
                refine gq_backi C hM (gq_runV (As := [.int (0 : Int32), .int (1 : Int32)]) (rest := []) C hM (kX_lt hp0 (by decide)) (cX_7 hp0) rfl (c_X7_record l L p0 hp0 (0 : Int32) (1 : Int32) I13 _ h) k_X7_record gw_630 rfl hl.1 rfl (Nat.le_of_ble_eq_true rfl) ⟨⟨rfl, rfl⟩, Nat.le_of_ble_eq_true rfl, Nat.le_of_ble_eq_true rfl⟩ ⟨Nat.zero_le _, Nat.zero_le _⟩ dL_works_261) (fun r14 I14 H locs h hM => ?_)
                refine lv_iload hx hb dL_works_264 (lv_at hl 2 rfl) ?_
                refine lv_icmp_ne (tgt := 280) hx hb dL_works_266 (by decide) (fun hc => ?_) (fun hc => ?_)
                · replace h := h.2 hc
                  refine lv_iconst (v := (0 : Int32)) hx hb dL_works_280 (by decide) ?_
                  exact gq_zret C hM ⟨rfl, h⟩ (rfl) dL_works_281
                · replace h := h.1 hc
                  refine lv_aload_n hx hb dL_works_269 rfl (lv_at hl 7 rfl) ?_
                  refine gq_backi C hM (gq_runS (As := [.ref (gx_ad L p0)]) (rest := []) C hM (c_L_did l L p0 hp0 I14 _ h) k_L_did gw_670 rfl hl.1 rfl (Nat.le_of_ble_eq_true rfl) ⟨⟨rfl, rfl⟩, Nat.le_of_ble_eq_true rfl, Nat.le_of_ble_eq_true rfl⟩ ⟨Nat.zero_le _, Nat.zero_le _⟩ dL_works_270) (fun r15 I15 H locs h hM => ?_)
                  obtain ⟨hz1, h⟩ := h
                  refine lv_if_eq (tgt := 280) hx hb dL_works_273 (by decide) (fun hc => ?_) (fun hc => ?_)
                  · replace h := h.1 hc
                    refine lv_iconst (v := (0 : Int32)) hx hb dL_works_280 (by decide) ?_
                    exact gq_zret C hM ⟨rfl, h⟩ (rfl) dL_works_281
                  · replace h := h.2 hc
                    refine lv_iconst (v := (1 : Int32)) hx hb dL_works_276 (by decide) ?_
                    refine lv_goto (tgt := 281) hx hb dL_works_277 (by decide) ?_
                    exact gq_zret C hM ⟨rfl, h⟩ (rfl) dL_works_281
    · replace h := h.1 hc
      refine lv_aload_n hx hb dL_works_61 rfl (lv_at hl 4 rfl) ?_
      refine lv_iconst (v := (0 : Int32)) hx hb dL_works_62 (by decide) ?_
      refine lv_iconst (v := (0 : Int32)) hx hb dL_works_63 (by decide) ?_
      refine gq_backi C hM (gq_runV (As := [.int (0 : Int32), .int (0 : Int32)]) (rest := []) C hM (kX_lt hp0 (by decide)) (cX_7 hp0) rfl (c_X7_job l L p0 hp0 (0 : Int32) (0 : Int32) I4 _ h) k_X7_job gw_624 rfl hl.1 rfl (Nat.le_of_ble_eq_true rfl) ⟨⟨rfl, rfl⟩, Nat.le_of_ble_eq_true rfl, Nat.le_of_ble_eq_true rfl⟩ ⟨Nat.zero_le _, Nat.zero_le _⟩ dL_works_64) (fun r16 I16 H locs h hM => ?_)
      refine lv_istore (lv' := [(6, .int r16), (5, .int r4), (4, .int r3), (3, .int r2), (2, .int r1), (0, .ref (gx_ad L p0)), (1, .int p1)]) hx hb dL_works_67 hl (by decide) rfl (fun ls hl => ?_)
      refine lv_aload_n hx hb dL_works_69 rfl (lv_at hl 5 rfl) ?_
      refine lv_iconst (v := (0 : Int32)) hx hb dL_works_70 (by decide) ?_
      refine lv_iconst (v := (2 : Int32)) hx hb dL_works_71 (by decide) ?_
      refine gq_backi C hM (gq_runV (As := [.int (0 : Int32), .int (2 : Int32)]) (rest := []) C hM (kX_lt hp0 (by decide)) (cX_7 hp0) rfl (c_X7_job l L p0 hp0 (0 : Int32) (2 : Int32) I16 _ h) k_X7_job gw_624 rfl hl.1 rfl (Nat.le_of_ble_eq_true rfl) ⟨⟨rfl, rfl⟩, Nat.le_of_ble_eq_true rfl, Nat.le_of_ble_eq_true rfl⟩ ⟨Nat.zero_le _, Nat.zero_le _⟩ dL_works_72) (fun r17 I17 H locs h hM => ?_)
      refine lv_istore (lv' := [(7, .int r17), (6, .int r16), (5, .int r4), (4, .int r3), (3, .int r2), (2, .int r1), (0, .ref (gx_ad L p0)), (1, .int p1)]) hx hb dL_works_75 hl (by decide) rfl (fun ls hl => ?_)
      refine lv_aload_n hx hb dL_works_77 rfl (lv_at hl 6 rfl) ?_
      refine lv_iconst (v := (0 : Int32)) hx hb dL_works_78 (by decide) ?_
      refine lv_iconst (v := (4 : Int32)) hx hb dL_works_79 (by decide) ?_
      refine gq_backi C hM (gq_runV (As := [.int (0 : Int32), .int (4 : Int32)]) (rest := []) C hM (kX_lt hp0 (by decide)) (cX_7 hp0) rfl (c_X7_job l L p0 hp0 (0 : Int32) (4 : Int32) I17 _ h) k_X7_job gw_624 rfl hl.1 rfl (Nat.le_of_ble_eq_true rfl) ⟨⟨rfl, rfl⟩, Nat.le_of_ble_eq_true rfl, Nat.le_of_ble_eq_true rfl⟩ ⟨Nat.zero_le _, Nat.zero_le _⟩ dL_works_80) (fun r18 I18 H locs h hM => ?_)
      refine lv_istore (lv' := [(8, .int r18), (7, .int r17), (6, .int r16), (5, .int r4), (4, .int r3), (3, .int r2), (2, .int r1), (0, .ref (gx_ad L p0)), (1, .int p1)]) hx hb dL_works_83 hl (by decide) rfl (fun ls hl => ?_)
      refine lv_aload_n hx hb dL_works_85 rfl (lv_at hl 7 rfl) ?_
      refine gq_backi C hM (gq_runV (As := []) (rest := []) C hM (kX_lt hp0 (by decide)) (cX_7 hp0) rfl (c_X7_next l L p0 hp0 I18 _ h) k_X7_next gw_408 rfl hl.1 rfl (Nat.le_of_ble_eq_true rfl) ⟨⟨rfl, rfl⟩, Nat.le_of_ble_eq_true rfl, Nat.le_of_ble_eq_true rfl⟩ ⟨Nat.zero_le _, Nat.zero_le _⟩ dL_works_86) (fun r19 I19 H locs h hM => ?_)
      refine lv_iload hx hb dL_works_89 (lv_at hl 2 rfl) ?_
      refine lv_icmp_ne (tgt := 167) hx hb dL_works_91 (by decide) (fun hc => ?_) (fun hc => ?_)
      · replace h := h.2 hc
        refine lv_iconst (v := (0 : Int32)) hx hb dL_works_167 (by decide) ?_
        exact gq_zret C hM ⟨rfl, h⟩ (rfl) dL_works_168
      · replace h := h.1 hc
        refine lv_aload_n hx hb dL_works_94 rfl (lv_at hl 7 rfl) ?_
        refine lv_iconst (v := (3 : Int32)) hx hb dL_works_95 (by decide) ?_
        refine gq_backi C hM (gq_runV (As := [.int (3 : Int32)]) (rest := []) C hM (kX_lt hp0 (by decide)) (cX_7 hp0) rfl (c_X7_count l L p0 hp0 (3 : Int32) I19 _ h) k_X7_count gw_601 rfl hl.1 rfl (Nat.le_of_ble_eq_true rfl) ⟨⟨rfl, rfl⟩, Nat.le_of_ble_eq_true rfl, Nat.le_of_ble_eq_true rfl⟩ ⟨Nat.zero_le _, Nat.zero_le _⟩ dL_works_96) (fun r20 I20 H locs h hM => ?_)
        refine lv_iload_n hx hb dL_works_99 rfl (lv_at hl 5 rfl) ?_
        refine lv_iconst (v := (1 : Int32)) hx hb dL_works_100 (by decide) ?_
        refine lv_iadd hx hb dL_works_101 ?_
        refine lv_icmp_ne (tgt := 167) hx hb dL_works_102 (by decide) (fun hc => ?_) (fun hc => ?_)
        · replace h := h.2 hc
          refine lv_iconst (v := (0 : Int32)) hx hb dL_works_167 (by decide) ?_
          exact gq_zret C hM ⟨rfl, h⟩ (rfl) dL_works_168
        · replace h := h.1 hc
          refine lv_aload_n hx hb dL_works_105 rfl (lv_at hl 7 rfl) ?_
          refine lv_iconst (v := (1 : Int32)) hx hb dL_works_106 (by decide) ?_
          refine gq_backi C hM (gq_runV (As := [.int (1 : Int32)]) (rest := []) C hM (kX_lt hp0 (by decide)) (cX_7 hp0) rfl (c_X7_count l L p0 hp0 (1 : Int32) I20 _ h) k_X7_count gw_601 rfl hl.1 rfl (Nat.le_of_ble_eq_true rfl) ⟨⟨rfl, rfl⟩, Nat.le_of_ble_eq_true rfl, Nat.le_of_ble_eq_true rfl⟩ ⟨Nat.zero_le _, Nat.zero_le _⟩ dL_works_107) (fun r21 I21 H locs h hM => ?_)
          refine lv_iload_n hx hb dL_works_110 rfl (lv_at hl 6 rfl) ?_
          refine lv_iconst (v := (1 : Int32)) hx hb dL_works_111 (by decide) ?_
          refine lv_isub hx hb dL_works_112 ?_
          refine lv_icmp_ne (tgt := 167) hx hb dL_works_113 (by decide) (fun hc => ?_) (fun hc => ?_)
          · replace h := h.2 hc
            refine lv_iconst (v := (0 : Int32)) hx hb dL_works_167 (by decide) ?_
            exact gq_zret C hM ⟨rfl, h⟩ (rfl) dL_works_168
          · replace h := h.1 hc
            refine lv_aload_n hx hb dL_works_116 rfl (lv_at hl 7 rfl) ?_
            refine lv_bipush (v := (6 : Int32)) hx hb dL_works_117 (by decide) ?_
            refine gq_backi C hM (gq_runV (As := [.int (6 : Int32)]) (rest := []) C hM (kX_lt hp0 (by decide)) (cX_7 hp0) rfl (c_X7_count l L p0 hp0 (6 : Int32) I21 _ h) k_X7_count gw_601 rfl hl.1 rfl (Nat.le_of_ble_eq_true rfl) ⟨⟨rfl, rfl⟩, Nat.le_of_ble_eq_true rfl, Nat.le_of_ble_eq_true rfl⟩ ⟨Nat.zero_le _, Nat.zero_le _⟩ dL_works_119) (fun r22 I22 H locs h hM => ?_)
            refine lv_iload hx hb dL_works_122 (lv_at hl 3 rfl) ?_
            refine lv_iload hx hb dL_works_124 (lv_at hl 0 rfl) ?_
            refine lv_iadd hx hb dL_works_126 ?_
            refine lv_icmp_ne (tgt := 167) hx hb dL_works_127 (by decide) (fun hc => ?_) (fun hc => ?_)
            · replace h := h.2 hc
              refine lv_iconst (v := (0 : Int32)) hx hb dL_works_167 (by decide) ?_
              exact gq_zret C hM ⟨rfl, h⟩ (rfl) dL_works_168
            · replace h := h.1 hc
              refine lv_aload_n hx hb dL_works_130 rfl (lv_at hl 7 rfl) ?_
              refine lv_iconst (v := (5 : Int32)) hx hb dL_works_131 (by decide) ?_
              refine gq_backi C hM (gq_runV (As := [.int (5 : Int32)]) (rest := []) C hM (kX_lt hp0 (by decide)) (cX_7 hp0) rfl (c_X7_count l L p0 hp0 (5 : Int32) I22 _ h) k_X7_count gw_601 rfl hl.1 rfl (Nat.le_of_ble_eq_true rfl) ⟨⟨rfl, rfl⟩, Nat.le_of_ble_eq_true rfl, Nat.le_of_ble_eq_true rfl⟩ ⟨Nat.zero_le _, Nat.zero_le _⟩ dL_works_132) (fun r23 I23 H locs h hM => ?_)
              refine lv_aload_n hx hb dL_works_135 rfl (lv_at hl 7 rfl) ?_
              refine lv_iload hx hb dL_works_136 (lv_at hl 1 rfl) ?_
              refine lv_iconst (v := (0 : Int32)) hx hb dL_works_138 (by decide) ?_
              refine gq_backi C hM (gq_runV (As := [.int r17, .int (0 : Int32)]) (rest := [.int r23]) C hM (kX_lt hp0 (by decide)) (cX_7 hp0) rfl (c_X7_rosette l L p0 hp0 r17 (0 : Int32) I23 _ h) k_X7_rosette gw_588 rfl hl.1 rfl (Nat.le_of_ble_eq_true rfl) ⟨⟨rfl, rfl⟩, Nat.le_of_ble_eq_true rfl, Nat.le_of_ble_eq_true rfl⟩ ⟨Nat.zero_le _, Nat.zero_le _⟩ dL_works_139) (fun r24 I24 H locs h hM => ?_)
              refine lv_icmp_ne (tgt := 167) hx hb dL_works_142 (by decide) (fun hc => ?_) (fun hc => ?_)
              · replace h := h.2 hc
                refine lv_iconst (v := (0 : Int32)) hx hb dL_works_167 (by decide) ?_
                exact gq_zret C hM ⟨rfl, h⟩ (rfl) dL_works_168
              · replace h := h.1 hc
                refine lv_aload_n hx hb dL_works_145 rfl (lv_at hl 7 rfl) ?_
                refine lv_iconst (v := (0 : Int32)) hx hb dL_works_146 (by decide) ?_
                refine lv_iconst (v := (1 : Int32)) hx hb dL_works_147 (by decide) ?_
                refine gq_backi C hM (gq_runV (As := [.int (0 : Int32), .int (1 : Int32)]) (rest := []) C hM (kX_lt hp0 (by decide)) (cX_7 hp0) rfl (c_X7_record l L p0 hp0 (0 : Int32) (1 : Int32) I24 _ h) k_X7_record gw_630 rfl hl.1 rfl (Nat.le_of_ble_eq_true rfl) ⟨⟨rfl, rfl⟩, Nat.le_of_ble_eq_true rfl, Nat.le_of_ble_eq_true rfl⟩ ⟨Nat.zero_le _, Nat.zero_le _⟩ dL_works_148) (fun r25 I25 H locs h hM => ?_)
                refine lv_iload hx hb dL_works_151 (lv_at hl 1 rfl) ?_
                refine lv_icmp_ne (tgt := 167) hx hb dL_works_153 (by decide) (fun hc => ?_) (fun hc => ?_)
                · replace h := h.2 hc
                  refine lv_iconst (v := (0 : Int32)) hx hb dL_works_167 (by decide) ?_
                  exact gq_zret C hM ⟨rfl, h⟩ (rfl) dL_works_168
                · replace h := h.1 hc
                  refine lv_aload_n hx hb dL_works_156 rfl (lv_at hl 7 rfl) ?_
                  refine gq_backi C hM (gq_runS (As := [.ref (gx_ad L p0)]) (rest := []) C hM (c_L_did l L p0 hp0 I25 _ h) k_L_did gw_670 rfl hl.1 rfl (Nat.le_of_ble_eq_true rfl) ⟨⟨rfl, rfl⟩, Nat.le_of_ble_eq_true rfl, Nat.le_of_ble_eq_true rfl⟩ ⟨Nat.zero_le _, Nat.zero_le _⟩ dL_works_157) (fun r26 I26 H locs h hM => ?_)
                  obtain ⟨hz2, h⟩ := h
                  refine lv_if_eq (tgt := 167) hx hb dL_works_160 (by decide) (fun hc => ?_) (fun hc => ?_)
                  · replace h := h.1 hc
                    refine lv_iconst (v := (0 : Int32)) hx hb dL_works_167 (by decide) ?_
                    exact gq_zret C hM ⟨rfl, h⟩ (rfl) dL_works_168
                  · replace h := h.2 hc
                    refine lv_iconst (v := (1 : Int32)) hx hb dL_works_163 (by decide) ?_
                    refine lv_goto (tgt := 168) hx hb dL_works_164 (by decide) ?_
                    exact gq_zret C hM ⟨rfl, h⟩ (rfl) dL_works_168
  · replace h := h.1 hc
    refine lv_aload_n hx hb dL_works_10 rfl (lv_at hl 1 rfl) ?_
    refine gq_backi C hM (gq_runV (As := []) (rest := []) C hM (kX_lt hp0 (by decide)) (cX_7 hp0) rfl (c_X7_next l L p0 hp0 I1 _ h) k_X7_next gw_408 rfl hl.1 rfl (Nat.le_of_ble_eq_true rfl) ⟨⟨rfl, rfl⟩, Nat.le_of_ble_eq_true rfl, Nat.le_of_ble_eq_true rfl⟩ ⟨Nat.zero_le _, Nat.zero_le _⟩ dL_works_11) (fun r27 I27 H locs h hM => ?_)
    refine gq_ldc (v := (-1000004 : Int32)) C gw_659 dL_works_14 ?_
    refine lv_icmp_ne (tgt := 32) hx hb dL_works_16 (by decide) (fun hc => ?_) (fun hc => ?_)
    · replace h := h.2 hc
      refine lv_iconst (v := (0 : Int32)) hx hb dL_works_32 (by decide) ?_
      exact gq_zret C hM ⟨rfl, h⟩ (rfl) dL_works_33
    · replace h := h.1 hc
      refine lv_aload_n hx hb dL_works_19 rfl (lv_at hl 1 rfl) ?_
      refine gq_backi C hM (gq_runV (As := []) (rest := []) C hM (kX_lt hp0 (by decide)) (cX_7 hp0) rfl (c_X7_workOff l L p0 hp0 I27 _ h) k_X7_workOff gw_666 rfl hl.1 rfl (Nat.le_of_ble_eq_true rfl) ⟨⟨rfl, rfl⟩, Nat.le_of_ble_eq_true rfl, Nat.le_of_ble_eq_true rfl⟩ ⟨Nat.zero_le _, Nat.zero_le _⟩ dL_works_20) (fun r28 I28 H locs h hM => ?_)
      refine gq_ldc (v := (-1000004 : Int32)) C gw_659 dL_works_23 ?_
      refine lv_icmp_ne (tgt := 32) hx hb dL_works_25 (by decide) (fun hc => ?_) (fun hc => ?_)
      · replace h := h.2 hc
        refine lv_iconst (v := (0 : Int32)) hx hb dL_works_32 (by decide) ?_
        exact gq_zret C hM ⟨rfl, h⟩ (rfl) dL_works_33
      · replace h := h.1 hc
        refine lv_iconst (v := (1 : Int32)) hx hb dL_works_28 (by decide) ?_
        refine lv_goto (tgt := 33) hx hb dL_works_29 (by decide) ?_
        exact gq_zret C hM ⟨rfl, h⟩ (rfl) dL_works_33
theorem k_L_works : gx_kS yL_works cL_works 9 (some .boolean) 2 := ⟨⟨gw_665, gw_21, by decide, by decide, by decide +kernel⟩, gw_664⟩
end
