section
variable {p : Program} {l : Launch} {e : Env} {s : State} {m : MethodId} {args : Array Value} {below : List Frame} {meth : Method} {c : Code} {L : gx_L}
abbrev rm_X7_rosette : Room := { frames := 5, cells := 0, slots := 0, locals := 110 }
set_option maxHeartbeats 4000000 in
set_option maxRecDepth 100000 in
theorem c_X7_rosette (l : Launch) (L : gx_L) (a0 : Nat) (hk0 : kX a0 = 7) (p0 : Int32) (p1 : Int32) (I : gx_M) (Q : Int32 → gx_M → Prop) (h : wp_X7_rosette a0 p0 p1 I Q) : Met l yX7_rosette (gx_w yX7_rosette cX7_rosette 4 (some .int)) rm_X7_rosette (va_Pc [.ref (gx_ad L a0), .int p0, .int p1] (gx_U L 282 (cellX L I))) (va_Qi Q (fun I' t => gx_U L 282 (cellX L I') t) (gx_A L)) 0 0 (gx_A L) := by
  refine gq_enter (by decide) (Nat.le_of_ble_eq_true rfl) (fun p e s m below meth c ls C hM hl => ?_)
  have C : gx_C L 282 p s m _ meth c RX7 cX7_rosette 4 (some .int) := C
  have hl : lv_has ls 4 [(0, .ref (gx_ad L a0)), (1, .int p0), (2, .int p1)] := hl
  have hx := C.1
  have hb := C.2.1
  unfold wp_X7_rosette at h
  refine lv_aload_n hx hb dX7_rosette_0 rfl (lv_at hl 0 rfl) ?_
  refine gX7_0 C hM hk0 gw_343 dX7_rosette_1 ?_
  refine lv_iload_n hx hb dX7_rosette_4 rfl (lv_at hl 1 rfl) ?_
  refine gq_backe C hM (gq_runV (As := [.int p0]) (rest := []) C hM (kX_lt (kX_7_0 hk0) (by decide)) (cX_6 (kX_7_0 hk0)) rfl (c_X6_find l L (a0 + 1) (kX_7_0 hk0) p0 I _ h) k_X6_find gw_424 rfl hl.1 rfl (Nat.le_of_ble_eq_true rfl) ⟨⟨rfl, rfl⟩, Nat.le_of_ble_eq_true rfl, Nat.le_of_ble_eq_true rfl⟩ ⟨Nat.zero_le _, Nat.zero_le _⟩ dX7_rosette_5) (fun r1 I1 H locs h hM => ?_)
  obtain ⟨hk1, h⟩ := h
  rcases r1 with _ | b1
  · replace h := h.1 rfl
    refine W.eq (g2 := F0 m 8 ls [.null]) rfl ?_
    refine lv_astore_nN (lv' := [(3, .null), (0, .ref (gx_ad L a0)), (1, .int p0), (2, .int p1)]) hx hb dX7_rosette_8 rfl hl (by decide) rfl (fun ls hl => ?_)
    refine lv_aload_nN hx hb dX7_rosette_9 rfl (lv_at hl 0 rfl) ?_
    refine lv_ifnonnullN hx hb dX7_rosette_10 ?_
    refine gq_ldc (v := (-1000001 : Int32)) C gw_425 dX7_rosette_13 ?_
    exact gq_iret C hM h dX7_rosette_15
  · have hk := hk1 b1 rfl
    replace h := h.2 b1 rfl hk
    have hk2 := hk
    refine W.eq (g2 := F0 m 8 ls [.ref (gx_ad L b1)]) rfl ?_
    refine lv_astore_n (lv' := [(3, .ref (gx_ad L b1)), (0, .ref (gx_ad L a0)), (1, .int p0), (2, .int p1)]) hx hb dX7_rosette_8 rfl hl (by decide) rfl (fun ls hl => ?_)
    refine lv_aload_n hx hb dX7_rosette_9 rfl (lv_at hl 0 rfl) ?_
    refine lv_ifnonnull (tgt := 16) hx hb dX7_rosette_10 (by decide) ?_
    refine lv_aload_n hx hb dX7_rosette_16 rfl (lv_at hl 1 rfl) ?_
    refine gX7_7 C hM hk0 gw_350 dX7_rosette_17 ?_
    refine lv_aload_n hx hb dX7_rosette_20 rfl (lv_at hl 0 rfl) ?_
    refine lv_aload_n hx hb dX7_rosette_21 rfl (lv_at hl 1 rfl) ?_
    refine gX7_0 C hM hk0 gw_343 dX7_rosette_22 ?_
    refine gX6_4 C hM (kX_7_0 hk0) gw_182 dX7_rosette_25 ?_
    refine gq_backv C hM (gq_runV (As := [.ref (gx_ad L b1), .int (I1 (a0 + 1) 4)]) (rest := []) C hM (kX_lt (kX_7_7 hk0) (by decide)) (cX_2 (kX_7_7 hk0)) rfl (c_X2_take l L (a0 + 275) (kX_7_7 hk0) b1 hk2 (I1 (a0 + 1) 4) I1 _ h) k_X2_take gw_430 rfl hl.1 rfl (Nat.le_of_ble_eq_true rfl) ⟨⟨rfl, rfl⟩, Nat.le_of_ble_eq_true rfl, Nat.le_of_ble_eq_true rfl⟩ ⟨Nat.zero_le _, Nat.zero_le _⟩ dX7_rosette_28) (fun I2 H locs h hM => ?_)
    refine lv_iload_n hx hb dX7_rosette_31 rfl (lv_at hl 3 rfl) ?_
    by_cases hs0 : p1 = (0 : Int32)
    · replace h := h.1 hs0
      refine lv_tableIn (tgt := 96) hx hb dX7_rosette_32 (by rw [hs0]; decide) (by rw [hs0]; decide) (by rw [hs0]; rfl) (by decide) ?_
      refine lv_aload_n hx hb dX7_rosette_96 rfl (lv_at hl 0 rfl) ?_
      refine gX4_0 C hM hk2 gw_113 dX7_rosette_97 ?_
      exact gq_iret C hM h dX7_rosette_100
    by_cases hs1 : p1 = (1 : Int32)
    · replace h := h.2.1 hs1
      refine lv_tableIn (tgt := 101) hx hb dX7_rosette_32 (by rw [hs1]; decide) (by rw [hs1]; decide) (by rw [hs1]; rfl) (by decide) ?_
      refine lv_aload_n hx hb dX7_rosette_101 rfl (lv_at hl 0 rfl) ?_
      refine gX4_1 C hM hk2 gw_116 dX7_rosette_102 ?_
      refine lv_if_eq (tgt := 112) hx hb dX7_rosette_105 (by decide) (fun hc => ?_) (fun hc => ?_)
      · replace h := h.1 hc
        refine lv_iconst (v := (0 : Int32)) hx hb dX7_rosette_112 (by decide) ?_
        exact gq_iret C hM h dX7_rosette_113
      · replace h := h.2 hc
        refine lv_iconst (v := (1 : Int32)) hx hb dX7_rosette_108 (by decide) ?_
        refine lv_goto (tgt := 113) hx hb dX7_rosette_109 (by decide) ?_
        exact gq_iret C hM h dX7_rosette_113
    by_cases hs2 : p1 = (2 : Int32)
    · replace h := h.2.2.1 hs2
      refine lv_tableIn (tgt := 114) hx hb dX7_rosette_32 (by rw [hs2]; decide) (by rw [hs2]; decide) (by rw [hs2]; rfl) (by decide) ?_
      refine lv_aload_n hx hb dX7_rosette_114 rfl (lv_at hl 0 rfl) ?_
      refine gX4_2 C hM hk2 gw_119 dX7_rosette_115 ?_
      exact gq_iret C hM h dX7_rosette_118
    by_cases hs3 : p1 = (3 : Int32)
    · replace h := h.2.2.2.1 hs3
      refine lv_tableIn (tgt := 119) hx hb dX7_rosette_32 (by rw [hs3]; decide) (by rw [hs3]; decide) (by rw [hs3]; rfl) (by decide) ?_
      refine lv_aload_n hx hb dX7_rosette_119 rfl (lv_at hl 0 rfl) ?_
      refine gX4_3 C hM hk2 gw_122 dX7_rosette_120 ?_
      exact gq_iret C hM h dX7_rosette_123
    by_cases hs4 : p1 = (4 : Int32)
    · replace h := h.2.2.2.2.1 hs4
      refine lv_tableIn (tgt := 124) hx hb dX7_rosette_32 (by rw [hs4]; decide) (by rw [hs4]; decide) (by rw [hs4]; rfl) (by decide) ?_
      refine lv_aload_n hx hb dX7_rosette_124 rfl (lv_at hl 0 rfl) ?_
      refine gX4_4 C hM hk2 gw_124 dX7_rosette_125 ?_
      exact gq_iret C hM h dX7_rosette_128
    by_cases hs5 : p1 = (5 : Int32)
    · replace h := h.2.2.2.2.2.1 hs5
      refine lv_tableIn (tgt := 129) hx hb dX7_rosette_32 (by rw [hs5]; decide) (by rw [hs5]; decide) (by rw [hs5]; rfl) (by decide) ?_
      refine lv_aload_n hx hb dX7_rosette_129 rfl (lv_at hl 0 rfl) ?_
      refine gX4_5 C hM hk2 gw_127 dX7_rosette_130 ?_
      exact gq_iret C hM h dX7_rosette_133
    by_cases hs6 : p1 = (6 : Int32)
    · replace h := h.2.2.2.2.2.2.1 hs6
      refine lv_tableIn (tgt := 134) hx hb dX7_rosette_32 (by rw [hs6]; decide) (by rw [hs6]; decide) (by rw [hs6]; rfl) (by decide) ?_
      refine lv_aload_n hx hb dX7_rosette_134 rfl (lv_at hl 0 rfl) ?_
      refine gX4_6 C hM hk2 gw_130 dX7_rosette_135 ?_
      exact gq_iret C hM h dX7_rosette_138
    by_cases hs7 : p1 = (7 : Int32)
    · replace h := h.2.2.2.2.2.2.2.1 hs7
      refine lv_tableIn (tgt := 139) hx hb dX7_rosette_32 (by rw [hs7]; decide) (by rw [hs7]; decide) (by rw [hs7]; rfl) (by decide) ?_
      refine lv_aload_n hx hb dX7_rosette_139 rfl (lv_at hl 0 rfl) ?_
      refine gX4_7 C hM hk2 gw_133 dX7_rosette_140 ?_
      exact gq_iret C hM h dX7_rosette_143
    by_cases hs8 : p1 = (8 : Int32)
    · replace h := h.2.2.2.2.2.2.2.2.1 hs8
      refine lv_tableIn (tgt := 144) hx hb dX7_rosette_32 (by rw [hs8]; decide) (by rw [hs8]; decide) (by rw [hs8]; rfl) (by decide) ?_
      refine lv_aload_n hx hb dX7_rosette_144 rfl (lv_at hl 0 rfl) ?_
      refine gX4_8 C hM hk2 gw_136 dX7_rosette_145 ?_
      refine lv_if_eq (tgt := 155) hx hb dX7_rosette_148 (by decide) (fun hc => ?_) (fun hc => ?_)
      · replace h := h.1 hc
        refine lv_iconst (v := (0 : Int32)) hx hb dX7_rosette_155 (by decide) ?_
        exact gq_iret C hM h dX7_rosette_156
      · replace h := h.2 hc
        refine lv_iconst (v := (1 : Int32)) hx hb dX7_rosette_151 (by decide) ?_
        refine lv_goto (tgt := 156) hx hb dX7_rosette_152 (by decide) ?_
        exact gq_iret C hM h dX7_rosette_156
    by_cases hs9 : p1 = (9 : Int32)
    · replace h := h.2.2.2.2.2.2.2.2.2.1 hs9
      refine lv_tableIn (tgt := 157) hx hb dX7_rosette_32 (by rw [hs9]; decide) (by rw [hs9]; decide) (by rw [hs9]; rfl) (by decide) ?_
      refine lv_aload_n hx hb dX7_rosette_157 rfl (lv_at hl 1 rfl) ?_
      refine gX7_7 C hM hk0 gw_350 dX7_rosette_158 ?_
      refine gX2_6 C hM (kX_7_7 hk0) gw_295 dX7_rosette_161 ?_
      exact gq_iret C hM h dX7_rosette_164
    by_cases hs10 : p1 = (10 : Int32)
    · replace h := h.2.2.2.2.2.2.2.2.2.2.1 hs10
      refine lv_tableIn (tgt := 165) hx hb dX7_rosette_32 (by rw [hs10]; decide) (by rw [hs10]; decide) (by rw [hs10]; rfl) (by decide) ?_
      refine lv_aload_n hx hb dX7_rosette_165 rfl (lv_at hl 1 rfl) ?_
      refine gX7_7 C hM hk0 gw_350 dX7_rosette_166 ?_
      refine gX2_7 C hM (kX_7_7 hk0) gw_297 dX7_rosette_169 ?_
      exact gq_iret C hM h dX7_rosette_172
    by_cases hs11 : p1 = (11 : Int32)
    · replace h := h.2.2.2.2.2.2.2.2.2.2.2.1 hs11
      refine lv_tableIn (tgt := 173) hx hb dX7_rosette_32 (by rw [hs11]; decide) (by rw [hs11]; decide) (by rw [hs11]; rfl) (by decide) ?_
      refine lv_aload_n hx hb dX7_rosette_173 rfl (lv_at hl 1 rfl) ?_
      refine gX7_0 C hM hk0 gw_343 dX7_rosette_174 ?_
      refine lv_iload_n hx hb dX7_rosette_177 rfl (lv_at hl 2 rfl) ?_
      refine gq_backi C hM (gq_runV (As := [.int p0]) (rest := []) C hM (kX_lt (kX_7_0 hk0) (by decide)) (cX_6 (kX_7_0 hk0)) rfl (c_X6_jobsFor l L (a0 + 1) (kX_7_0 hk0) p0 I2 _ h) k_X6_jobsFor gw_527 rfl hl.1 rfl (Nat.le_of_ble_eq_true rfl) ⟨⟨rfl, rfl⟩, Nat.le_of_ble_eq_true rfl, Nat.le_of_ble_eq_true rfl⟩ ⟨Nat.zero_le _, Nat.zero_le _⟩ dX7_rosette_178) (fun r2 I3 H locs h hM => ?_)
      exact gq_iret C hM h dX7_rosette_181
    replace h := h.2.2.2.2.2.2.2.2.2.2.2.2 hs0 hs1 hs2 hs3 hs4 hs5 hs6 hs7 hs8 hs9 hs10 hs11
    refine lv_tableOut (tgt := 182) hx hb dX7_rosette_32 (by have q0 := lv_neT (a := 0) hs0 (by decide); have q1 := lv_neT (a := 1) hs1 (by decide); have q2 := lv_neT (a := 2) hs2 (by decide); have q3 := lv_neT (a := 3) hs3 (by decide); have q4 := lv_neT (a := 4) hs4 (by decide); have q5 := lv_neT (a := 5) hs5 (by decide); have q6 := lv_neT (a := 6) hs6 (by decide); have q7 := lv_neT (a := 7) hs7 (by decide); have q8 := lv_neT (a := 8) hs8 (by decide); have q9 := lv_neT (a := 9) hs9 (by decide); have q10 := lv_neT (a := 10) hs10 (by decide); have q11 := lv_neT (a := 11) hs11 (by decide); omega) (by decide) ?_
    refine gq_ldc (v := (-1000002 : Int32)) C gw_375 dX7_rosette_182 ?_
    exact gq_iret C hM h dX7_rosette_184
theorem k_X7_rosette : gx_kV yX7_rosette cX7_rosette 4 (some .int) 2 := ⟨⟨gw_681, gw_58, by decide, by decide, by decide +kernel⟩, gw_679, gw_680⟩
abbrev rm_X7_setLeads : Room := { frames := 4, cells := 0, slots := 0, locals := 90 }
set_option maxHeartbeats 4000000 in
set_option maxRecDepth 100000 in
theorem c_X7_setLeads (l : Launch) (L : gx_L) (a0 : Nat) (hk0 : kX a0 = 7) (p0 : Int32) (p1 : Int32) (I : gx_M) (Q : Int32 → gx_M → Prop) (h : wp_X7_setLeads a0 p0 p1 I Q) : Met l yX7_setLeads (gx_w yX7_setLeads cX7_setLeads 5 (some .int)) rm_X7_setLeads (va_Pc [.ref (gx_ad L a0), .int p0, .int p1] (gx_U L 282 (cellX L I))) (va_Qi Q (fun I' t => gx_U L 282 (cellX L I') t) (gx_A L)) 0 0 (gx_A L) := by
  refine gq_enter (by decide) (Nat.le_of_ble_eq_true rfl) (fun p e s m below meth c ls C hM hl => ?_)
  have C : gx_C L 282 p s m _ meth c RX7 cX7_setLeads 5 (some .int) := C
  have hl : lv_has ls 5 [(0, .ref (gx_ad L a0)), (1, .int p0), (2, .int p1)] := hl
  have hx := C.1
  have hb := C.2.1
  unfold wp_X7_setLeads at h
  refine lv_aload_n hx hb dX7_setLeads_0 rfl (lv_at hl 0 rfl) ?_
  refine gX7_0 C hM hk0 gw_343 dX7_setLeads_1 ?_
  refine lv_iload_n hx hb dX7_setLeads_4 rfl (lv_at hl 1 rfl) ?_
  refine gq_backe C hM (gq_runV (As := [.int p0]) (rest := []) C hM (kX_lt (kX_7_0 hk0) (by decide)) (cX_6 (kX_7_0 hk0)) rfl (c_X6_find l L (a0 + 1) (kX_7_0 hk0) p0 I _ h) k_X6_find gw_424 rfl hl.1 rfl (Nat.le_of_ble_eq_true rfl) ⟨⟨rfl, rfl⟩, Nat.le_of_ble_eq_true rfl, Nat.le_of_ble_eq_true rfl⟩ ⟨Nat.zero_le _, Nat.zero_le _⟩ dX7_setLeads_5) (fun r1 I1 H locs h hM => ?_)
  obtain ⟨hk1, h⟩ := h
  rcases r1 with _ | b1
  · replace h := h.1 rfl
    refine W.eq (g2 := F0 m 8 ls [.null]) rfl ?_
    refine lv_astore_nN (lv' := [(3, .null), (0, .ref (gx_ad L a0)), (1, .int p0), (2, .int p1)]) hx hb dX7_setLeads_8 rfl hl (by decide) rfl (fun ls hl => ?_)
    refine lv_aload_nN hx hb dX7_setLeads_9 rfl (lv_at hl 0 rfl) ?_
    refine lv_ifnonnullN hx hb dX7_setLeads_10 ?_
    refine gq_ldc (v := (-1000001 : Int32)) C gw_425 dX7_setLeads_13 ?_
    exact gq_iret C hM h dX7_setLeads_15
  · have hk := hk1 b1 rfl
    replace h := h.2 b1 rfl hk
    have hk2 := hk
    refine W.eq (g2 := F0 m 8 ls [.ref (gx_ad L b1)]) rfl ?_
    refine lv_astore_n (lv' := [(3, .ref (gx_ad L b1)), (0, .ref (gx_ad L a0)), (1, .int p0), (2, .int p1)]) hx hb dX7_setLeads_8 rfl hl (by decide) rfl (fun ls hl => ?_)
    refine lv_aload_n hx hb dX7_setLeads_9 rfl (lv_at hl 0 rfl) ?_
    refine lv_ifnonnull (tgt := 16) hx hb dX7_setLeads_10 (by decide) ?_
    refine lv_iload_n hx hb dX7_setLeads_16 rfl (lv_at hl 3 rfl) ?_
    refine lv_iconst (v := (0 : Int32)) hx hb dX7_setLeads_17 (by decide) ?_
    refine lv_sipush (v := (20000 : Int32)) hx hb dX7_setLeads_18 (by decide) ?_
    refine gq_backi C hM (gq_runS (As := [.int p1, .int (0 : Int32), .int (20000 : Int32)]) (rest := []) C hM (c_X7_isWithin l L p1 (0 : Int32) (20000 : Int32) I1 _ h) k_X7_isWithin gw_372 rfl hl.1 rfl (Nat.le_of_ble_eq_true rfl) ⟨⟨rfl, rfl⟩, Nat.le_of_ble_eq_true rfl, Nat.le_of_ble_eq_true rfl⟩ ⟨Nat.zero_le _, Nat.zero_le _⟩ dX7_setLeads_21) (fun r2 I2 H locs h hM => ?_)
    obtain ⟨hz1, h⟩ := h
    refine lv_if_ne (tgt := 30) hx hb dX7_setLeads_24 (by decide) (fun hc => ?_) (fun hc => ?_)
    · replace h := h.2 hc
      refine lv_aload_n hx hb dX7_setLeads_30 rfl (lv_at hl 0 rfl) ?_
      refine gX4_4 C hM hk2 gw_124 dX7_setLeads_31 ?_
      refine lv_topi (fun x1 ex1 => ?_)
      replace h := h x1 ex1
      refine lv_istore (lv' := [(4, .int x1), (3, .ref (gx_ad L b1)), (0, .ref (gx_ad L a0)), (1, .int p0), (2, .int p1)]) hx hb dX7_setLeads_34 hl (by decide) rfl (fun ls hl => ?_)
      refine lv_iload hx hb dX7_setLeads_36 (lv_at hl 0 rfl) ?_
      refine lv_iload_n hx hb dX7_setLeads_38 rfl (lv_at hl 4 rfl) ?_
      refine lv_icmp_ne (tgt := 45) hx hb dX7_setLeads_39 (by decide) (fun hc => ?_) (fun hc => ?_)
      · replace h := h.2 hc
        refine lv_aload_n hx hb dX7_setLeads_45 rfl (lv_at hl 2 rfl) ?_
        refine gX7_3 C hM hk0 gw_346 dX7_setLeads_46 ?_
        refine lv_aload_n hx hb dX7_setLeads_49 rfl (lv_at hl 2 rfl) ?_
        refine gX7_0 C hM hk0 gw_343 dX7_setLeads_50 ?_
        refine gq_backv C hM (gq_runV (As := [.ref (gx_ad L (a0 + 1))]) (rest := []) C hM (kX_lt (kX_7_3 hk0) (by decide)) (cX_0 (kX_7_3 hk0)) rfl (c_X0_add l L (a0 + 77) (kX_7_3 hk0) (a0 + 1) (kX_7_0 hk0) I2 _ h) k_X0_add gw_393 rfl hl.1 rfl (Nat.le_of_ble_eq_true rfl) ⟨⟨rfl, rfl⟩, Nat.le_of_ble_eq_true rfl, Nat.le_of_ble_eq_true rfl⟩ ⟨Nat.zero_le _, Nat.zero_le _⟩ dX7_setLeads_53) (fun I3 H locs h hM => ?_)
        refine lv_aload_n hx hb dX7_setLeads_56 rfl (lv_at hl 1 rfl) ?_
        refine lv_iload_n hx hb dX7_setLeads_57 rfl (lv_at hl 4 rfl) ?_
        obtain ⟨I4, eI4⟩ : ∃ z : gx_M, z = up I3 b1 4 p1 := ⟨_, rfl⟩
        replace h := h I4 eI4
        refine pX4_4 C hM hk2 eI4 gw_124 dX7_setLeads_58 (fun H locs hM => ?_)
        refine lv_iload hx hb dX7_setLeads_61 (lv_at hl 0 rfl) ?_
        exact gq_iret C hM h dX7_setLeads_63
      · replace h := h.1 hc
        refine gq_ldc (v := (-1000004 : Int32)) C gw_429 dX7_setLeads_42 ?_
        exact gq_iret C hM h dX7_setLeads_44
    · replace h := h.1 hc
      refine gq_ldc (v := (-1000002 : Int32)) C gw_375 dX7_setLeads_27 ?_
      exact gq_iret C hM h dX7_setLeads_29
theorem k_X7_setLeads : gx_kV yX7_setLeads cX7_setLeads 5 (some .int) 2 := ⟨⟨gw_498, gw_58, by decide, by decide, by decide +kernel⟩, gw_496, gw_497⟩
abbrev rm_X7_setOffset : Room := { frames := 4, cells := 0, slots := 0, locals := 90 }
set_option maxHeartbeats 4000000 in
set_option maxRecDepth 100000 in
theorem c_X7_setOffset (l : Launch) (L : gx_L) (a0 : Nat) (hk0 : kX a0 = 7) (p0 : Int32) (p1 : Int32) (p2 : Int32) (I : gx_M) (Q : Int32 → gx_M → Prop) (h : wp_X7_setOffset a0 p0 p1 p2 I Q) : Met l yX7_setOffset (gx_w yX7_setOffset cX7_setOffset 6 (some .int)) rm_X7_setOffset (va_Pc [.ref (gx_ad L a0), .int p0, .int p1, .int p2] (gx_U L 282 (cellX L I))) (va_Qi Q (fun I' t => gx_U L 282 (cellX L I') t) (gx_A L)) 0 0 (gx_A L) := by
  refine gq_enter (by decide) (Nat.le_of_ble_eq_true rfl) (fun p e s m below meth c ls C hM hl => ?_)
  have C : gx_C L 282 p s m _ meth c RX7 cX7_setOffset 6 (some .int) := C
  have hl : lv_has ls 6 [(0, .ref (gx_ad L a0)), (1, .int p0), (2, .int p1), (3, .int p2)] := hl
  have hx := C.1
  have hb := C.2.1
  unfold wp_X7_setOffset at h
  refine lv_aload_n hx hb dX7_setOffset_0 rfl (lv_at hl 0 rfl) ?_
  refine gX7_0 C hM hk0 gw_343 dX7_setOffset_1 ?_
  refine lv_iload_n hx hb dX7_setOffset_4 rfl (lv_at hl 1 rfl) ?_
  refine gq_backe C hM (gq_runV (As := [.int p0]) (rest := []) C hM (kX_lt (kX_7_0 hk0) (by decide)) (cX_6 (kX_7_0 hk0)) rfl (c_X6_find l L (a0 + 1) (kX_7_0 hk0) p0 I _ h) k_X6_find gw_424 rfl hl.1 rfl (Nat.le_of_ble_eq_true rfl) ⟨⟨rfl, rfl⟩, Nat.le_of_ble_eq_true rfl, Nat.le_of_ble_eq_true rfl⟩ ⟨Nat.zero_le _, Nat.zero_le _⟩ dX7_setOffset_5) (fun r1 I1 H locs h hM => ?_)
  obtain ⟨hk1, h⟩ := h
  rcases r1 with _ | b1
  · replace h := h.1 rfl
    refine W.eq (g2 := F0 m 8 ls [.null]) rfl ?_
    refine lv_astoreN (lv' := [(4, .null), (0, .ref (gx_ad L a0)), (1, .int p0), (2, .int p1), (3, .int p2)]) hx hb dX7_setOffset_8 hl (by decide) rfl (fun ls hl => ?_)
    refine lv_aloadN hx hb dX7_setOffset_10 (lv_at hl 0 rfl) ?_
    refine lv_ifnullN (tgt := 29) hx hb dX7_setOffset_12 (by decide) ?_
    refine gq_ldc (v := (-1000001 : Int32)) C gw_425 dX7_setOffset_29 ?_
    exact gq_iret C hM h dX7_setOffset_31
  · have hk := hk1 b1 rfl
    replace h := h.2 b1 rfl hk
    have hk2 := hk
    refine W.eq (g2 := F0 m 8 ls [.ref (gx_ad L b1)]) rfl ?_
    refine lv_astore (lv' := [(4, .ref (gx_ad L b1)), (0, .ref (gx_ad L a0)), (1, .int p0), (2, .int p1), (3, .int p2)]) hx hb dX7_setOffset_8 hl (by decide) rfl (fun ls hl => ?_)
    refine lv_aload hx hb dX7_setOffset_10 (lv_at hl 0 rfl) ?_
    refine lv_ifnull hx hb dX7_setOffset_12 ?_
    refine lv_iload_n hx hb dX7_setOffset_15 rfl (lv_at hl 3 rfl) ?_
    refine lv_if_lt (tgt := 29) hx hb dX7_setOffset_16 (by decide) (fun hc => ?_) (fun hc => ?_)
    · replace h := h.1 hc
      refine gq_ldc (v := (-1000001 : Int32)) C gw_425 dX7_setOffset_29 ?_
      exact gq_iret C hM h dX7_setOffset_31
    · replace h := h.2 hc
      refine lv_iload_n hx hb dX7_setOffset_19 rfl (lv_at hl 3 rfl) ?_
      refine lv_aload hx hb dX7_setOffset_20 (lv_at hl 0 rfl) ?_
      refine gX4_9 C hM hk2 gw_139 dX7_setOffset_22 ?_
      refine galenX_20 C hM (kX_4_9 hk2) dX7_setOffset_25 ?_
      refine lv_icmp_lt (tgt := 32) hx hb dX7_setOffset_26 (by decide) (fun hc => ?_) (fun hc => ?_)
      · replace h := h.1 hc
        refine lv_iload_n hx hb dX7_setOffset_32 rfl (lv_at hl 4 rfl) ?_
        refine lv_sipush (v := (9999 : Int32)) hx hb dX7_setOffset_33 (by decide) ?_
        refine gq_backi C hM (gq_runS (As := [.int p2, .int (9999 : Int32)]) (rest := []) C hM (c_X7_isAround0 l L p2 (9999 : Int32) I1 _ h) k_X7_isAround0 gw_426 rfl hl.1 rfl (Nat.le_of_ble_eq_true rfl) ⟨⟨rfl, rfl⟩, Nat.le_of_ble_eq_true rfl, Nat.le_of_ble_eq_true rfl⟩ ⟨Nat.zero_le _, Nat.zero_le _⟩ dX7_setOffset_36) (fun r2 I2 H locs h hM => ?_)
        obtain ⟨hz1, h⟩ := h
        refine lv_if_ne (tgt := 45) hx hb dX7_setOffset_39 (by decide) (fun hc => ?_) (fun hc => ?_)
        · replace h := h.2 hc
          refine lv_aload hx hb dX7_setOffset_45 (lv_at hl 0 rfl) ?_
          refine gX4_9 C hM hk2 gw_139 dX7_setOffset_47 ?_
          refine lv_iload_n hx hb dX7_setOffset_50 rfl (lv_at hl 3 rfl) ?_
          refine gialdX C hM (kX_4_9 hk2) h.1 dX7_setOffset_51 ?_
          replace h := h.2
          refine lv_topi (fun x1 ex1 => ?_)
          replace h := h x1 ex1
          refine lv_istore (lv' := [(5, .int x1), (4, .ref (gx_ad L b1)), (0, .ref (gx_ad L a0)), (1, .int p0), (2, .int p1), (3, .int p2)]) hx hb dX7_setOffset_52 hl (by decide) rfl (fun ls hl => ?_)
          refine lv_iload hx hb dX7_setOffset_54 (lv_at hl 0 rfl) ?_
          refine lv_iload_n hx hb dX7_setOffset_56 rfl (lv_at hl 5 rfl) ?_
          refine lv_icmp_ne (tgt := 63) hx hb dX7_setOffset_57 (by decide) (fun hc => ?_) (fun hc => ?_)
          · replace h := h.2 hc
            refine lv_aload_n hx hb dX7_setOffset_63 rfl (lv_at hl 2 rfl) ?_
            refine gX7_3 C hM hk0 gw_346 dX7_setOffset_64 ?_
            refine lv_aload_n hx hb dX7_setOffset_67 rfl (lv_at hl 2 rfl) ?_
            refine gX7_0 C hM hk0 gw_343 dX7_setOffset_68 ?_
            refine gq_backv C hM (gq_runV (As := [.ref (gx_ad L (a0 + 1))]) (rest := []) C hM (kX_lt (kX_7_3 hk0) (by decide)) (cX_0 (kX_7_3 hk0)) rfl (c_X0_add l L (a0 + 77) (kX_7_3 hk0) (a0 + 1) (kX_7_0 hk0) I2 _ h) k_X0_add gw_393 rfl hl.1 rfl (Nat.le_of_ble_eq_true rfl) ⟨⟨rfl, rfl⟩, Nat.le_of_ble_eq_true rfl, Nat.le_of_ble_eq_true rfl⟩ ⟨Nat.zero_le _, Nat.zero_le _⟩ dX7_setOffset_71) (fun I3 H locs h hM => ?_)
            refine lv_aload hx hb dX7_setOffset_74 (lv_at hl 1 rfl) ?_
            refine gX4_9 C hM hk2 gw_139 dX7_setOffset_76 ?_
            refine lv_iload_n hx hb dX7_setOffset_79 rfl (lv_at hl 4 rfl) ?_
            refine lv_iload_n hx hb dX7_setOffset_80 rfl (lv_at hl 5 rfl) ?_
            have hi := h.1
            replace h := h.2
            obtain ⟨I4, eI4⟩ : ∃ z : gx_M, z = up I3 (b1 + 1) p1.toNatClampNeg p2 := ⟨_, rfl⟩
            replace h := h I4 eI4
            refine giastX C hM (kX_4_9 hk2) hi eI4 dX7_setOffset_81 (fun H locs hM => ?_)
            refine lv_iload hx hb dX7_setOffset_82 (lv_at hl 0 rfl) ?_
            exact gq_iret C hM h dX7_setOffset_84
          · replace h := h.1 hc
            refine gq_ldc (v := (-1000004 : Int32)) C gw_429 dX7_setOffset_60 ?_
            exact gq_iret C hM h dX7_setOffset_62
        · replace h := h.1 hc
          refine gq_ldc (v := (-1000002 : Int32)) C gw_375 dX7_setOffset_42 ?_
          exact gq_iret C hM h dX7_setOffset_44
      · replace h := h.2 hc
        refine gq_ldc (v := (-1000001 : Int32)) C gw_425 dX7_setOffset_29 ?_
        exact gq_iret C hM h dX7_setOffset_31
theorem k_X7_setOffset : gx_kV yX7_setOffset cX7_setOffset 6 (some .int) 3 := ⟨⟨gw_502, gw_58, by decide, by decide, by decide +kernel⟩, gw_500, gw_501⟩
abbrev rm_X7_setShunt : Room := { frames := 5, cells := 0, slots := 0, locals := 110 }
set_option maxHeartbeats 4000000 in
set_option maxRecDepth 100000 in
theorem c_X7_setShunt (l : Launch) (L : gx_L) (a0 : Nat) (hk0 : kX a0 = 7) (p0 : Int32) (p1 : Int32) (I : gx_M) (Q : Int32 → gx_M → Prop) (h : wp_X7_setShunt a0 p0 p1 I Q) : Met l yX7_setShunt (gx_w yX7_setShunt cX7_setShunt 4 (some .int)) rm_X7_setShunt (va_Pc [.ref (gx_ad L a0), .int p0, .int p1] (gx_U L 282 (cellX L I))) (va_Qi Q (fun I' t => gx_U L 282 (cellX L I') t) (gx_A L)) 0 0 (gx_A L) := by
  refine gq_enter (by decide) (Nat.le_of_ble_eq_true rfl) (fun p e s m below meth c ls C hM hl => ?_)
  have C : gx_C L 282 p s m _ meth c RX7 cX7_setShunt 4 (some .int) := C
  have hl : lv_has ls 4 [(0, .ref (gx_ad L a0)), (1, .int p0), (2, .int p1)] := hl
  have hx := C.1
  have hb := C.2.1
  unfold wp_X7_setShunt at h
  refine lv_aload_n hx hb dX7_setShunt_0 rfl (lv_at hl 0 rfl) ?_
  refine gX7_0 C hM hk0 gw_343 dX7_setShunt_1 ?_
  refine lv_iload_n hx hb dX7_setShunt_4 rfl (lv_at hl 1 rfl) ?_
  refine gq_backe C hM (gq_runV (As := [.int p0]) (rest := []) C hM (kX_lt (kX_7_0 hk0) (by decide)) (cX_6 (kX_7_0 hk0)) rfl (c_X6_find l L (a0 + 1) (kX_7_0 hk0) p0 I _ h) k_X6_find gw_424 rfl hl.1 rfl (Nat.le_of_ble_eq_true rfl) ⟨⟨rfl, rfl⟩, Nat.le_of_ble_eq_true rfl, Nat.le_of_ble_eq_true rfl⟩ ⟨Nat.zero_le _, Nat.zero_le _⟩ dX7_setShunt_5) (fun r1 I1 H locs h hM => ?_)
  obtain ⟨hk1, h⟩ := h
  rcases r1 with _ | b1
  · replace h := h.1 rfl
    refine W.eq (g2 := F0 m 8 ls [.null]) rfl ?_
    refine lv_astore_nN (lv' := [(3, .null), (0, .ref (gx_ad L a0)), (1, .int p0), (2, .int p1)]) hx hb dX7_setShunt_8 rfl hl (by decide) rfl (fun ls hl => ?_)
    refine lv_aload_nN hx hb dX7_setShunt_9 rfl (lv_at hl 0 rfl) ?_
    refine lv_ifnonnullN hx hb dX7_setShunt_10 ?_
    refine gq_ldc (v := (-1000001 : Int32)) C gw_425 dX7_setShunt_13 ?_
    exact gq_iret C hM h dX7_setShunt_15
  · have hk := hk1 b1 rfl
    replace h := h.2 b1 rfl hk
    have hk2 := hk
    refine W.eq (g2 := F0 m 8 ls [.ref (gx_ad L b1)]) rfl ?_
    refine lv_astore_n (lv' := [(3, .ref (gx_ad L b1)), (0, .ref (gx_ad L a0)), (1, .int p0), (2, .int p1)]) hx hb dX7_setShunt_8 rfl hl (by decide) rfl (fun ls hl => ?_)
    refine lv_aload_n hx hb dX7_setShunt_9 rfl (lv_at hl 0 rfl) ?_
    refine lv_ifnonnull (tgt := 16) hx hb dX7_setShunt_10 (by decide) ?_
    refine lv_aload_n hx hb dX7_setShunt_16 rfl (lv_at hl 0 rfl) ?_
    refine gX4_8 C hM hk2 gw_136 dX7_setShunt_17 ?_
    refine lv_iload_n hx hb dX7_setShunt_20 rfl (lv_at hl 3 rfl) ?_
    refine lv_icmp_ne (tgt := 27) hx hb dX7_setShunt_21 (by decide) (fun hc => ?_) (fun hc => ?_)
    · replace h := h.2 hc
      refine lv_aload_n hx hb dX7_setShunt_27 rfl (lv_at hl 1 rfl) ?_
      refine gX7_3 C hM hk0 gw_346 dX7_setShunt_28 ?_
      refine lv_aload_n hx hb dX7_setShunt_31 rfl (lv_at hl 1 rfl) ?_
      refine gX7_0 C hM hk0 gw_343 dX7_setShunt_32 ?_
      refine gq_backv C hM (gq_runV (As := [.ref (gx_ad L (a0 + 1))]) (rest := []) C hM (kX_lt (kX_7_3 hk0) (by decide)) (cX_0 (kX_7_3 hk0)) rfl (c_X0_add l L (a0 + 77) (kX_7_3 hk0) (a0 + 1) (kX_7_0 hk0) I1 _ h) k_X0_add gw_393 rfl hl.1 rfl (Nat.le_of_ble_eq_true rfl) ⟨⟨rfl, rfl⟩, Nat.le_of_ble_eq_true rfl, Nat.le_of_ble_eq_true rfl⟩ ⟨Nat.zero_le _, Nat.zero_le _⟩ dX7_setShunt_35) (fun I2 H locs h hM => ?_)
      refine lv_aload_n hx hb dX7_setShunt_38 rfl (lv_at hl 0 rfl) ?_
      refine lv_iload_n hx hb dX7_setShunt_39 rfl (lv_at hl 3 rfl) ?_
      have hz := h.1
      replace h := h.2
      obtain ⟨I3, eI3⟩ : ∃ z : gx_M, z = up I2 b1 8 p1 := ⟨_, rfl⟩
      replace h := h I3 eI3
      refine pX4_8 C hM hk2 hz eI3 gw_136 dX7_setShunt_40 (fun H locs hM => ?_)
      refine lv_aload_n hx hb dX7_setShunt_43 rfl (lv_at hl 1 rfl) ?_
      refine gX7_7 C hM hk0 gw_350 dX7_setShunt_44 ?_
      refine lv_aload_n hx hb dX7_setShunt_47 rfl (lv_at hl 0 rfl) ?_
      refine lv_aload_n hx hb dX7_setShunt_48 rfl (lv_at hl 1 rfl) ?_
      refine gX7_0 C hM hk0 gw_343 dX7_setShunt_49 ?_
      refine gX6_4 C hM (kX_7_0 hk0) gw_182 dX7_setShunt_52 ?_
      refine gq_backv C hM (gq_runV (As := [.ref (gx_ad L b1), .int (I3 (a0 + 1) 4)]) (rest := []) C hM (kX_lt (kX_7_7 hk0) (by decide)) (cX_2 (kX_7_7 hk0)) rfl (c_X2_take l L (a0 + 275) (kX_7_7 hk0) b1 hk2 (I3 (a0 + 1) 4) I3 _ h) k_X2_take gw_430 rfl hl.1 rfl (Nat.le_of_ble_eq_true rfl) ⟨⟨rfl, rfl⟩, Nat.le_of_ble_eq_true rfl, Nat.le_of_ble_eq_true rfl⟩ ⟨Nat.zero_le _, Nat.zero_le _⟩ dX7_setShunt_55) (fun I4 H locs h hM => ?_)
      refine lv_aload_n hx hb dX7_setShunt_58 rfl (lv_at hl 1 rfl) ?_
      refine gX7_7 C hM hk0 gw_350 dX7_setShunt_59 ?_
      refine gX2_2 C hM (kX_7_7 hk0) gw_288 dX7_setShunt_62 ?_
      refine lv_iconst (v := (0 : Int32)) hx hb dX7_setShunt_65 (by decide) ?_
      refine gialdX C hM (kX_2_2 (kX_7_7 hk0)) h.1 dX7_setShunt_66 ?_
      replace h := h.2
      exact gq_iret C hM h dX7_setShunt_67
    · replace h := h.1 hc
      refine gq_ldc (v := (-1000004 : Int32)) C gw_429 dX7_setShunt_24 ?_
      exact gq_iret C hM h dX7_setShunt_26
theorem k_X7_setShunt : gx_kV yX7_setShunt cX7_setShunt 4 (some .int) 2 := ⟨⟨gw_506, gw_58, by decide, by decide, by decide +kernel⟩, gw_504, gw_505⟩
abbrev rm_X7_setSize : Room := { frames := 4, cells := 0, slots := 0, locals := 90 }
set_option maxHeartbeats 4000000 in
set_option maxRecDepth 100000 in
theorem c_X7_setSize (l : Launch) (L : gx_L) (a0 : Nat) (hk0 : kX a0 = 7) (p0 : Int32) (I : gx_M) (Q : Int32 → gx_M → Prop) (h : wp_X7_setSize a0 p0 I Q) : Met l yX7_setSize (gx_w yX7_setSize cX7_setSize 3 (some .int)) rm_X7_setSize (va_Pc [.ref (gx_ad L a0), .int p0] (gx_U L 282 (cellX L I))) (va_Qi Q (fun I' t => gx_U L 282 (cellX L I') t) (gx_A L)) 0 0 (gx_A L) := by
  refine gq_enter (by decide) (Nat.le_of_ble_eq_true rfl) (fun p e s m below meth c ls C hM hl => ?_)
  have C : gx_C L 282 p s m _ meth c RX7 cX7_setSize 3 (some .int) := C
  have hl : lv_has ls 3 [(0, .ref (gx_ad L a0)), (1, .int p0)] := hl
  have hx := C.1
  have hb := C.2.1
  unfold wp_X7_setSize at h
  refine lv_iload_n hx hb dX7_setSize_0 rfl (lv_at hl 1 rfl) ?_
  refine lv_bipush (v := (20 : Int32)) hx hb dX7_setSize_1 (by decide) ?_
  refine lv_sipush (v := (500 : Int32)) hx hb dX7_setSize_3 (by decide) ?_
  refine gq_backi C hM (gq_runS (As := [.int p0, .int (20 : Int32), .int (500 : Int32)]) (rest := []) C hM (c_X7_isWithin l L p0 (20 : Int32) (500 : Int32) I _ h) k_X7_isWithin gw_372 rfl hl.1 rfl (Nat.le_of_ble_eq_true rfl) ⟨⟨rfl, rfl⟩, Nat.le_of_ble_eq_true rfl, Nat.le_of_ble_eq_true rfl⟩ ⟨Nat.zero_le _, Nat.zero_le _⟩ dX7_setSize_6) (fun r1 I1 H locs h hM => ?_)
  obtain ⟨hz1, h⟩ := h
  refine lv_if_ne (tgt := 15) hx hb dX7_setSize_9 (by decide) (fun hc => ?_) (fun hc => ?_)
  · replace h := h.2 hc
    refine lv_aload_n hx hb dX7_setSize_15 rfl (lv_at hl 0 rfl) ?_
    refine gX7_0 C hM hk0 gw_343 dX7_setSize_16 ?_
    refine gX6_4 C hM (kX_7_0 hk0) gw_182 dX7_setSize_19 ?_
    refine lv_topi (fun x1 ex1 => ?_)
    replace h := h x1 ex1
    refine lv_istore_n (lv' := [(2, .int x1), (0, .ref (gx_ad L a0)), (1, .int p0)]) hx hb dX7_setSize_22 rfl hl (by decide) rfl (fun ls hl => ?_)
    refine lv_iload_n hx hb dX7_setSize_23 rfl (lv_at hl 0 rfl) ?_
    refine lv_iload_n hx hb dX7_setSize_24 rfl (lv_at hl 2 rfl) ?_
    refine lv_icmp_ne (tgt := 31) hx hb dX7_setSize_25 (by decide) (fun hc => ?_) (fun hc => ?_)
    · replace h := h.2 hc
      refine lv_aload_n hx hb dX7_setSize_31 rfl (lv_at hl 1 rfl) ?_
      refine gX7_3 C hM hk0 gw_346 dX7_setSize_32 ?_
      refine lv_aload_n hx hb dX7_setSize_35 rfl (lv_at hl 1 rfl) ?_
      refine gX7_0 C hM hk0 gw_343 dX7_setSize_36 ?_
      refine gq_backv C hM (gq_runV (As := [.ref (gx_ad L (a0 + 1))]) (rest := []) C hM (kX_lt (kX_7_3 hk0) (by decide)) (cX_0 (kX_7_3 hk0)) rfl (c_X0_add l L (a0 + 77) (kX_7_3 hk0) (a0 + 1) (kX_7_0 hk0) I1 _ h) k_X0_add gw_393 rfl hl.1 rfl (Nat.le_of_ble_eq_true rfl) ⟨⟨rfl, rfl⟩, Nat.le_of_ble_eq_true rfl, Nat.le_of_ble_eq_true rfl⟩ ⟨Nat.zero_le _, Nat.zero_le _⟩ dX7_setSize_39) (fun I2 H locs h hM => ?_)
      refine lv_aload_n hx hb dX7_setSize_42 rfl (lv_at hl 1 rfl) ?_
      refine gX7_0 C hM hk0 gw_343 dX7_setSize_43 ?_
      refine lv_iload_n hx hb dX7_setSize_46 rfl (lv_at hl 2 rfl) ?_
      obtain ⟨I3, eI3⟩ : ∃ z : gx_M, z = up I2 (a0 + 1) 4 p0 := ⟨_, rfl⟩
      replace h := h I3 eI3
      refine pX6_4 C hM (kX_7_0 hk0) eI3 gw_182 dX7_setSize_47 (fun H locs hM => ?_)
      refine lv_iload_n hx hb dX7_setSize_50 rfl (lv_at hl 0 rfl) ?_
      exact gq_iret C hM h dX7_setSize_51
    · replace h := h.1 hc
      refine gq_ldc (v := (-1000004 : Int32)) C gw_429 dX7_setSize_28 ?_
      exact gq_iret C hM h dX7_setSize_30
  · replace h := h.1 hc
    refine gq_ldc (v := (-1000002 : Int32)) C gw_375 dX7_setSize_12 ?_
    exact gq_iret C hM h dX7_setSize_14
theorem k_X7_setSize : gx_kV yX7_setSize cX7_setSize 3 (some .int) 1 := ⟨⟨gw_510, gw_58, by decide, by decide, by decide +kernel⟩, gw_508, gw_509⟩
abbrev rm_X7_setStrain : Room := { frames := 5, cells := 0, slots := 0, locals := 110 }
set_option maxHeartbeats 4000000 in
set_option maxRecDepth 100000 in
theorem tj_X7_setStrain_83 (C : gx_C L 282 p s m args meth c RX7 cX7_setStrain 6 (some .int)) {Q : Int32 → gx_M → Prop} : ∀ (v0 : Nat) (v2 : Int32) (v3 : Int32) (v4 : Int32) (v5 : Nat) (hv0 : kX v0 = 7) (hv5 : kX v5 = 4) (I : gx_M) (H : Heap) (locs : List Loc) (ls : Array Slot), gx_S L 282 (cellX L I) s.heap H locs → lv_has ls 6 [(0, .ref (gx_ad L v0)), (2, .int v2), (3, .int v3), (4, .int v4), (5, .ref (gx_ad L v5))] → wj_X7_setStrain_83 Q v0 v2 v3 v4 v5 I → W p l e rm_X7_setStrain s m args below meth c H locs 0 0 (MQ below (va_Qi Q (fun I' t => gx_U L 282 (cellX L I') t) (gx_A L)) args s 0 0 (gx_A L)) (F0 m 83 ls []) := by
  have hx := C.1
  have hb := C.2.1
  intro v0 v2 v3 v4 v5 hv0 hv5 I H locs ls hM hl h
  unfold wj_X7_setStrain_83 at h
  refine lv_aload_n hx hb dX7_setStrain_83 rfl (lv_at hl 0 rfl) ?_
  refine gX7_3 C hM hv0 gw_346 dX7_setStrain_84 ?_
  refine lv_aload_n hx hb dX7_setStrain_87 rfl (lv_at hl 0 rfl) ?_
  refine gX7_0 C hM hv0 gw_343 dX7_setStrain_88 ?_
  refine gq_backv C hM (gq_runV (As := [.ref (gx_ad L (v0 + 1))]) (rest := []) C hM (kX_lt (kX_7_3 hv0) (by decide)) (cX_0 (kX_7_3 hv0)) rfl (c_X0_add l L (v0 + 77) (kX_7_3 hv0) (v0 + 1) (kX_7_0 hv0) I _ h) k_X0_add gw_393 rfl hl.1 rfl (Nat.le_of_ble_eq_true rfl) ⟨⟨rfl, rfl⟩, Nat.le_of_ble_eq_true rfl, Nat.le_of_ble_eq_true rfl⟩ ⟨Nat.zero_le _, Nat.zero_le _⟩ dX7_setStrain_91) (fun I1 H locs h hM => ?_)
  refine lv_aload_n hx hb dX7_setStrain_94 rfl (lv_at hl 0 rfl) ?_
  refine gX7_7 C hM hv0 gw_350 dX7_setStrain_95 ?_
  refine lv_aload hx hb dX7_setStrain_98 (lv_at hl 4 rfl) ?_
  refine lv_aload_n hx hb dX7_setStrain_100 rfl (lv_at hl 0 rfl) ?_
  refine gX7_0 C hM hv0 gw_343 dX7_setStrain_101 ?_
  refine gX6_4 C hM (kX_7_0 hv0) gw_182 dX7_setStrain_104 ?_
  refine gq_backv C hM (gq_runV (As := [.ref (gx_ad L v5), .int (I1 (v0 + 1) 4)]) (rest := []) C hM (kX_lt (kX_7_7 hv0) (by decide)) (cX_2 (kX_7_7 hv0)) rfl (c_X2_take l L (v0 + 275) (kX_7_7 hv0) v5 hv5 (I1 (v0 + 1) 4) I1 _ h) k_X2_take gw_430 rfl hl.1 rfl (Nat.le_of_ble_eq_true rfl) ⟨⟨rfl, rfl⟩, Nat.le_of_ble_eq_true rfl, Nat.le_of_ble_eq_true rfl⟩ ⟨Nat.zero_le _, Nat.zero_le _⟩ dX7_setStrain_107) (fun I2 H locs h hM => ?_)
  refine lv_aload_n hx hb dX7_setStrain_110 rfl (lv_at hl 0 rfl) ?_
  refine gX7_7 C hM hv0 gw_350 dX7_setStrain_111 ?_
  refine gq_backv C hM (gq_runV (As := []) (rest := []) C hM (kX_lt (kX_7_7 hv0) (by decide)) (cX_2 (kX_7_7 hv0)) rfl (c_X2_holdReadings l L (v0 + 275) (kX_7_7 hv0) I2 _ h) k_X2_holdReadings gw_486 rfl hl.1 rfl (Nat.le_of_ble_eq_true rfl) ⟨⟨rfl, rfl⟩, Nat.le_of_ble_eq_true rfl, Nat.le_of_ble_eq_true rfl⟩ ⟨Nat.zero_le _, Nat.zero_le _⟩ dX7_setStrain_114) (fun I3 H locs h hM => ?_)
  refine lv_aload hx hb dX7_setStrain_117 (lv_at hl 4 rfl) ?_
  refine lv_iload_n hx hb dX7_setStrain_119 rfl (lv_at hl 1 rfl) ?_
  obtain ⟨I4, eI4⟩ : ∃ z : gx_M, z = up I3 v5 5 v2 := ⟨_, rfl⟩
  replace h := h I4 eI4
  refine pX4_5 C hM hv5 eI4 gw_127 dX7_setStrain_120 (fun H locs hM => ?_)
  refine lv_aload hx hb dX7_setStrain_123 (lv_at hl 4 rfl) ?_
  refine lv_iload_n hx hb dX7_setStrain_125 rfl (lv_at hl 2 rfl) ?_
  obtain ⟨I5, eI5⟩ : ∃ z : gx_M, z = up I4 v5 6 v3 := ⟨_, rfl⟩
  replace h := h I5 eI5
  refine pX4_6 C hM hv5 eI5 gw_130 dX7_setStrain_126 (fun H locs hM => ?_)
  refine lv_aload hx hb dX7_setStrain_129 (lv_at hl 4 rfl) ?_
  refine lv_iload hx hb dX7_setStrain_131 (lv_at hl 3 rfl) ?_
  obtain ⟨I6, eI6⟩ : ∃ z : gx_M, z = up I5 v5 7 v4 := ⟨_, rfl⟩
  replace h := h I6 eI6
  refine pX4_7 C hM hv5 eI6 gw_133 dX7_setStrain_133 (fun H locs hM => ?_)
  refine lv_aload_n hx hb dX7_setStrain_136 rfl (lv_at hl 0 rfl) ?_
  refine gX7_7 C hM hv0 gw_350 dX7_setStrain_137 ?_
  refine lv_aload hx hb dX7_setStrain_140 (lv_at hl 4 rfl) ?_
  refine lv_aload_n hx hb dX7_setStrain_142 rfl (lv_at hl 0 rfl) ?_
  refine gX7_0 C hM hv0 gw_343 dX7_setStrain_143 ?_
  refine gX6_4 C hM (kX_7_0 hv0) gw_182 dX7_setStrain_146 ?_
  refine gq_backv C hM (gq_runV (As := [.ref (gx_ad L v5), .int (I6 (v0 + 1) 4)]) (rest := []) C hM (kX_lt (kX_7_7 hv0) (by decide)) (cX_2 (kX_7_7 hv0)) rfl (c_X2_take l L (v0 + 275) (kX_7_7 hv0) v5 hv5 (I6 (v0 + 1) 4) I6 _ h) k_X2_take gw_430 rfl hl.1 rfl (Nat.le_of_ble_eq_true rfl) ⟨⟨rfl, rfl⟩, Nat.le_of_ble_eq_true rfl, Nat.le_of_ble_eq_true rfl⟩ ⟨Nat.zero_le _, Nat.zero_le _⟩ dX7_setStrain_149) (fun I7 H locs h hM => ?_)
  refine lv_aload_n hx hb dX7_setStrain_152 rfl (lv_at hl 0 rfl) ?_
  refine gX7_7 C hM hv0 gw_350 dX7_setStrain_153 ?_
  refine gq_backi C hM (gq_runV (As := []) (rest := []) C hM (kX_lt (kX_7_7 hv0) (by decide)) (cX_2 (kX_7_7 hv0)) rfl (c_X2_readingsChanged l L (v0 + 275) (kX_7_7 hv0) I7 _ h) k_X2_readingsChanged gw_491 rfl hl.1 rfl (Nat.le_of_ble_eq_true rfl) ⟨⟨rfl, rfl⟩, Nat.le_of_ble_eq_true rfl, Nat.le_of_ble_eq_true rfl⟩ ⟨Nat.zero_le _, Nat.zero_le _⟩ dX7_setStrain_156) (fun r1 I8 H locs h hM => ?_)
  exact gq_iret C hM h dX7_setStrain_159
set_option maxHeartbeats 4000000 in
set_option maxRecDepth 100000 in
theorem c_X7_setStrain (l : Launch) (L : gx_L) (a0 : Nat) (hk0 : kX a0 = 7) (p0 : Int32) (p1 : Int32) (p2 : Int32) (p3 : Int32) (I : gx_M) (Q : Int32 → gx_M → Prop) (h : wp_X7_setStrain a0 p0 p1 p2 p3 I Q) : Met l yX7_setStrain (gx_w yX7_setStrain cX7_setStrain 6 (some .int)) rm_X7_setStrain (va_Pc [.ref (gx_ad L a0), .int p0, .int p1, .int p2, .int p3] (gx_U L 282 (cellX L I))) (va_Qi Q (fun I' t => gx_U L 282 (cellX L I') t) (gx_A L)) 0 0 (gx_A L) := by
  refine gq_enter (by decide) (Nat.le_of_ble_eq_true rfl) (fun p e s m below meth c ls C hM hl => ?_)
  have C : gx_C L 282 p s m _ meth c RX7 cX7_setStrain 6 (some .int) := C
  have hl : lv_has ls 6 [(0, .ref (gx_ad L a0)), (1, .int p0), (2, .int p1), (3, .int p2), (4, .int p3)] := hl
  have hx := C.1
  have hb := C.2.1
  unfold wp_X7_setStrain at h
  refine lv_aload_n hx hb dX7_setStrain_0 rfl (lv_at hl 0 rfl) ?_
  refine gX7_0 C hM hk0 gw_343 dX7_setStrain_1 ?_
  refine lv_iload_n hx hb dX7_setStrain_4 rfl (lv_at hl 1 rfl) ?_
  refine gq_backe C hM (gq_runV (As := [.int p0]) (rest := []) C hM (kX_lt (kX_7_0 hk0) (by decide)) (cX_6 (kX_7_0 hk0)) rfl (c_X6_find l L (a0 + 1) (kX_7_0 hk0) p0 I _ h) k_X6_find gw_424 rfl hl.1 rfl (Nat.le_of_ble_eq_true rfl) ⟨⟨rfl, rfl⟩, Nat.le_of_ble_eq_true rfl, Nat.le_of_ble_eq_true rfl⟩ ⟨Nat.zero_le _, Nat.zero_le _⟩ dX7_setStrain_5) (fun r1 I1 H locs h hM => ?_)
  obtain ⟨hk1, h⟩ := h
  rcases r1 with _ | b1
  · replace h := h.1 rfl
    refine W.eq (g2 := F0 m 8 ls [.null]) rfl ?_
    refine lv_astoreN (lv' := [(5, .null), (0, .ref (gx_ad L a0)), (1, .int p0), (2, .int p1), (3, .int p2), (4, .int p3)]) hx hb dX7_setStrain_8 hl (by decide) rfl (fun ls hl => ?_)
    refine lv_aloadN hx hb dX7_setStrain_10 (lv_at hl 0 rfl) ?_
    refine lv_ifnonnullN hx hb dX7_setStrain_12 ?_
    refine gq_ldc (v := (-1000001 : Int32)) C gw_425 dX7_setStrain_15 ?_
    exact gq_iret C hM h dX7_setStrain_17
  · have hk := hk1 b1 rfl
    replace h := h.2 b1 rfl hk
    have hk2 := hk
    refine W.eq (g2 := F0 m 8 ls [.ref (gx_ad L b1)]) rfl ?_
    refine lv_astore (lv' := [(5, .ref (gx_ad L b1)), (0, .ref (gx_ad L a0)), (1, .int p0), (2, .int p1), (3, .int p2), (4, .int p3)]) hx hb dX7_setStrain_8 hl (by decide) rfl (fun ls hl => ?_)
    refine lv_aload hx hb dX7_setStrain_10 (lv_at hl 0 rfl) ?_
    refine lv_ifnonnull (tgt := 18) hx hb dX7_setStrain_12 (by decide) ?_
    refine lv_iload_n hx hb dX7_setStrain_18 rfl (lv_at hl 3 rfl) ?_
    refine lv_sipush (v := (5000 : Int32)) hx hb dX7_setStrain_19 (by decide) ?_
    refine gq_backi C hM (gq_runS (As := [.int p1, .int (5000 : Int32)]) (rest := []) C hM (c_X7_isAround0 l L p1 (5000 : Int32) I1 _ h) k_X7_isAround0 gw_426 rfl hl.1 rfl (Nat.le_of_ble_eq_true rfl) ⟨⟨rfl, rfl⟩, Nat.le_of_ble_eq_true rfl, Nat.le_of_ble_eq_true rfl⟩ ⟨Nat.zero_le _, Nat.zero_le _⟩ dX7_setStrain_22) (fun r2 I2 H locs h hM => ?_)
    obtain ⟨hz1, h⟩ := h
    refine lv_if_eq (tgt := 49) hx hb dX7_setStrain_25 (by decide) (fun hc => ?_) (fun hc => ?_)
    · replace h := h.1 hc
      refine gq_ldc (v := (-1000002 : Int32)) C gw_375 dX7_setStrain_49 ?_
      exact gq_iret C hM h dX7_setStrain_51
    · replace h := h.2 hc
      refine lv_iload_n hx hb dX7_setStrain_28 rfl (lv_at hl 4 rfl) ?_
      refine lv_sipush (v := (5000 : Int32)) hx hb dX7_setStrain_29 (by decide) ?_
      refine gq_backi C hM (gq_runS (As := [.int p2, .int (5000 : Int32)]) (rest := []) C hM (c_X7_isAround0 l L p2 (5000 : Int32) I2 _ h) k_X7_isAround0 gw_426 rfl hl.1 rfl (Nat.le_of_ble_eq_true rfl) ⟨⟨rfl, rfl⟩, Nat.le_of_ble_eq_true rfl, Nat.le_of_ble_eq_true rfl⟩ ⟨Nat.zero_le _, Nat.zero_le _⟩ dX7_setStrain_32) (fun r3 I3 H locs h hM => ?_)
      obtain ⟨hz2, h⟩ := h
      refine lv_if_eq (tgt := 49) hx hb dX7_setStrain_35 (by decide) (fun hc => ?_) (fun hc => ?_)
      · replace h := h.1 hc
        refine gq_ldc (v := (-1000002 : Int32)) C gw_375 dX7_setStrain_49 ?_
        exact gq_iret C hM h dX7_setStrain_51
      · replace h := h.2 hc
        refine lv_iload hx hb dX7_setStrain_38 (lv_at hl 5 rfl) ?_
        refine lv_sipush (v := (5000 : Int32)) hx hb dX7_setStrain_40 (by decide) ?_
        refine gq_backi C hM (gq_runS (As := [.int p3, .int (5000 : Int32)]) (rest := []) C hM (c_X7_isAround0 l L p3 (5000 : Int32) I3 _ h) k_X7_isAround0 gw_426 rfl hl.1 rfl (Nat.le_of_ble_eq_true rfl) ⟨⟨rfl, rfl⟩, Nat.le_of_ble_eq_true rfl, Nat.le_of_ble_eq_true rfl⟩ ⟨Nat.zero_le _, Nat.zero_le _⟩ dX7_setStrain_43) (fun r4 I4 H locs h hM => ?_)
        obtain ⟨hz3, h⟩ := h
        refine lv_if_ne (tgt := 52) hx hb dX7_setStrain_46 (by decide) (fun hc => ?_) (fun hc => ?_)
        · replace h := h.2 hc
          refine lv_aload hx hb dX7_setStrain_52 (lv_at hl 0 rfl) ?_
          refine gX4_5 C hM hk2 gw_127 dX7_setStrain_54 ?_
          refine lv_iload_n hx hb dX7_setStrain_57 rfl (lv_at hl 3 rfl) ?_
          refine lv_icmp_ne (tgt := 83) hx hb dX7_setStrain_58 (by decide) (fun hc => ?_) (fun hc => ?_)
          · replace h := h.2 hc
            exact tj_X7_setStrain_83 C a0 p1 p2 p3 b1 (hk0) (hk2) I4 _ _ _ hM (lv_sub hl [1, 3, 4, 5, 0] rfl) h
          · replace h := h.1 hc
            refine lv_aload hx hb dX7_setStrain_61 (lv_at hl 0 rfl) ?_
            refine gX4_6 C hM hk2 gw_130 dX7_setStrain_63 ?_
            refine lv_iload_n hx hb dX7_setStrain_66 rfl (lv_at hl 4 rfl) ?_
            refine lv_icmp_ne (tgt := 83) hx hb dX7_setStrain_67 (by decide) (fun hc => ?_) (fun hc => ?_)
            · replace h := h.2 hc
              exact tj_X7_setStrain_83 C a0 p1 p2 p3 b1 (hk0) (hk2) I4 _ _ _ hM (lv_sub hl [1, 3, 4, 5, 0] rfl) h
            · replace h := h.1 hc
              refine lv_aload hx hb dX7_setStrain_70 (lv_at hl 0 rfl) ?_
              refine gX4_7 C hM hk2 gw_133 dX7_setStrain_72 ?_
              refine lv_iload hx hb dX7_setStrain_75 (lv_at hl 5 rfl) ?_
              refine lv_icmp_ne (tgt := 83) hx hb dX7_setStrain_77 (by decide) (fun hc => ?_) (fun hc => ?_)
              · replace h := h.2 hc
                exact tj_X7_setStrain_83 C a0 p1 p2 p3 b1 (hk0) (hk2) I4 _ _ _ hM (lv_sub hl [1, 3, 4, 5, 0] rfl) h
              · replace h := h.1 hc
                refine gq_ldc (v := (-1000004 : Int32)) C gw_429 dX7_setStrain_80 ?_
                exact gq_iret C hM h dX7_setStrain_82
        · replace h := h.1 hc
          refine gq_ldc (v := (-1000002 : Int32)) C gw_375 dX7_setStrain_49 ?_
          exact gq_iret C hM h dX7_setStrain_51
theorem k_X7_setStrain : gx_kV yX7_setStrain cX7_setStrain 6 (some .int) 4 := ⟨⟨gw_423, gw_58, by decide, by decide, by decide +kernel⟩, gw_421, gw_422⟩
abbrev rm_X7_type : Room := { frames := 1, cells := 0, slots := 0, locals := 21 }
set_option maxHeartbeats 4000000 in
set_option maxRecDepth 100000 in
theorem c_X7_type (l : Launch) (L : gx_L) (a0 : Nat) (hk0 : kX a0 = 7) (p0 : Int32) (I : gx_M) (Q : Int32 → gx_M → Prop) (h : wp_X7_type a0 p0 I Q) : Met l yX7_type (gx_w yX7_type cX7_type 2 (some .int)) rm_X7_type (va_Pc [.ref (gx_ad L a0), .int p0] (gx_U L 282 (cellX L I))) (va_Qi Q (fun I' t => gx_U L 282 (cellX L I') t) (gx_A L)) 0 0 (gx_A L) := by
  refine gq_enter (by decide) (Nat.le_of_ble_eq_true rfl) (fun p e s m below meth c ls C hM hl => ?_)
  have C : gx_C L 282 p s m _ meth c RX7 cX7_type 2 (some .int) := C
  have hl : lv_has ls 2 [(0, .ref (gx_ad L a0)), (1, .int p0)] := hl
  have hx := C.1
  have hb := C.2.1
  unfold wp_X7_type at h
  refine lv_aload_n hx hb dX7_type_0 rfl (lv_at hl 0 rfl) ?_
  refine gX7_4 C hM hk0 gw_347 dX7_type_1 ?_
  refine lv_iload_n hx hb dX7_type_4 rfl (lv_at hl 1 rfl) ?_
  refine gq_backi C hM (gq_runV (As := [.int p0]) (rest := []) C hM (kX_lt (kX_7_4 hk0) (by decide)) (cX_1 (kX_7_4 hk0)) rfl (c_X1_append l L (a0 + 269) (kX_7_4 hk0) p0 I _ h) k_X1_append gw_619 rfl hl.1 rfl (Nat.le_of_ble_eq_true rfl) ⟨⟨rfl, rfl⟩, Nat.le_of_ble_eq_true rfl, Nat.le_of_ble_eq_true rfl⟩ ⟨Nat.zero_le _, Nat.zero_le _⟩ dX7_type_5) (fun r1 I1 H locs h hM => ?_)
  obtain ⟨hz1, h⟩ := h
  refine lv_if_eq (tgt := 21) hx hb dX7_type_8 (by decide) (fun hc => ?_) (fun hc => ?_)
  · replace h := h.1 hc
    refine lv_aload_n hx hb dX7_type_21 rfl (lv_at hl 0 rfl) ?_
    refine lv_iconst (v := (1 : Int32)) hx hb dX7_type_22 (by decide) ?_
    refine gq_backi C hM (gq_runV (As := [.int (1 : Int32)]) (rest := []) C hM (kX_lt hk0 (by decide)) (cX_7 hk0) rfl (c_X7_refuse l L a0 hk0 (1 : Int32) I1 _ h) k_X7_refuse gw_376 rfl hl.1 rfl (Nat.le_of_ble_eq_true rfl) ⟨⟨rfl, rfl⟩, Nat.le_of_ble_eq_true rfl, Nat.le_of_ble_eq_true rfl⟩ ⟨Nat.zero_le _, Nat.zero_le _⟩ dX7_type_23) (fun r2 I2 H locs h hM => ?_)
    exact gq_iret C hM h dX7_type_26
  · replace h := h.2 hc
    refine lv_aload_n hx hb dX7_type_11 rfl (lv_at hl 0 rfl) ?_
    refine gX7_4 C hM hk0 gw_347 dX7_type_12 ?_
    refine gX1_2 C hM (kX_7_4 hk0) gw_244 dX7_type_15 ?_
    refine lv_goto (tgt := 26) hx hb dX7_type_18 (by decide) ?_
    exact gq_iret C hM h dX7_type_26
theorem k_X7_type : gx_kV yX7_type cX7_type 2 (some .int) 1 := ⟨⟨gw_618, gw_58, by decide, by decide, by decide +kernel⟩, gw_616, gw_617⟩
abbrev rm_X7_undo : Room := { frames := 3, cells := 0, slots := 0, locals := 69 }
set_option maxHeartbeats 4000000 in
set_option maxRecDepth 100000 in
theorem c_X7_undo (l : Launch) (L : gx_L) (a0 : Nat) (hk0 : kX a0 = 7) (I : gx_M) (Q : Int32 → gx_M → Prop) (h : wp_X7_undo a0 I Q) : Met l yX7_undo (gx_w yX7_undo cX7_undo 2 (some .int)) rm_X7_undo (va_Pc [.ref (gx_ad L a0)] (gx_U L 282 (cellX L I))) (va_Qi Q (fun I' t => gx_U L 282 (cellX L I') t) (gx_A L)) 0 0 (gx_A L) := by
  refine gq_enter (by decide) (Nat.le_of_ble_eq_true rfl) (fun p e s m below meth c ls C hM hl => ?_)
  have C : gx_C L 282 p s m _ meth c RX7 cX7_undo 2 (some .int) := C
  have hl : lv_has ls 2 [(0, .ref (gx_ad L a0))] := hl
  have hx := C.1
  have hb := C.2.1
  unfold wp_X7_undo at h
  refine lv_aload_n hx hb dX7_undo_0 rfl (lv_at hl 0 rfl) ?_
  refine gX7_3 C hM hk0 gw_346 dX7_undo_1 ?_
  refine gq_backe C hM (gq_runV (As := []) (rest := []) C hM (kX_lt (kX_7_3 hk0) (by decide)) (cX_0 (kX_7_3 hk0)) rfl (c_X0_takeLatest l L (a0 + 77) (kX_7_3 hk0) I _ h) k_X0_takeLatest gw_665 rfl hl.1 rfl (Nat.le_of_ble_eq_true rfl) ⟨⟨rfl, rfl⟩, Nat.le_of_ble_eq_true rfl, Nat.le_of_ble_eq_true rfl⟩ ⟨Nat.zero_le _, Nat.zero_le _⟩ dX7_undo_4) (fun r1 I1 H locs h hM => ?_)
  obtain ⟨hk1, h⟩ := h
  rcases r1 with _ | b1
  · replace h := h.1 rfl
    refine W.eq (g2 := F0 m 7 ls [.null]) rfl ?_
    refine lv_astore_nN (lv' := [(1, .null), (0, .ref (gx_ad L a0))]) hx hb dX7_undo_7 rfl hl (by decide) rfl (fun ls hl => ?_)
    refine lv_aload_nN hx hb dX7_undo_8 rfl (lv_at hl 0 rfl) ?_
    refine lv_ifnonnullN hx hb dX7_undo_9 ?_
    refine gq_ldc (v := (-1000004 : Int32)) C gw_429 dX7_undo_12 ?_
    exact gq_iret C hM h dX7_undo_14
  · have hk := hk1 b1 rfl
    replace h := h.2 b1 rfl hk
    have hk2 := hk
    refine W.eq (g2 := F0 m 7 ls [.ref (gx_ad L b1)]) rfl ?_
    refine lv_astore_n (lv' := [(1, .ref (gx_ad L b1)), (0, .ref (gx_ad L a0))]) hx hb dX7_undo_7 rfl hl (by decide) rfl (fun ls hl => ?_)
    refine lv_aload_n hx hb dX7_undo_8 rfl (lv_at hl 0 rfl) ?_
    refine lv_ifnonnull (tgt := 15) hx hb dX7_undo_9 (by decide) ?_
    refine lv_aload_n hx hb dX7_undo_15 rfl (lv_at hl 1 rfl) ?_
    refine gX7_0 C hM hk0 gw_343 dX7_undo_16 ?_
    refine lv_aload_n hx hb dX7_undo_19 rfl (lv_at hl 0 rfl) ?_
    refine gq_backv C hM (gq_runV (As := [.ref (gx_ad L b1)]) (rest := []) C hM (kX_lt (kX_7_0 hk0) (by decide)) (cX_6 (kX_7_0 hk0)) rfl (c_X6_copyFrom l L (a0 + 1) (kX_7_0 hk0) b1 hk2 I1 _ h) k_X6_copyFrom gw_669 rfl hl.1 rfl (Nat.le_of_ble_eq_true rfl) ⟨⟨rfl, rfl⟩, Nat.le_of_ble_eq_true rfl, Nat.le_of_ble_eq_true rfl⟩ ⟨Nat.zero_le _, Nat.zero_le _⟩ dX7_undo_20) (fun I2 H locs h hM => ?_)
    refine lv_aload_n hx hb dX7_undo_23 rfl (lv_at hl 1 rfl) ?_
    refine gX7_3 C hM hk0 gw_346 dX7_undo_24 ?_
    refine gX0_1 C hM (kX_7_3 hk0) gw_226 dX7_undo_27 ?_
    exact gq_iret C hM h dX7_undo_30
theorem k_X7_undo : gx_kV yX7_undo cX7_undo 2 (some .int) 0 := ⟨⟨gw_664, gw_58, by decide, by decide, by decide +kernel⟩, gw_662, gw_663⟩
abbrev rm_X7_workOff : Room := { frames := 6, cells := 0, slots := 0, locals := 136 }
set_option maxHeartbeats 4000000 in
set_option maxRecDepth 100000 in
theorem tl_X7_workOff_39 (C : gx_C L 282 p s m args meth c RX7 cX7_workOff 4 (some .int)) {Q : Int32 → gx_M → Prop} : ∀ (fu : Nat) (v0 : Nat) (v1 : Int32) (v2 : Int32) (v3 : Int32) (hv0 : kX v0 = 7) (I : gx_M) (H : Heap) (locs : List Loc) (ls : Array Slot), gx_S L 282 (cellX L I) s.heap H locs → lv_has ls 4 [(0, .ref (gx_ad L v0)), (1, .int v1), (2, .int v2), (3, .int v3)] → wl_X7_workOff_39 Q fu v0 v1 v2 v3 I → W p l e rm_X7_workOff s m args below meth c H locs 0 0 (MQ below (va_Qi Q (fun I' t => gx_U L 282 (cellX L I') t) (gx_A L)) args s 0 0 (gx_A L)) (F0 m 39 ls []) := by
  have hx := C.1
  have hb := C.2.1
  intro fu
  induction fu with
  | zero => intros; rename_i h; exact False.elim h
  | succ fu ih =>
    intro v0 v1 v2 v3 hv0 I H locs ls hM hl h
    rw [wl_X7_workOff_39] at h
    refine lv_iload_n hx hb dX7_workOff_39 rfl (lv_at hl 3 rfl) ?_
    refine lv_iload_n hx hb dX7_workOff_40 rfl (lv_at hl 1 rfl) ?_
    refine lv_icmp_ge (tgt := 83) hx hb dX7_workOff_41 (by decide) (fun hc => ?_) (fun hc => ?_)
    · replace h := h.1 hc
      refine lv_iload_n hx hb dX7_workOff_83 rfl (lv_at hl 1 rfl) ?_
      refine lv_aload_n hx hb dX7_workOff_84 rfl (lv_at hl 0 rfl) ?_
      refine gX7_0 C hM hv0 gw_343 dX7_workOff_85 ?_
      refine gX6_9 C hM (kX_7_0 hv0) gw_193 dX7_workOff_88 ?_
      refine lv_iload_n hx hb dX7_workOff_91 rfl (lv_at hl 2 rfl) ?_
      refine lv_isub hx hb dX7_workOff_92 ?_
      refine lv_isub hx hb dX7_workOff_93 ?_
      exact gq_iret C hM h dX7_workOff_94
    · replace h := h.2 hc
      refine lv_aload_n hx hb dX7_workOff_44 rfl (lv_at hl 0 rfl) ?_
      refine gX7_6 C hM hv0 gw_349 dX7_workOff_45 ?_
      refine lv_aload_n hx hb dX7_workOff_48 rfl (lv_at hl 0 rfl) ?_
      refine gX7_0 C hM hv0 gw_343 dX7_workOff_49 ?_
      refine gq_backv C hM (gq_runV (As := [.ref (gx_ad L (v0 + 1))]) (rest := []) C hM (kX_lt (kX_7_6 hv0) (by decide)) (cX_3 (kX_7_6 hv0)) rfl (c_X3_begin l L (v0 + 273) (kX_7_6 hv0) (v0 + 1) (kX_7_0 hv0) I _ h) k_X3_begin gw_549 rfl hl.1 rfl (Nat.le_of_ble_eq_true rfl) ⟨⟨rfl, rfl⟩, Nat.le_of_ble_eq_true rfl, Nat.le_of_ble_eq_true rfl⟩ ⟨Nat.zero_le _, Nat.zero_le _⟩ dX7_workOff_52) (fun I1 H locs h hM => ?_)
      refine lv_aload_n hx hb dX7_workOff_55 rfl (lv_at hl 0 rfl) ?_
      refine gX7_6 C hM hv0 gw_349 dX7_workOff_56 ?_
      refine lv_aload_n hx hb dX7_workOff_59 rfl (lv_at hl 0 rfl) ?_
      refine gX7_0 C hM hv0 gw_343 dX7_workOff_60 ?_
      refine gq_backv C hM (gq_runV (As := [.ref (gx_ad L (v0 + 1))]) (rest := []) C hM (kX_lt (kX_7_6 hv0) (by decide)) (cX_3 (kX_7_6 hv0)) rfl (c_X3_goOn l L (v0 + 273) (kX_7_6 hv0) (v0 + 1) (kX_7_0 hv0) I1 _ h) k_X3_goOn gw_553 rfl hl.1 rfl (Nat.le_of_ble_eq_true rfl) ⟨⟨rfl, rfl⟩, Nat.le_of_ble_eq_true rfl, Nat.le_of_ble_eq_true rfl⟩ ⟨Nat.zero_le _, Nat.zero_le _⟩ dX7_workOff_63) (fun I2 H locs h hM => ?_)
      refine lv_aload_n hx hb dX7_workOff_66 rfl (lv_at hl 0 rfl) ?_
      refine lv_aload_n hx hb dX7_workOff_67 rfl (lv_at hl 0 rfl) ?_
      refine gX7_6 C hM hv0 gw_349 dX7_workOff_68 ?_
      refine gX3_1 C hM (kX_7_6 hv0) gw_263 dX7_workOff_71 ?_
      refine gq_backv C hM (gq_runV (As := [.int (I2 (v0 + 273) 1)]) (rest := []) C hM (kX_lt hv0 (by decide)) (cX_7 hv0) rfl (c_X7_doJob l L v0 hv0 (I2 (v0 + 273) 1) I2 _ h) k_X7_doJob gw_571 rfl hl.1 rfl (Nat.le_of_ble_eq_true rfl) ⟨⟨rfl, rfl⟩, Nat.le_of_ble_eq_true rfl, Nat.le_of_ble_eq_true rfl⟩ ⟨Nat.zero_le _, Nat.zero_le _⟩ dX7_workOff_74) (fun I3 H locs h hM => ?_)
      obtain ⟨x1, ex1⟩ : ∃ z : Int32, z = v3 + (1 : Int32) := ⟨_, rfl⟩
      replace h := h x1 ex1
      refine lv_iinc (v := x1) (lv' := [(3, .int x1), (0, .ref (gx_ad L v0)), (1, .int v1), (2, .int v2)]) hx hb dX7_workOff_77 hl (k := 3) rfl (by rw [ex1]; rfl) (by decide) rfl (fun ls hl => ?_)
      refine lv_goto (tgt := 39) hx hb dX7_workOff_80 (by decide) ?_
      exact ih v0 v1 v2 x1 (hv0) I3 _ _ _ hM (lv_sub hl [1, 2, 3, 0] rfl) h
set_option maxHeartbeats 4000000 in
set_option maxRecDepth 100000 in
theorem c_X7_workOff (l : Launch) (L : gx_L) (a0 : Nat) (hk0 : kX a0 = 7) (I : gx_M) (Q : Int32 → gx_M → Prop) (h : wp_X7_workOff a0 I Q) : Met l yX7_workOff (gx_w yX7_workOff cX7_workOff 4 (some .int)) rm_X7_workOff (va_Pc [.ref (gx_ad L a0)] (gx_U L 282 (cellX L I))) (va_Qi Q (fun I' t => gx_U L 282 (cellX L I') t) (gx_A L)) 0 0 (gx_A L) := by
  refine gq_enter (by decide) (Nat.le_of_ble_eq_true rfl) (fun p e s m below meth c ls C hM hl => ?_)
  have C : gx_C L 282 p s m _ meth c RX7 cX7_workOff 4 (some .int) := C
  have hl : lv_has ls 4 [(0, .ref (gx_ad L a0))] := hl
  have hx := C.1
  have hb := C.2.1
  unfold wp_X7_workOff at h
  refine lv_aload_n hx hb dX7_workOff_0 rfl (lv_at hl 0 rfl) ?_
  refine gX7_0 C hM hk0 gw_343 dX7_workOff_1 ?_
  refine gX6_1 C hM (kX_7_0 hk0) gw_176 dX7_workOff_4 ?_
  refine gX5_1 C hM (kX_6_1 (kX_7_0 hk0)) gw_99 dX7_workOff_7 ?_
  refine lv_topi (fun x1 ex1 => ?_)
  replace h := h x1 ex1
  refine lv_istore_n (lv' := [(1, .int x1), (0, .ref (gx_ad L a0))]) hx hb dX7_workOff_10 rfl hl (by decide) rfl (fun ls hl => ?_)
  refine lv_iload_n hx hb dX7_workOff_11 rfl (lv_at hl 0 rfl) ?_
  refine lv_if_ne (tgt := 18) hx hb dX7_workOff_12 (by decide) (fun hc => ?_) (fun hc => ?_)
  · replace h := h.2 hc
    refine lv_aload_n hx hb dX7_workOff_18 rfl (lv_at hl 1 rfl) ?_
    refine gX7_3 C hM hk0 gw_346 dX7_workOff_19 ?_
    refine lv_aload_n hx hb dX7_workOff_22 rfl (lv_at hl 1 rfl) ?_
    refine gX7_0 C hM hk0 gw_343 dX7_workOff_23 ?_
    refine gq_backv C hM (gq_runV (As := [.ref (gx_ad L (a0 + 1))]) (rest := []) C hM (kX_lt (kX_7_3 hk0) (by decide)) (cX_0 (kX_7_3 hk0)) rfl (c_X0_add l L (a0 + 77) (kX_7_3 hk0) (a0 + 1) (kX_7_0 hk0) I _ h) k_X0_add gw_393 rfl hl.1 rfl (Nat.le_of_ble_eq_true rfl) ⟨⟨rfl, rfl⟩, Nat.le_of_ble_eq_true rfl, Nat.le_of_ble_eq_true rfl⟩ ⟨Nat.zero_le _, Nat.zero_le _⟩ dX7_workOff_26) (fun I1 H locs h hM => ?_)
    refine lv_aload_n hx hb dX7_workOff_29 rfl (lv_at hl 1 rfl) ?_
    refine gX7_0 C hM hk0 gw_343 dX7_workOff_30 ?_
    refine gX6_9 C hM (kX_7_0 hk0) gw_193 dX7_workOff_33 ?_
    refine lv_topi (fun x2 ex2 => ?_)
    replace h := h x2 ex2
    refine lv_istore_n (lv' := [(2, .int x2), (1, .int x1), (0, .ref (gx_ad L a0))]) hx hb dX7_workOff_36 rfl hl (by decide) rfl (fun ls hl => ?_)
    refine lv_iconst (v := (0 : Int32)) hx hb dX7_workOff_37 (by decide) ?_
    refine lv_istore_n (lv' := [(3, .int (0 : Int32)), (2, .int x2), (1, .int x1), (0, .ref (gx_ad L a0))]) hx hb dX7_workOff_38 rfl hl (by decide) rfl (fun ls hl => ?_)
    obtain ⟨fu, h⟩ := h
    exact tl_X7_workOff_39 C fu a0 x1 x2 (0 : Int32) (hk0) I1 _ _ _ hM (lv_sub hl [3, 2, 1, 0] rfl) h
  · replace h := h.1 hc
    refine gq_ldc (v := (-1000004 : Int32)) C gw_429 dX7_workOff_15 ?_
    exact gq_iret C hM h dX7_workOff_17
theorem k_X7_workOff : gx_kV yX7_workOff cX7_workOff 4 (some .int) 0 := ⟨⟨gw_614, gw_58, by decide, by decide, by decide +kernel⟩, gw_612, gw_613⟩
end
