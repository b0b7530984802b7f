section
variable {p : Program} {l : Launch} {e : Env} {s : State} {m : MethodId} {args : Array Value} {below : List Frame} {meth : Method} {c : Code} {L : gx_L}
abbrev rm_X8_gauge : Room := { frames := 6, cells := 0, slots := 0, locals := 143 }
set_option maxHeartbeats 4000000 in
set_option maxRecDepth 100000 in
theorem c_X8_gauge (l : Launch) (L : gx_L) (a0 : Nat) (hk0 : kM a0 = 8) (p0 : Int32) (p1 : Int32) (p2 : Int32) (I : gx_MM) (Q : Int32 → gx_MM → Prop) (h : wp_X8_gauge a0 p0 p1 p2 I Q) : Met l yX8_gauge (gx_w yX8_gauge cX8_gauge 4 (some .int)) rm_X8_gauge (va_Pc [.ref (gx_ad L a0), .int p0, .int p1, .int p2] (gx_U L 7 (cellM L I))) (va_Qi Q (fun I' t => gx_U L 7 (cellM L I') t) (gx_A L)) 0 0 (gx_A L) := by
  refine gq_enter (by decide) (Nat.le_of_ble_eq_true rfl) (fun p e s m below meth c ls C hM hl => ?_)
  have C : gx_C L 7 p s m _ meth c RX8 cX8_gauge 4 (some .int) := C
  have hl : lv_has ls 4 [(0, .ref (gx_ad L a0)), (1, .int p0), (2, .int p1), (3, .int p2)] := hl
  have hx := C.1
  have hb := C.2.1
  unfold wp_X8_gauge at h
  refine lv_aload_n hx hb dX8_gauge_0 rfl (lv_at hl 0 rfl) ?_
  refine lv_iload_n hx hb dX8_gauge_1 rfl (lv_at hl 1 rfl) ?_
  refine gq_backi C hM (gq_runV (As := [.int p0]) (rest := []) C hM (kM_lt hk0 (by decide)) (cM_8 hk0) rfl (c_X8_noRosette l L a0 hk0 p0 I _ h) k_X8_noRosette gw_810 rfl hl.1 rfl (Nat.le_of_ble_eq_true rfl) ⟨⟨rfl, rfl⟩, Nat.le_of_ble_eq_true rfl, Nat.le_of_ble_eq_true rfl⟩ ⟨Nat.zero_le _, Nat.zero_le _⟩ dX8_gauge_2) (fun r1 I1 H locs h hM => ?_)
  obtain ⟨hz1, h⟩ := h
  refine lv_if_ne (tgt := 17) hx hb dX8_gauge_5 (by decide) (fun hc => ?_) (fun hc => ?_)
  · replace h := h.2 hc
    refine gq_ldc (v := (-1000001 : Int32)) C gw_814 dX8_gauge_17 ?_
    exact gq_iret C hM h dX8_gauge_19
  · replace h := h.1 hc
    refine lv_iload_n hx hb dX8_gauge_8 rfl (lv_at hl 2 rfl) ?_
    refine lv_iconst (v := (0 : Int32)) hx hb dX8_gauge_9 (by decide) ?_
    refine lv_iconst (v := (2 : Int32)) hx hb dX8_gauge_10 (by decide) ?_
    refine gq_backi C hM (gq_runS (As := [.int p1, .int (0 : Int32), .int (2 : Int32)]) (rest := []) C hM (c_X8_in l L p1 (0 : Int32) (2 : Int32) I1 _ h) k_X8_in gw_776 rfl hl.1 rfl (Nat.le_of_ble_eq_true rfl) ⟨⟨rfl, rfl⟩, Nat.le_of_ble_eq_true rfl, Nat.le_of_ble_eq_true rfl⟩ ⟨Nat.zero_le _, Nat.zero_le _⟩ dX8_gauge_11) (fun r2 I2 H locs h hM => ?_)
    obtain ⟨hz2, h⟩ := h
    refine lv_if_ne (tgt := 20) hx hb dX8_gauge_14 (by decide) (fun hc => ?_) (fun hc => ?_)
    · replace h := h.2 hc
      refine lv_iload_n hx hb dX8_gauge_20 rfl (lv_at hl 3 rfl) ?_
      by_cases hs0 : p2 = (0 : Int32)
      · replace h := h.1 hs0
        refine lv_tableIn (tgt := 68) hx hb dX8_gauge_21 (by rw [hs0]; decide) (by rw [hs0]; decide) (by rw [hs0]; rfl) (by decide) ?_
        refine lv_aload_n hx hb dX8_gauge_68 rfl (lv_at hl 0 rfl) ?_
        refine lv_iload_n hx hb dX8_gauge_69 rfl (lv_at hl 1 rfl) ?_
        refine lv_iload_n hx hb dX8_gauge_70 rfl (lv_at hl 2 rfl) ?_
        refine lv_iconst (v := (0 : Int32)) hx hb dX8_gauge_71 (by decide) ?_
        refine gq_backi C hM (gq_runV (As := [.int p0, .int p1, .int (0 : Int32)]) (rest := []) C hM (kM_lt hk0 (by decide)) (cM_8 hk0) rfl (c_X8_ofGauge l L a0 hk0 p0 p1 (0 : Int32) I2 _ h) k_X8_ofGauge gw_827 rfl hl.1 rfl (Nat.le_of_ble_eq_true rfl) ⟨⟨rfl, rfl⟩, Nat.le_of_ble_eq_true rfl, Nat.le_of_ble_eq_true rfl⟩ ⟨Nat.zero_le _, Nat.zero_le _⟩ dX8_gauge_72) (fun r3 I3 H locs h hM => ?_)
        exact gq_iret C hM h dX8_gauge_75
      by_cases hs1 : p2 = (1 : Int32)
      · replace h := h.2.1 hs1
        refine lv_tableIn (tgt := 76) hx hb dX8_gauge_21 (by rw [hs1]; decide) (by rw [hs1]; decide) (by rw [hs1]; rfl) (by decide) ?_
        refine lv_aload_n hx hb dX8_gauge_76 rfl (lv_at hl 0 rfl) ?_
        refine lv_iload_n hx hb dX8_gauge_77 rfl (lv_at hl 1 rfl) ?_
        refine lv_iload_n hx hb dX8_gauge_78 rfl (lv_at hl 2 rfl) ?_
        refine gq_backi C hM (gq_runV (As := [.int p0, .int p1]) (rest := []) C hM (kM_lt hk0 (by decide)) (cM_8 hk0) rfl (c_X8_strainOf l L a0 hk0 p0 p1 I2 _ h) k_X8_strainOf gw_836 rfl hl.1 rfl (Nat.le_of_ble_eq_true rfl) ⟨⟨rfl, rfl⟩, Nat.le_of_ble_eq_true rfl, Nat.le_of_ble_eq_true rfl⟩ ⟨Nat.zero_le _, Nat.zero_le _⟩ dX8_gauge_79) (fun r4 I4 H locs h hM => ?_)
        exact gq_iret C hM h dX8_gauge_82
      by_cases hs2 : p2 = (2 : Int32)
      · replace h := h.2.2.1 hs2
        refine lv_tableIn (tgt := 83) hx hb dX8_gauge_21 (by rw [hs2]; decide) (by rw [hs2]; decide) (by rw [hs2]; rfl) (by decide) ?_
        refine lv_aload_n hx hb dX8_gauge_83 rfl (lv_at hl 0 rfl) ?_
        refine lv_iload_n hx hb dX8_gauge_84 rfl (lv_at hl 1 rfl) ?_
        refine lv_iload_n hx hb dX8_gauge_85 rfl (lv_at hl 2 rfl) ?_
        refine lv_aload_n hx hb dX8_gauge_86 rfl (lv_at hl 0 rfl) ?_
        refine lv_iload_n hx hb dX8_gauge_87 rfl (lv_at hl 1 rfl) ?_
        refine lv_bipush (v := (8 : Int32)) hx hb dX8_gauge_88 (by decide) ?_
        refine gq_backi C hM (gq_runV (As := [.int p0, .int (8 : Int32)]) (rest := [.int p1, .int p0, .ref (gx_ad L a0)]) C hM (kM_lt hk0 (by decide)) (cM_8 hk0) rfl (c_X8_of l L a0 hk0 p0 (8 : Int32) I2 _ h) k_X8_of gw_789 rfl hl.1 rfl (Nat.le_of_ble_eq_true rfl) ⟨⟨rfl, rfl⟩, Nat.le_of_ble_eq_true rfl, Nat.le_of_ble_eq_true rfl⟩ ⟨Nat.zero_le _, Nat.zero_le _⟩ dX8_gauge_90) (fun r5 I5 H locs h hM => ?_)
        refine gq_backi C hM (gq_runV (As := [.int p0, .int p1, .int r5]) (rest := []) C hM (kM_lt hk0 (by decide)) (cM_8 hk0) rfl (c_X8_signalOf l L a0 hk0 p0 p1 r5 I5 _ h) k_X8_signalOf gw_823 rfl hl.1 rfl (Nat.le_of_ble_eq_true rfl) ⟨⟨rfl, rfl⟩, Nat.le_of_ble_eq_true rfl, Nat.le_of_ble_eq_true rfl⟩ ⟨Nat.zero_le _, Nat.zero_le _⟩ dX8_gauge_93) (fun r6 I6 H locs h hM => ?_)
        exact gq_iret C hM h dX8_gauge_96
      by_cases hs3 : p2 = (3 : Int32)
      · replace h := h.2.2.2.1 hs3
        refine lv_tableIn (tgt := 97) hx hb dX8_gauge_21 (by rw [hs3]; decide) (by rw [hs3]; decide) (by rw [hs3]; rfl) (by decide) ?_
        refine lv_aload_n hx hb dX8_gauge_97 rfl (lv_at hl 0 rfl) ?_
        refine lv_iload_n hx hb dX8_gauge_98 rfl (lv_at hl 1 rfl) ?_
        refine lv_iload_n hx hb dX8_gauge_99 rfl (lv_at hl 2 rfl) ?_
        refine gq_backi C hM (gq_runV (As := [.int p0, .int p1]) (rest := []) C hM (kM_lt hk0 (by decide)) (cM_8 hk0) rfl (c_X8_readingOf l L a0 hk0 p0 p1 I2 _ h) k_X8_readingOf gw_815 rfl hl.1 rfl (Nat.le_of_ble_eq_true rfl) ⟨⟨rfl, rfl⟩, Nat.le_of_ble_eq_true rfl, Nat.le_of_ble_eq_true rfl⟩ ⟨Nat.zero_le _, Nat.zero_le _⟩ dX8_gauge_100) (fun r7 I7 H locs h hM => ?_)
        exact gq_iret C hM h dX8_gauge_103
      by_cases hs4 : p2 = (4 : Int32)
      · replace h := h.2.2.2.2.1 hs4
        refine lv_tableIn (tgt := 104) hx hb dX8_gauge_21 (by rw [hs4]; decide) (by rw [hs4]; decide) (by rw [hs4]; rfl) (by decide) ?_
        refine lv_aload_n hx hb dX8_gauge_104 rfl (lv_at hl 0 rfl) ?_
        refine lv_iload_n hx hb dX8_gauge_105 rfl (lv_at hl 1 rfl) ?_
        refine lv_iload_n hx hb dX8_gauge_106 rfl (lv_at hl 2 rfl) ?_
        refine lv_iconst (v := (1 : Int32)) hx hb dX8_gauge_107 (by decide) ?_
        refine gq_backi C hM (gq_runV (As := [.int p0, .int p1, .int (1 : Int32)]) (rest := []) C hM (kM_lt hk0 (by decide)) (cM_8 hk0) rfl (c_X8_ofGauge l L a0 hk0 p0 p1 (1 : Int32) I2 _ h) k_X8_ofGauge gw_827 rfl hl.1 rfl (Nat.le_of_ble_eq_true rfl) ⟨⟨rfl, rfl⟩, Nat.le_of_ble_eq_true rfl, Nat.le_of_ble_eq_true rfl⟩ ⟨Nat.zero_le _, Nat.zero_le _⟩ dX8_gauge_108) (fun r8 I8 H locs h hM => ?_)
        exact gq_iret C hM h dX8_gauge_111
      by_cases hs5 : p2 = (5 : Int32)
      · replace h := h.2.2.2.2.2.1 hs5
        refine lv_tableIn (tgt := 112) hx hb dX8_gauge_21 (by rw [hs5]; decide) (by rw [hs5]; decide) (by rw [hs5]; rfl) (by decide) ?_
        refine lv_aload_n hx hb dX8_gauge_112 rfl (lv_at hl 0 rfl) ?_
        refine lv_iload_n hx hb dX8_gauge_113 rfl (lv_at hl 1 rfl) ?_
        refine lv_iload_n hx hb dX8_gauge_114 rfl (lv_at hl 2 rfl) ?_
        refine lv_iconst (v := (2 : Int32)) hx hb dX8_gauge_115 (by decide) ?_
        refine gq_backi C hM (gq_runV (As := [.int p0, .int p1, .int (2 : Int32)]) (rest := []) C hM (kM_lt hk0 (by decide)) (cM_8 hk0) rfl (c_X8_ofGauge l L a0 hk0 p0 p1 (2 : Int32) I2 _ h) k_X8_ofGauge gw_827 rfl hl.1 rfl (Nat.le_of_ble_eq_true rfl) ⟨⟨rfl, rfl⟩, Nat.le_of_ble_eq_true rfl, Nat.le_of_ble_eq_true rfl⟩ ⟨Nat.zero_le _, Nat.zero_le _⟩ dX8_gauge_116) (fun r9 I9 H locs h hM => ?_)
        exact gq_iret C hM h dX8_gauge_119
      by_cases hs6 : p2 = (6 : Int32)
      · replace h := h.2.2.2.2.2.2.1 hs6
        refine lv_tableIn (tgt := 120) hx hb dX8_gauge_21 (by rw [hs6]; decide) (by rw [hs6]; decide) (by rw [hs6]; rfl) (by decide) ?_
        refine lv_aload_n hx hb dX8_gauge_120 rfl (lv_at hl 0 rfl) ?_
        refine lv_iload_n hx hb dX8_gauge_121 rfl (lv_at hl 1 rfl) ?_
        refine lv_iload_n hx hb dX8_gauge_122 rfl (lv_at hl 2 rfl) ?_
        refine gq_backi C hM (gq_runV (As := [.int p0, .int p1]) (rest := []) C hM (kM_lt hk0 (by decide)) (cM_8 hk0) rfl (c_X8_correctedOf l L a0 hk0 p0 p1 I2 _ h) k_X8_correctedOf gw_932 rfl hl.1 rfl (Nat.le_of_ble_eq_true rfl) ⟨⟨rfl, rfl⟩, Nat.le_of_ble_eq_true rfl, Nat.le_of_ble_eq_true rfl⟩ ⟨Nat.zero_le _, Nat.zero_le _⟩ dX8_gauge_123) (fun r10 I10 H locs h hM => ?_)
        exact gq_iret C hM h dX8_gauge_126
      by_cases hs7 : p2 = (7 : Int32)
      · replace h := h.2.2.2.2.2.2.2.1 hs7
        refine lv_tableIn (tgt := 127) hx hb dX8_gauge_21 (by rw [hs7]; decide) (by rw [hs7]; decide) (by rw [hs7]; rfl) (by decide) ?_
        refine lv_aload_n hx hb dX8_gauge_127 rfl (lv_at hl 0 rfl) ?_
        refine lv_iload_n hx hb dX8_gauge_128 rfl (lv_at hl 1 rfl) ?_
        refine lv_iload_n hx hb dX8_gauge_129 rfl (lv_at hl 2 rfl) ?_
        refine gq_backi C hM (gq_runV (As := [.int p0, .int p1]) (rest := []) C hM (kM_lt hk0 (by decide)) (cM_8 hk0) rfl (c_X8_stepOf l L a0 hk0 p0 p1 I2 _ h) k_X8_stepOf gw_920 rfl hl.1 rfl (Nat.le_of_ble_eq_true rfl) ⟨⟨rfl, rfl⟩, Nat.le_of_ble_eq_true rfl, Nat.le_of_ble_eq_true rfl⟩ ⟨Nat.zero_le _, Nat.zero_le _⟩ dX8_gauge_130) (fun r11 I11 H locs h hM => ?_)
        exact gq_iret C hM h dX8_gauge_133
      replace h := h.2.2.2.2.2.2.2.2 hs0 hs1 hs2 hs3 hs4 hs5 hs6 hs7
      refine lv_tableOut (tgt := 134) hx hb dX8_gauge_21 (by have q0 := lv_neT (a := 0) hs0 (by decide); have q1 := lv_neT (a := 1) hs1 (by decide); have q2 := lv_neT (a := 2) hs2 (by decide); have q3 := lv_neT (a := 3) hs3 (by decide); have q4 := lv_neT (a := 4) hs4 (by decide); have q5 := lv_neT (a := 5) hs5 (by decide); have q6 := lv_neT (a := 6) hs6 (by decide); have q7 := lv_neT (a := 7) hs7 (by decide); omega) (by decide) ?_
      refine gq_ldc (v := (-1000002 : Int32)) C gw_779 dX8_gauge_134 ?_
      exact gq_iret C hM h dX8_gauge_136
    · replace h := h.1 hc
      refine gq_ldc (v := (-1000001 : Int32)) C gw_814 dX8_gauge_17 ?_
      exact gq_iret C hM h dX8_gauge_19
theorem k_X8_gauge : gx_kV yX8_gauge cX8_gauge 4 (some .int) 3 := ⟨⟨gw_1014, gw_67, by decide, by decide, by decide +kernel⟩, gw_1012, gw_1013⟩
abbrev rm_X8_isSign : Room := { frames := 0, cells := 0, slots := 0, locals := 0 }
set_option maxHeartbeats 4000000 in
set_option maxRecDepth 100000 in
theorem c_X8_isSign (l : Launch) (L : gx_L) (a0 : Nat) (hk0 : kM a0 = 8) (p0 : Int32) (I : gx_MM) (Q : Int32 → gx_MM → Prop) (h : wp_X8_isSign a0 p0 I Q) : Met l yX8_isSign (gx_w yX8_isSign cX8_isSign 2 (some .boolean)) rm_X8_isSign (va_Pc [.ref (gx_ad L a0), .int p0] (gx_U L 7 (cellM L I))) (va_Qi (fun r I' => r &&& 1 = r ∧ Q r I') (fun I' t => gx_U L 7 (cellM L I') t) (gx_A L)) 0 0 (gx_A L) := by
  refine gq_enter (by decide) (Nat.le_of_ble_eq_true rfl) (fun p e s m below meth c ls C hM hl => ?_)
  have C : gx_C L 7 p s m _ meth c RX8 cX8_isSign 2 (some .boolean) := C
  have hl : lv_has ls 2 [(0, .ref (gx_ad L a0)), (1, .int p0)] := hl
  have hx := C.1
  have hb := C.2.1
  unfold wp_X8_isSign at h
  refine lv_aload_n hx hb dX8_isSign_0 rfl (lv_at hl 0 rfl) ?_
  refine gX8_14 C hM hk0 gw_733 dX8_isSign_1 ?_
  refine lv_aload_n hx hb dX8_isSign_4 rfl (lv_at hl 0 rfl) ?_
  refine gX8_12 C hM hk0 gw_731 dX8_isSign_5 ?_
  refine lv_icmp_ge (tgt := 28) hx hb dX8_isSign_8 (by decide) (fun hc => ?_) (fun hc => ?_)
  · replace h := h.1 hc
    refine lv_iconst (v := (0 : Int32)) hx hb dX8_isSign_28 (by decide) ?_
    exact gq_zret C hM ⟨rfl, h⟩ (rfl) dX8_isSign_29
  · replace h := h.2 hc
    refine lv_aload_n hx hb dX8_isSign_11 rfl (lv_at hl 0 rfl) ?_
    refine gX8_13 C hM hk0 gw_732 dX8_isSign_12 ?_
    refine lv_aload_n hx hb dX8_isSign_15 rfl (lv_at hl 0 rfl) ?_
    refine gX8_14 C hM hk0 gw_733 dX8_isSign_16 ?_
    refine gcaldM C hM (kM_8_13 hk0) h.1 dX8_isSign_19 ?_
    replace h := h.2
    refine lv_iload_n hx hb dX8_isSign_20 rfl (lv_at hl 1 rfl) ?_
    refine lv_icmp_ne (tgt := 28) hx hb dX8_isSign_21 (by decide) (fun hc => ?_) (fun hc => ?_)
    · replace h := h.2 hc
      refine lv_iconst (v := (0 : Int32)) hx hb dX8_isSign_28 (by decide) ?_
      exact gq_zret C hM ⟨rfl, h⟩ (rfl) dX8_isSign_29
    · replace h := h.1 hc
      refine lv_iconst (v := (1 : Int32)) hx hb dX8_isSign_24 (by decide) ?_
      refine lv_goto (tgt := 29) hx hb dX8_isSign_25 (by decide) ?_
      exact gq_zret C hM ⟨rfl, h⟩ (rfl) dX8_isSign_29
theorem k_X8_isSign : gx_kV yX8_isSign cX8_isSign 2 (some .boolean) 1 := ⟨⟨gw_990, gw_67, by decide, by decide, by decide +kernel⟩, gw_989, gw_55⟩
abbrev rm_X8_job : Room := { frames := 3, cells := 0, slots := 0, locals := 70 }
set_option maxHeartbeats 4000000 in
set_option maxRecDepth 100000 in
theorem tl_X8_job_49 (C : gx_C L 7 p s m args meth c RX8 cX8_job 8 (some .int)) {Q : Int32 → gx_MM → Prop} : ∀ (fu : Nat) (v0 : Nat) (v1 : Int32) (v2 : Int32) (v3 : Int32) (v4 : Int32) (v5 : Int32) (v6 : Int32) (v7 : Int32) (hv0 : kM v0 = 8) (I : gx_MM) (H : Heap) (locs : List Loc) (ls : Array Slot), gx_S L 7 (cellM L I) s.heap H locs → lv_has ls 8 [(0, .ref (gx_ad L v0)), (1, .int v1), (2, .int v2), (3, .int v3), (4, .int v4), (5, .int v5), (6, .int v6), (7, .int v7)] → wl_X8_job_49 Q fu v0 v1 v2 v3 v4 v5 v6 v7 I → W p l e rm_X8_job s m args below meth c H locs 0 0 (MQ below (va_Qi Q (fun I' t => gx_U L 7 (cellM L I') t) (gx_A L)) args s 0 0 (gx_A L)) (F0 m 49 ls []) := by
  have hx := C.1
  have hb := C.2.1
  intro fu
  induction fu with
  | zero => intros; rename_i h; exact False.elim h
  | succ fu ih =>
    intro v0 v1 v2 v3 v4 v5 v6 v7 hv0 I H locs ls hM hl h
    rw [wl_X8_job_49] at h
    refine lv_iload hx hb dX8_job_49 (lv_at hl 7 rfl) ?_
    refine lv_iload_n hx hb dX8_job_51 rfl (lv_at hl 1 rfl) ?_
    refine lv_icmp_gt (tgt := 104) hx hb dX8_job_52 (by decide) (fun hc => ?_) (fun hc => ?_)
    · replace h := h.1 hc
      refine lv_iload_n hx hb dX8_job_104 rfl (lv_at hl 2 rfl) ?_
      refine lv_iconst (v := (4 : Int32)) hx hb dX8_job_105 (by decide) ?_
      refine lv_icmp_ne (tgt := 114) hx hb dX8_job_106 (by decide) (fun hc => ?_) (fun hc => ?_)
      · replace h := h.2 hc
        refine lv_aload_n hx hb dX8_job_114 rfl (lv_at hl 0 rfl) ?_
        refine lv_iload hx hb dX8_job_115 (lv_at hl 6 rfl) ?_
        refine lv_iload_n hx hb dX8_job_117 rfl (lv_at hl 2 rfl) ?_
        refine gq_backi C hM (gq_runV (As := [.int v6, .int v2]) (rest := []) C hM (kM_lt hv0 (by decide)) (cM_8 hv0) rfl (c_X8_ofJob l L v0 hv0 v6 v2 I _ h) k_X8_ofJob gw_877 rfl hl.1 rfl (Nat.le_of_ble_eq_true rfl) ⟨⟨rfl, rfl⟩, Nat.le_of_ble_eq_true rfl, Nat.le_of_ble_eq_true rfl⟩ ⟨Nat.zero_le _, Nat.zero_le _⟩ dX8_job_118) (fun r1 I1 H locs h hM => ?_)
        exact gq_iret C hM h dX8_job_121
      · replace h := h.1 hc
        refine lv_iload hx hb dX8_job_109 (lv_at hl 5 rfl) ?_
        refine lv_goto (tgt := 121) hx hb dX8_job_111 (by decide) ?_
        exact gq_iret C hM h dX8_job_121
    · replace h := h.2 hc
      refine lv_aload_n hx hb dX8_job_55 rfl (lv_at hl 0 rfl) ?_
      refine lv_iload_n hx hb dX8_job_56 rfl (lv_at hl 3 rfl) ?_
      refine lv_iload hx hb dX8_job_57 (lv_at hl 4 rfl) ?_
      refine gq_backi C hM (gq_runV (As := [.int v3, .int v4]) (rest := []) C hM (kM_lt hv0 (by decide)) (cM_8 hv0) rfl (c_X8_first l L v0 hv0 v3 v4 I _ h) k_X8_first gw_889 rfl hl.1 rfl (Nat.le_of_ble_eq_true rfl) ⟨⟨rfl, rfl⟩, Nat.le_of_ble_eq_true rfl, Nat.le_of_ble_eq_true rfl⟩ ⟨Nat.zero_le _, Nat.zero_le _⟩ dX8_job_59) (fun r2 I2 H locs h hM => ?_)
      refine lv_istore (lv' := [(6, .int r2), (0, .ref (gx_ad L v0)), (1, .int v1), (2, .int v2), (3, .int v3), (4, .int v4), (5, .int v5), (7, .int v7)]) hx hb dX8_job_62 hl (by decide) rfl (fun ls hl => ?_)
      refine lv_iload_n hx hb dX8_job_64 rfl (lv_at hl 4 rfl) ?_
      refine lv_iconst (v := (1 : Int32)) hx hb dX8_job_65 (by decide) ?_
      refine lv_iload hx hb dX8_job_66 (lv_at hl 0 rfl) ?_
      refine lv_ishl hx hb dX8_job_68 ?_
      refine lv_ior hx hb dX8_job_69 ?_
      refine lv_topi (fun x1 ex1 => ?_)
      replace h := h x1 ex1
      refine lv_istore_n (lv' := [(3, .int x1), (6, .int r2), (0, .ref (gx_ad L v0)), (1, .int v1), (2, .int v2), (4, .int v4), (5, .int v5), (7, .int v7)]) hx hb dX8_job_70 rfl hl (by decide) rfl (fun ls hl => ?_)
      refine lv_iload hx hb dX8_job_71 (lv_at hl 6 rfl) ?_
      refine lv_aload_n hx hb dX8_job_73 rfl (lv_at hl 2 rfl) ?_
      refine lv_iload hx hb dX8_job_74 (lv_at hl 1 rfl) ?_
      refine lv_iload hx hb dX8_job_76 (lv_at hl 5 rfl) ?_
      refine gq_backi C hM (gq_runV (As := [.int r2, .int v4]) (rest := [.int v5]) C hM (kM_lt hv0 (by decide)) (cM_8 hv0) rfl (c_X8_wayTo l L v0 hv0 r2 v4 I2 _ h) k_X8_wayTo gw_893 rfl hl.1 rfl (Nat.le_of_ble_eq_true rfl) ⟨⟨rfl, rfl⟩, Nat.le_of_ble_eq_true rfl, Nat.le_of_ble_eq_true rfl⟩ ⟨Nat.zero_le _, Nat.zero_le _⟩ dX8_job_78) (fun r3 I3 H locs h hM => ?_)
      refine lv_iadd hx hb dX8_job_81 ?_
      refine lv_topi (fun x2 ex2 => ?_)
      replace h := h x2 ex2
      refine lv_istore (lv' := [(5, .int x2), (3, .int x1), (6, .int r2), (0, .ref (gx_ad L v0)), (1, .int v1), (2, .int v2), (4, .int v4), (7, .int v7)]) hx hb dX8_job_82 hl (by decide) rfl (fun ls hl => ?_)
      refine lv_aload_n hx hb dX8_job_84 rfl (lv_at hl 3 rfl) ?_
      refine lv_aload_n hx hb dX8_job_85 rfl (lv_at hl 3 rfl) ?_
      refine lv_iload hx hb dX8_job_86 (lv_at hl 2 rfl) ?_
      refine lv_iconst (v := (2 : Int32)) hx hb dX8_job_88 (by decide) ?_
      refine gq_backi C hM (gq_runV (As := [.int r2, .int (2 : Int32)]) (rest := [.ref (gx_ad L v0)]) C hM (kM_lt hv0 (by decide)) (cM_8 hv0) rfl (c_X8_ofJob l L v0 hv0 r2 (2 : Int32) I3 _ h) k_X8_ofJob gw_877 rfl hl.1 rfl (Nat.le_of_ble_eq_true rfl) ⟨⟨rfl, rfl⟩, Nat.le_of_ble_eq_true rfl, Nat.le_of_ble_eq_true rfl⟩ ⟨Nat.zero_le _, Nat.zero_le _⟩ dX8_job_89) (fun r4 I4 H locs h hM => ?_)
      refine lv_iconst (v := (0 : Int32)) hx hb dX8_job_92 (by decide) ?_
      refine gq_backi C hM (gq_runV (As := [.int r4, .int (0 : Int32)]) (rest := []) C hM (kM_lt hv0 (by decide)) (cM_8 hv0) rfl (c_X8_of l L v0 hv0 r4 (0 : Int32) I4 _ h) k_X8_of gw_789 rfl hl.1 rfl (Nat.le_of_ble_eq_true rfl) ⟨⟨rfl, rfl⟩, Nat.le_of_ble_eq_true rfl, Nat.le_of_ble_eq_true rfl⟩ ⟨Nat.zero_le _, Nat.zero_le _⟩ dX8_job_93) (fun r5 I5 H locs h hM => ?_)
      refine lv_istore (lv' := [(4, .int r5), (5, .int x2), (3, .int x1), (6, .int r2), (0, .ref (gx_ad L v0)), (1, .int v1), (2, .int v2), (7, .int v7)]) hx hb dX8_job_96 hl (by decide) rfl (fun ls hl => ?_)
      obtain ⟨x3, ex3⟩ : ∃ z : Int32, z = v7 + (1 : Int32) := ⟨_, rfl⟩
      replace h := h x3 ex3
      refine lv_iinc (v := x3) (lv' := [(7, .int x3), (4, .int r5), (5, .int x2), (3, .int x1), (6, .int r2), (0, .ref (gx_ad L v0)), (1, .int v1), (2, .int v2)]) hx hb dX8_job_98 hl (k := 7) rfl (by rw [ex3]; rfl) (by decide) rfl (fun ls hl => ?_)
      refine lv_goto (tgt := 49) hx hb dX8_job_101 (by decide) ?_
      exact ih v0 v1 v2 x1 r5 x2 r2 x3 (hv0) I5 _ _ _ hM (lv_sub hl [5, 6, 7, 3, 1, 2, 4, 0] rfl) h
set_option maxHeartbeats 4000000 in
set_option maxRecDepth 100000 in
theorem c_X8_job (l : Launch) (L : gx_L) (a0 : Nat) (hk0 : kM a0 = 8) (p0 : Int32) (p1 : Int32) (I : gx_MM) (Q : Int32 → gx_MM → Prop) (h : wp_X8_job a0 p0 p1 I Q) : Met l yX8_job (gx_w yX8_job cX8_job 8 (some .int)) rm_X8_job (va_Pc [.ref (gx_ad L a0), .int p0, .int p1] (gx_U L 7 (cellM L I))) (va_Qi Q (fun I' t => gx_U L 7 (cellM L I') t) (gx_A L)) 0 0 (gx_A L) := by
  refine gq_enter (by decide) (Nat.le_of_ble_eq_true rfl) (fun p e s m below meth c ls C hM hl => ?_)
  have C : gx_C L 7 p s m _ meth c RX8 cX8_job 8 (some .int) := C
  have hl : lv_has ls 8 [(0, .ref (gx_ad L a0)), (1, .int p0), (2, .int p1)] := hl
  have hx := C.1
  have hb := C.2.1
  unfold wp_X8_job at h
  refine lv_iload_n hx hb dX8_job_0 rfl (lv_at hl 1 rfl) ?_
  refine lv_if_lt (tgt := 13) hx hb dX8_job_1 (by decide) (fun hc => ?_) (fun hc => ?_)
  · replace h := h.1 hc
    refine gq_ldc (v := (-1000002 : Int32)) C gw_779 dX8_job_13 ?_
    exact gq_iret C hM h dX8_job_15
  · replace h := h.2 hc
    refine lv_iload_n hx hb dX8_job_4 rfl (lv_at hl 2 rfl) ?_
    refine lv_iconst (v := (0 : Int32)) hx hb dX8_job_5 (by decide) ?_
    refine lv_iconst (v := (4 : Int32)) hx hb dX8_job_6 (by decide) ?_
    refine gq_backi C hM (gq_runS (As := [.int p1, .int (0 : Int32), .int (4 : Int32)]) (rest := []) C hM (c_X8_in l L p1 (0 : Int32) (4 : Int32) I _ h) k_X8_in gw_776 rfl hl.1 rfl (Nat.le_of_ble_eq_true rfl) ⟨⟨rfl, rfl⟩, Nat.le_of_ble_eq_true rfl, Nat.le_of_ble_eq_true rfl⟩ ⟨Nat.zero_le _, Nat.zero_le _⟩ dX8_job_7) (fun r1 I1 H locs h hM => ?_)
    obtain ⟨hz1, h⟩ := h
    refine lv_if_ne (tgt := 16) hx hb dX8_job_10 (by decide) (fun hc => ?_) (fun hc => ?_)
    · replace h := h.2 hc
      refine lv_iload_n hx hb dX8_job_16 rfl (lv_at hl 1 rfl) ?_
      refine lv_aload_n hx hb dX8_job_17 rfl (lv_at hl 0 rfl) ?_
      refine gX8_0 C hM hk0 gw_719 dX8_job_18 ?_
      refine lv_iconst (v := (4 : Int32)) hx hb dX8_job_21 (by decide) ?_
      refine gialdM C hM (kM_8_0 hk0) h.1 dX8_job_22 ?_
      replace h := h.2
      refine lv_icmp_lt (tgt := 29) hx hb dX8_job_23 (by decide) (fun hc => ?_) (fun hc => ?_)
      · replace h := h.1 hc
        refine lv_iconst (v := (0 : Int32)) hx hb dX8_job_29 (by decide) ?_
        refine lv_istore_n (lv' := [(3, .int (0 : Int32)), (0, .ref (gx_ad L a0)), (1, .int p0), (2, .int p1)]) hx hb dX8_job_30 rfl hl (by decide) rfl (fun ls hl => ?_)
        refine lv_aload_n hx hb dX8_job_31 rfl (lv_at hl 1 rfl) ?_
        refine gX8_0 C hM hk0 gw_719 dX8_job_32 ?_
        refine lv_iconst (v := (1 : Int32)) hx hb dX8_job_35 (by decide) ?_
        refine gialdM C hM (kM_8_0 hk0) h.1 dX8_job_36 ?_
        replace h := h.2
        refine lv_topi (fun x1 ex1 => ?_)
        replace h := h x1 ex1
        refine lv_istore (lv' := [(4, .int x1), (3, .int (0 : Int32)), (0, .ref (gx_ad L a0)), (1, .int p0), (2, .int p1)]) hx hb dX8_job_37 hl (by decide) rfl (fun ls hl => ?_)
        refine lv_iconst (v := (0 : Int32)) hx hb dX8_job_39 (by decide) ?_
        refine lv_istore (lv' := [(5, .int (0 : Int32)), (4, .int x1), (3, .int (0 : Int32)), (0, .ref (gx_ad L a0)), (1, .int p0), (2, .int p1)]) hx hb dX8_job_40 hl (by decide) rfl (fun ls hl => ?_)
        refine gq_ldc (v := (-1000004 : Int32)) C gw_793 dX8_job_42 ?_
        refine lv_istore (lv' := [(6, .int (-1000004 : Int32)), (5, .int (0 : Int32)), (4, .int x1), (3, .int (0 : Int32)), (0, .ref (gx_ad L a0)), (1, .int p0), (2, .int p1)]) hx hb dX8_job_44 hl (by decide) rfl (fun ls hl => ?_)
        refine lv_iconst (v := (0 : Int32)) hx hb dX8_job_46 (by decide) ?_
        refine lv_istore (lv' := [(7, .int (0 : Int32)), (6, .int (-1000004 : Int32)), (5, .int (0 : Int32)), (4, .int x1), (3, .int (0 : Int32)), (0, .ref (gx_ad L a0)), (1, .int p0), (2, .int p1)]) hx hb dX8_job_47 hl (by decide) rfl (fun ls hl => ?_)
        obtain ⟨fu, h⟩ := h
        exact tl_X8_job_49 C fu a0 p0 p1 (0 : Int32) x1 (0 : Int32) (-1000004 : Int32) (0 : Int32) (hk0) I1 _ _ _ hM (lv_sub hl [5, 6, 7, 4, 3, 2, 1, 0] rfl) h
      · replace h := h.2 hc
        refine gq_ldc (v := (-1000004 : Int32)) C gw_793 dX8_job_26 ?_
        exact gq_iret C hM h dX8_job_28
    · replace h := h.1 hc
      refine gq_ldc (v := (-1000002 : Int32)) C gw_779 dX8_job_13 ?_
      exact gq_iret C hM h dX8_job_15
theorem k_X8_job : gx_kV yX8_job cX8_job 8 (some .int) 2 := ⟨⟨gw_1026, gw_67, by decide, by decide, by decide +kernel⟩, gw_1024, gw_1025⟩
abbrev rm_X8_keep : Room := { frames := 0, cells := 0, slots := 0, locals := 0 }
set_option maxHeartbeats 4000000 in
set_option maxRecDepth 100000 in
theorem tl_X8_keep_2 (C : gx_C L 7 p s m args meth c RX8 cX8_keep 2 (some .int)) {Q : Int32 → gx_MM → Prop} : ∀ (fu : Nat) (v0 : Nat) (v1 : Int32) (hv0 : kM v0 = 8) (I : gx_MM) (H : Heap) (locs : List Loc) (ls : Array Slot), gx_S L 7 (cellM L I) s.heap H locs → lv_has ls 2 [(0, .ref (gx_ad L v0)), (1, .int v1)] → wl_X8_keep_2 Q fu v0 v1 I → W p l e rm_X8_keep s m args below meth c H locs 0 0 (MQ below (va_Qi Q (fun I' t => gx_U L 7 (cellM L I') t) (gx_A L)) args s 0 0 (gx_A L)) (F0 m 2 ls []) := by
  have hx := C.1
  have hb := C.2.1
  intro fu
  induction fu with
  | zero => intros; rename_i h; exact False.elim h
  | succ fu ih =>
    intro v0 v1 hv0 I H locs ls hM hl h
    rw [wl_X8_keep_2] at h
    refine lv_iload_n hx hb dX8_keep_2 rfl (lv_at hl 1 rfl) ?_
    refine lv_sipush (v := (298 : Int32)) hx hb dX8_keep_3 (by decide) ?_
    refine lv_icmp_ge (tgt := 27) hx hb dX8_keep_6 (by decide) (fun hc => ?_) (fun hc => ?_)
    · replace h := h.1 hc
      refine lv_aload_n hx hb dX8_keep_27 rfl (lv_at hl 0 rfl) ?_
      refine lv_iconst (v := (1 : Int32)) hx hb dX8_keep_28 (by decide) ?_
      obtain ⟨I1, eI1⟩ : ∃ z : gx_MM, z = um I v0 4 (1 : Int32) := ⟨_, rfl⟩
      replace h := h I1 eI1
      refine pX8_4 C hM hv0 rfl eI1 gw_723 dX8_keep_29 (fun H locs hM => ?_)
      refine lv_aload_n hx hb dX8_keep_32 rfl (lv_at hl 0 rfl) ?_
      refine gX8_0 C hM hv0 gw_719 dX8_keep_33 ?_
      refine lv_iconst (v := (0 : Int32)) hx hb dX8_keep_36 (by decide) ?_
      refine gialdM C hM (kM_8_0 hv0) h.1 dX8_keep_37 ?_
      replace h := h.2
      exact gq_iret C hM h dX8_keep_38
    · replace h := h.2 hc
      refine lv_aload_n hx hb dX8_keep_9 rfl (lv_at hl 0 rfl) ?_
      refine gX8_3 C hM hv0 gw_722 dX8_keep_10 ?_
      refine lv_iload_n hx hb dX8_keep_13 rfl (lv_at hl 1 rfl) ?_
      refine lv_aload_n hx hb dX8_keep_14 rfl (lv_at hl 0 rfl) ?_
      refine gX8_0 C hM hv0 gw_719 dX8_keep_15 ?_
      refine lv_iload_n hx hb dX8_keep_18 rfl (lv_at hl 1 rfl) ?_
      refine gialdM C hM (kM_8_0 hv0) h.1 dX8_keep_19 ?_
      replace h := h.2
      have hi := h.1
      replace h := h.2
      obtain ⟨I2, eI2⟩ : ∃ z : gx_MM, z = um I (v0 + 3) v1.toNatClampNeg (I.1 (v0 + 1) v1.toNatClampNeg) := ⟨_, rfl⟩
      replace h := h I2 eI2
      refine giastM C hM (kM_8_3 hv0) hi eI2 dX8_keep_20 (fun H locs hM => ?_)
      obtain ⟨x1, ex1⟩ : ∃ z : Int32, z = v1 + (1 : Int32) := ⟨_, rfl⟩
      replace h := h x1 ex1
      refine lv_iinc (v := x1) (lv' := [(1, .int x1), (0, .ref (gx_ad L v0))]) hx hb dX8_keep_21 hl (k := 1) rfl (by rw [ex1]; rfl) (by decide) rfl (fun ls hl => ?_)
      refine lv_goto (tgt := 2) hx hb dX8_keep_24 (by decide) ?_
      exact ih v0 x1 (hv0) I2 _ _ _ hM (lv_sub hl [1, 0] rfl) h
set_option maxHeartbeats 4000000 in
set_option maxRecDepth 100000 in
theorem c_X8_keep (l : Launch) (L : gx_L) (a0 : Nat) (hk0 : kM a0 = 8) (I : gx_MM) (Q : Int32 → gx_MM → Prop) (h : wp_X8_keep a0 I Q) : Met l yX8_keep (gx_w yX8_keep cX8_keep 2 (some .int)) rm_X8_keep (va_Pc [.ref (gx_ad L a0)] (gx_U L 7 (cellM L I))) (va_Qi Q (fun I' t => gx_U L 7 (cellM L I') t) (gx_A L)) 0 0 (gx_A L) := by
  refine gq_enter (by decide) (Nat.le_of_ble_eq_true rfl) (fun p e s m below meth c ls C hM hl => ?_)
  have C : gx_C L 7 p s m _ meth c RX8 cX8_keep 2 (some .int) := C
  have hl : lv_has ls 2 [(0, .ref (gx_ad L a0))] := hl
  have hx := C.1
  have hb := C.2.1
  unfold wp_X8_keep at h
  refine lv_iconst (v := (0 : Int32)) hx hb dX8_keep_0 (by decide) ?_
  refine lv_istore_n (lv' := [(1, .int (0 : Int32)), (0, .ref (gx_ad L a0))]) hx hb dX8_keep_1 rfl hl (by decide) rfl (fun ls hl => ?_)
  obtain ⟨fu, h⟩ := h
  exact tl_X8_keep_2 C fu a0 (0 : Int32) (hk0) I _ _ _ hM (lv_sub hl [1, 0] rfl) h
theorem k_X8_keep : gx_kV yX8_keep cX8_keep 2 (some .int) 0 := ⟨⟨gw_1002, gw_67, by decide, by decide, by decide +kernel⟩, gw_1000, gw_1001⟩
abbrev rm_X8_neighbour : Room := { frames := 1, cells := 0, slots := 0, locals := 22 }
set_option maxHeartbeats 4000000 in
set_option maxRecDepth 100000 in
theorem tj_X8_neighbour_88 (C : gx_C L 7 p s m args meth c RX8 cX8_neighbour 6 (some .int)) {Q : Int32 → gx_MM → Prop} {K20 : Nat → Int32 → Int32 → Int32 → Int32 → gx_MM → Prop} (hK20 : ∀ (v0 : Nat) (v1 : Int32) (v2 : Int32) (v3 : Int32) (v4 : Int32) (hv0 : kM v0 = 8) (I : gx_MM) (H : Heap) (locs : List Loc) (ls : Array Slot), gx_S L 7 (cellM L I) s.heap H locs → lv_has ls 6 [(0, .ref (gx_ad L v0)), (1, .int v1), (2, .int v2), (3, .int v3), (4, .int v4)] → K20 v0 v1 v2 v3 v4 I → W p l e rm_X8_neighbour s m args below meth c H locs 0 0 (MQ below (va_Qi Q (fun I' t => gx_U L 7 (cellM L I') t) (gx_A L)) args s 0 0 (gx_A L)) (F0 m 20 ls [])) : ∀ (v0 : Nat) (v1 : Int32) (v2 : Int32) (v3 : Int32) (v4 : Int32) (hv0 : kM v0 = 8) (I : gx_MM) (H : Heap) (locs : List Loc) (ls : Array Slot), gx_S L 7 (cellM L I) s.heap H locs → lv_has ls 6 [(0, .ref (gx_ad L v0)), (1, .int v1), (2, .int v2), (3, .int v3), (4, .int v4)] → wj_X8_neighbour_88 Q K20 v0 v1 v2 v3 v4 I → W p l e rm_X8_neighbour s m args below meth c H locs 0 0 (MQ below (va_Qi Q (fun I' t => gx_U L 7 (cellM L I') t) (gx_A L)) args s 0 0 (gx_A L)) (F0 m 88 ls []) := by
  have hx := C.1
  have hb := C.2.1
  intro v0 v1 v2 v3 v4 hv0 I H locs ls hM hl h
  unfold wj_X8_neighbour_88 at h
  obtain ⟨x1, ex1⟩ : ∃ z : Int32, z = v4 + (1 : Int32) := ⟨_, rfl⟩
  replace h := h x1 ex1
  refine lv_iinc (v := x1) (lv' := [(4, .int x1), (0, .ref (gx_ad L v0)), (1, .int v1), (2, .int v2), (3, .int v3)]) hx hb dX8_neighbour_88 hl (k := 4) rfl (by rw [ex1]; rfl) (by decide) rfl (fun ls hl => ?_)
  refine lv_goto (tgt := 20) hx hb dX8_neighbour_91 (by decide) ?_
  exact hK20 v0 v1 v2 v3 x1 (hv0) I _ _ _ hM (lv_sub hl [1, 2, 3, 4, 0] rfl) h
set_option maxHeartbeats 4000000 in
set_option maxRecDepth 100000 in
theorem tj_X8_neighbour_85 (C : gx_C L 7 p s m args meth c RX8 cX8_neighbour 6 (some .int)) {Q : Int32 → gx_MM → Prop} {K20 : Nat → Int32 → Int32 → Int32 → Int32 → gx_MM → Prop} (hK20 : ∀ (v0 : Nat) (v1 : Int32) (v2 : Int32) (v3 : Int32) (v4 : Int32) (hv0 : kM v0 = 8) (I : gx_MM) (H : Heap) (locs : List Loc) (ls : Array Slot), gx_S L 7 (cellM L I) s.heap H locs → lv_has ls 6 [(0, .ref (gx_ad L v0)), (1, .int v1), (2, .int v2), (3, .int v3), (4, .int v4)] → K20 v0 v1 v2 v3 v4 I → W p l e rm_X8_neighbour s m args below meth c H locs 0 0 (MQ below (va_Qi Q (fun I' t => gx_U L 7 (cellM L I') t) (gx_A L)) args s 0 0 (gx_A L)) (F0 m 20 ls [])) : ∀ (v0 : Nat) (v1 : Int32) (v2 : Int32) (v4 : Int32) (hv0 : kM v0 = 8) (I : gx_MM) (H : Heap) (locs : List Loc) (ls : Array Slot), gx_S L 7 (cellM L I) s.heap H locs → lv_has ls 6 [(0, .ref (gx_ad L v0)), (1, .int v1), (2, .int v2), (4, .int v4)] → wj_X8_neighbour_85 Q K20 v0 v1 v2 v4 I → W p l e rm_X8_neighbour s m args below meth c H locs 0 0 (MQ below (va_Qi Q (fun I' t => gx_U L 7 (cellM L I') t) (gx_A L)) args s 0 0 (gx_A L)) (F0 m 85 ls []) := by
  have hx := C.1
  have hb := C.2.1
  intro v0 v1 v2 v4 hv0 I H locs ls hM hl h
  unfold wj_X8_neighbour_85 at h
  refine lv_iload hx hb dX8_neighbour_85 (lv_at hl 3 rfl) ?_
  refine lv_istore_n (lv' := [(3, .int v4), (0, .ref (gx_ad L v0)), (1, .int v1), (2, .int v2), (4, .int v4)]) hx hb dX8_neighbour_87 rfl hl (by decide) rfl (fun ls hl => ?_)
  exact tj_X8_neighbour_88 C hK20 v0 v1 v2 v4 v4 (hv0) I _ _ _ hM (lv_sub hl [1, 2, 3, 0, 4] rfl) h
set_option maxHeartbeats 4000000 in
set_option maxRecDepth 100000 in
theorem tj_X8_neighbour_56 (C : gx_C L 7 p s m args meth c RX8 cX8_neighbour 6 (some .int)) {Q : Int32 → gx_MM → Prop} {K20 : Nat → Int32 → Int32 → Int32 → Int32 → gx_MM → Prop} (hK20 : ∀ (v0 : Nat) (v1 : Int32) (v2 : Int32) (v3 : Int32) (v4 : Int32) (hv0 : kM v0 = 8) (I : gx_MM) (H : Heap) (locs : List Loc) (ls : Array Slot), gx_S L 7 (cellM L I) s.heap H locs → lv_has ls 6 [(0, .ref (gx_ad L v0)), (1, .int v1), (2, .int v2), (3, .int v3), (4, .int v4)] → K20 v0 v1 v2 v3 v4 I → W p l e rm_X8_neighbour s m args below meth c H locs 0 0 (MQ below (va_Qi Q (fun I' t => gx_U L 7 (cellM L I') t) (gx_A L)) args s 0 0 (gx_A L)) (F0 m 20 ls [])) : ∀ (v0 : Nat) (v1 : Int32) (v2 : Int32) (v3 : Int32) (v4 : Int32) (u0 : Int32) (hv0 : kM v0 = 8) (I : gx_MM) (H : Heap) (locs : List Loc) (ls : Array Slot), gx_S L 7 (cellM L I) s.heap H locs → lv_has ls 6 [(0, .ref (gx_ad L v0)), (1, .int v1), (2, .int v2), (3, .int v3), (4, .int v4)] → wj_X8_neighbour_56 Q K20 v0 v1 v2 v3 v4 u0 I → W p l e rm_X8_neighbour s m args below meth c H locs 0 0 (MQ below (va_Qi Q (fun I' t => gx_U L 7 (cellM L I') t) (gx_A L)) args s 0 0 (gx_A L)) (F0 m 56 ls [.int u0]) := by
  have hx := C.1
  have hb := C.2.1
  intro v0 v1 v2 v3 v4 u0 hv0 I H locs ls hM hl h
  unfold wj_X8_neighbour_56 at h
  refine lv_istore (lv' := [(5, .int u0), (0, .ref (gx_ad L v0)), (1, .int v1), (2, .int v2), (3, .int v3), (4, .int v4)]) hx hb dX8_neighbour_56 hl (by decide) rfl (fun ls hl => ?_)
  refine lv_iload hx hb dX8_neighbour_58 (lv_at hl 0 rfl) ?_
  refine lv_if_le (tgt := 88) hx hb dX8_neighbour_60 (by decide) (fun hc => ?_) (fun hc => ?_)
  · replace h := h.1 hc
    exact tj_X8_neighbour_88 C hK20 v0 v1 v2 v3 v4 (hv0) I _ _ _ hM (lv_sub hl [1, 2, 3, 4, 5] rfl) h
  · replace h := h.2 hc
    refine lv_iload_n hx hb dX8_neighbour_63 rfl (lv_at hl 4 rfl) ?_
    refine gq_ldc (v := (-1000004 : Int32)) C gw_793 dX8_neighbour_64 ?_
    refine lv_icmp_eq (tgt := 85) hx hb dX8_neighbour_66 (by decide) (fun hc => ?_) (fun hc => ?_)
    · replace h := h.1 hc
      exact tj_X8_neighbour_85 C hK20 v0 v1 v2 v4 (hv0) I _ _ _ hM (lv_sub hl [1, 2, 3, 5] rfl) h
    · replace h := h.2 hc
      refine lv_iload hx hb dX8_neighbour_69 (lv_at hl 0 rfl) ?_
      refine lv_aload_n hx hb dX8_neighbour_71 rfl (lv_at hl 1 rfl) ?_
      refine lv_iload_n hx hb dX8_neighbour_72 rfl (lv_at hl 4 rfl) ?_
      refine lv_iconst (v := (0 : Int32)) hx hb dX8_neighbour_73 (by decide) ?_
      refine gq_backi C hM (gq_runV (As := [.int v3, .int (0 : Int32)]) (rest := [.int u0]) C hM (kM_lt hv0 (by decide)) (cM_8 hv0) rfl (c_X8_of l L v0 hv0 v3 (0 : Int32) I _ h) k_X8_of gw_789 rfl hl.1 rfl (Nat.le_of_ble_eq_true rfl) ⟨⟨rfl, rfl⟩, Nat.le_of_ble_eq_true rfl, Nat.le_of_ble_eq_true rfl⟩ ⟨Nat.zero_le _, Nat.zero_le _⟩ dX8_neighbour_74) (fun r1 I1 H locs h hM => ?_)
      refine lv_iload_n hx hb dX8_neighbour_77 rfl (lv_at hl 2 rfl) ?_
      refine lv_isub hx hb dX8_neighbour_78 ?_
      refine gq_backi C hM (gq_runS (As := [.int (r1 - v1)]) (rest := [.int u0]) C hM (c_X8_size l L (r1 - v1) I1 _ h) k_X8_size gw_897 rfl hl.1 rfl (Nat.le_of_ble_eq_true rfl) ⟨⟨rfl, rfl⟩, Nat.le_of_ble_eq_true rfl, Nat.le_of_ble_eq_true rfl⟩ ⟨Nat.zero_le _, Nat.zero_le _⟩ dX8_neighbour_79) (fun r2 I2 H locs h hM => ?_)
      refine lv_icmp_ge (tgt := 88) hx hb dX8_neighbour_82 (by decide) (fun hc => ?_) (fun hc => ?_)
      · replace h := h.1 hc
        exact tj_X8_neighbour_88 C hK20 v0 v1 v2 v3 v4 (hv0) I2 _ _ _ hM (lv_sub hl [1, 2, 3, 4, 5] rfl) h
      · replace h := h.2 hc
        exact tj_X8_neighbour_85 C hK20 v0 v1 v2 v4 (hv0) I2 _ _ _ hM (lv_sub hl [1, 2, 3, 5] rfl) h
set_option maxHeartbeats 4000000 in
set_option maxRecDepth 100000 in
theorem tl_X8_neighbour_20 (C : gx_C L 7 p s m args meth c RX8 cX8_neighbour 6 (some .int)) {Q : Int32 → gx_MM → Prop} : ∀ (fu : Nat) (v0 : Nat) (v1 : Int32) (v2 : Int32) (v3 : Int32) (v4 : Int32) (hv0 : kM v0 = 8) (I : gx_MM) (H : Heap) (locs : List Loc) (ls : Array Slot), gx_S L 7 (cellM L I) s.heap H locs → lv_has ls 6 [(0, .ref (gx_ad L v0)), (1, .int v1), (2, .int v2), (3, .int v3), (4, .int v4)] → wl_X8_neighbour_20 Q fu v0 v1 v2 v3 v4 I → W p l e rm_X8_neighbour s m args below meth c H locs 0 0 (MQ below (va_Qi Q (fun I' t => gx_U L 7 (cellM L I') t) (gx_A L)) args s 0 0 (gx_A L)) (F0 m 20 ls []) := by
  have hx := C.1
  have hb := C.2.1
  intro fu
  induction fu with
  | zero => intros; rename_i h; exact False.elim h
  | succ fu ih =>
    intro v0 v1 v2 v3 v4 hv0 I H locs ls hM hl h
    rw [wl_X8_neighbour_20] at h
    refine lv_iload hx hb dX8_neighbour_20 (lv_at hl 4 rfl) ?_
    refine lv_aload_n hx hb dX8_neighbour_22 rfl (lv_at hl 0 rfl) ?_
    refine gX8_0 C hM hv0 gw_719 dX8_neighbour_23 ?_
    refine lv_iconst (v := (0 : Int32)) hx hb dX8_neighbour_26 (by decide) ?_
    refine gialdM C hM (kM_8_0 hv0) h.1 dX8_neighbour_27 ?_
    replace h := h.2
    refine lv_icmp_ge (tgt := 94) hx hb dX8_neighbour_28 (by decide) (fun hc => ?_) (fun hc => ?_)
    · replace h := h.1 hc
      refine lv_iload_n hx hb dX8_neighbour_94 rfl (lv_at hl 3 rfl) ?_
      exact gq_iret C hM h dX8_neighbour_95
    · replace h := h.2 hc
      refine lv_iload_n hx hb dX8_neighbour_31 rfl (lv_at hl 2 rfl) ?_
      refine lv_if_eq (tgt := 47) hx hb dX8_neighbour_32 (by decide) (fun hc => ?_) (fun hc => ?_)
      · replace h := h.1 hc
        refine lv_iload_n hx hb dX8_neighbour_47 rfl (lv_at hl 1 rfl) ?_
        refine lv_aload_n hx hb dX8_neighbour_48 rfl (lv_at hl 0 rfl) ?_
        refine lv_iload hx hb dX8_neighbour_49 (lv_at hl 4 rfl) ?_
        refine lv_iconst (v := (0 : Int32)) hx hb dX8_neighbour_51 (by decide) ?_
        refine gq_backi C hM (gq_runV (As := [.int v4, .int (0 : Int32)]) (rest := [.int v1]) C hM (kM_lt hv0 (by decide)) (cM_8 hv0) rfl (c_X8_of l L v0 hv0 v4 (0 : Int32) I _ h) k_X8_of gw_789 rfl hl.1 rfl (Nat.le_of_ble_eq_true rfl) ⟨⟨rfl, rfl⟩, Nat.le_of_ble_eq_true rfl, Nat.le_of_ble_eq_true rfl⟩ ⟨Nat.zero_le _, Nat.zero_le _⟩ dX8_neighbour_52) (fun r1 I1 H locs h hM => ?_)
        refine lv_isub hx hb dX8_neighbour_55 ?_
        exact tj_X8_neighbour_56 C ih v0 v1 v2 v3 v4 (v1 - r1) (hv0) I1 _ _ _ hM (lv_sub hl [0, 1, 2, 3, 4] rfl) h
      · replace h := h.2 hc
        refine lv_aload_n hx hb dX8_neighbour_35 rfl (lv_at hl 0 rfl) ?_
        refine lv_iload hx hb dX8_neighbour_36 (lv_at hl 4 rfl) ?_
        refine lv_iconst (v := (0 : Int32)) hx hb dX8_neighbour_38 (by decide) ?_
        refine gq_backi C hM (gq_runV (As := [.int v4, .int (0 : Int32)]) (rest := []) C hM (kM_lt hv0 (by decide)) (cM_8 hv0) rfl (c_X8_of l L v0 hv0 v4 (0 : Int32) I _ h) k_X8_of gw_789 rfl hl.1 rfl (Nat.le_of_ble_eq_true rfl) ⟨⟨rfl, rfl⟩, Nat.le_of_ble_eq_true rfl, Nat.le_of_ble_eq_true rfl⟩ ⟨Nat.zero_le _, Nat.zero_le _⟩ dX8_neighbour_39) (fun r2 I2 H locs h hM => ?_)
        refine lv_iload_n hx hb dX8_neighbour_42 rfl (lv_at hl 1 rfl) ?_
        refine lv_isub hx hb dX8_neighbour_43 ?_
        refine lv_goto (tgt := 56) hx hb dX8_neighbour_44 (by decide) ?_
        exact tj_X8_neighbour_56 C ih v0 v1 v2 v3 v4 (r2 - v1) (hv0) I2 _ _ _ hM (lv_sub hl [0, 1, 2, 3, 4] rfl) h
set_option maxHeartbeats 4000000 in
set_option maxRecDepth 100000 in
theorem c_X8_neighbour (l : Launch) (L : gx_L) (a0 : Nat) (hk0 : kM a0 = 8) (p0 : Int32) (p1 : Int32) (I : gx_MM) (Q : Int32 → gx_MM → Prop) (h : wp_X8_neighbour a0 p0 p1 I Q) : Met l yX8_neighbour (gx_w yX8_neighbour cX8_neighbour 6 (some .int)) rm_X8_neighbour (va_Pc [.ref (gx_ad L a0), .int p0, .int p1] (gx_U L 7 (cellM L I))) (va_Qi Q (fun I' t => gx_U L 7 (cellM L I') t) (gx_A L)) 0 0 (gx_A L) := by
  refine gq_enter (by decide) (Nat.le_of_ble_eq_true rfl) (fun p e s m below meth c ls C hM hl => ?_)
  have C : gx_C L 7 p s m _ meth c RX8 cX8_neighbour 6 (some .int) := C
  have hl : lv_has ls 6 [(0, .ref (gx_ad L a0)), (1, .int p0), (2, .int p1)] := hl
  have hx := C.1
  have hb := C.2.1
  unfold wp_X8_neighbour at h
  refine lv_iload_n hx hb dX8_neighbour_0 rfl (lv_at hl 1 rfl) ?_
  refine lv_iconst (v := (0 : Int32)) hx hb dX8_neighbour_1 (by decide) ?_
  refine lv_sipush (v := (1000 : Int32)) hx hb dX8_neighbour_2 (by decide) ?_
  refine gq_backi C hM (gq_runS (As := [.int p0, .int (0 : Int32), .int (1000 : Int32)]) (rest := []) C hM (c_X8_in l L p0 (0 : Int32) (1000 : Int32) I _ h) k_X8_in gw_776 rfl hl.1 rfl (Nat.le_of_ble_eq_true rfl) ⟨⟨rfl, rfl⟩, Nat.le_of_ble_eq_true rfl, Nat.le_of_ble_eq_true rfl⟩ ⟨Nat.zero_le _, Nat.zero_le _⟩ dX8_neighbour_5) (fun r1 I1 H locs h hM => ?_)
  obtain ⟨hz1, h⟩ := h
  refine lv_if_ne (tgt := 14) hx hb dX8_neighbour_8 (by decide) (fun hc => ?_) (fun hc => ?_)
  · replace h := h.2 hc
    refine gq_ldc (v := (-1000004 : Int32)) C gw_793 dX8_neighbour_14 ?_
    refine lv_istore_n (lv' := [(3, .int (-1000004 : Int32)), (0, .ref (gx_ad L a0)), (1, .int p0), (2, .int p1)]) hx hb dX8_neighbour_16 rfl hl (by decide) rfl (fun ls hl => ?_)
    refine lv_iconst (v := (0 : Int32)) hx hb dX8_neighbour_17 (by decide) ?_
    refine lv_istore (lv' := [(4, .int (0 : Int32)), (3, .int (-1000004 : Int32)), (0, .ref (gx_ad L a0)), (1, .int p0), (2, .int p1)]) hx hb dX8_neighbour_18 hl (by decide) rfl (fun ls hl => ?_)
    obtain ⟨fu, h⟩ := h
    exact tl_X8_neighbour_20 C fu a0 p0 p1 (-1000004 : Int32) (0 : Int32) (hk0) I1 _ _ _ hM (lv_sub hl [2, 3, 4, 1, 0] rfl) h
  · replace h := h.1 hc
    refine gq_ldc (v := (-1000002 : Int32)) C gw_779 dX8_neighbour_11 ?_
    exact gq_iret C hM h dX8_neighbour_13
theorem k_X8_neighbour : gx_kV yX8_neighbour cX8_neighbour 6 (some .int) 2 := ⟨⟨gw_1034, gw_67, by decide, by decide, by decide +kernel⟩, gw_1032, gw_1033⟩
abbrev rm_X8_next : Room := { frames := 9, cells := 0, slots := 0, locals := 221 }
set_option maxHeartbeats 4000000 in
set_option maxRecDepth 100000 in
theorem c_X8_next (l : Launch) (L : gx_L) (a0 : Nat) (hk0 : kM a0 = 8) (I : gx_MM) (Q : Int32 → gx_MM → Prop) (h : wp_X8_next a0 I Q) : Met l yX8_next (gx_w yX8_next cX8_next 3 (some .int)) rm_X8_next (va_Pc [.ref (gx_ad L a0)] (gx_U L 7 (cellM L I))) (va_Qi Q (fun I' t => gx_U L 7 (cellM L I') t) (gx_A L)) 0 0 (gx_A L) := by
  refine gq_enter (by decide) (Nat.le_of_ble_eq_true rfl) (fun p e s m below meth c ls C hM hl => ?_)
  have C : gx_C L 7 p s m _ meth c RX8 cX8_next 3 (some .int) := C
  have hl : lv_has ls 3 [(0, .ref (gx_ad L a0))] := hl
  have hx := C.1
  have hb := C.2.1
  unfold wp_X8_next at h
  refine lv_aload_n hx hb dX8_next_0 rfl (lv_at hl 0 rfl) ?_
  refine gX8_0 C hM hk0 gw_719 dX8_next_1 ?_
  refine lv_iconst (v := (4 : Int32)) hx hb dX8_next_4 (by decide) ?_
  refine gialdM C hM (kM_8_0 hk0) h.1 dX8_next_5 ?_
  replace h := h.2
  refine lv_if_ne (tgt := 12) hx hb dX8_next_6 (by decide) (fun hc => ?_) (fun hc => ?_)
  · replace h := h.2 hc
    refine lv_aload_n hx hb dX8_next_12 rfl (lv_at hl 0 rfl) ?_
    refine gq_backv C hM (gq_runV (As := []) (rest := []) C hM (kM_lt hk0 (by decide)) (cM_8 hk0) rfl (c_X8_save l L a0 hk0 I _ h) k_X8_save gw_794 rfl hl.1 rfl (Nat.le_of_ble_eq_true rfl) ⟨⟨rfl, rfl⟩, Nat.le_of_ble_eq_true rfl, Nat.le_of_ble_eq_true rfl⟩ ⟨Nat.zero_le _, Nat.zero_le _⟩ dX8_next_13) (fun I1 H locs h hM => ?_)
    refine lv_aload_n hx hb dX8_next_16 rfl (lv_at hl 0 rfl) ?_
    refine lv_aload_n hx hb dX8_next_17 rfl (lv_at hl 0 rfl) ?_
    refine lv_iconst (v := (0 : Int32)) hx hb dX8_next_18 (by decide) ?_
    refine lv_aload_n hx hb dX8_next_19 rfl (lv_at hl 0 rfl) ?_
    refine gX8_0 C hM hk0 gw_719 dX8_next_20 ?_
    refine lv_iconst (v := (1 : Int32)) hx hb dX8_next_23 (by decide) ?_
    refine gialdM C hM (kM_8_0 hk0) h.1 dX8_next_24 ?_
    replace h := h.2
    refine gq_backi C hM (gq_runV (As := [.int (0 : Int32), .int (I1.1 (a0 + 1) (1 : Int32).toNatClampNeg)]) (rest := [.ref (gx_ad L a0)]) C hM (kM_lt hk0 (by decide)) (cM_8 hk0) rfl (c_X8_first l L a0 hk0 (0 : Int32) (I1.1 (a0 + 1) (1 : Int32).toNatClampNeg) I1 _ h) k_X8_first gw_889 rfl hl.1 rfl (Nat.le_of_ble_eq_true rfl) ⟨⟨rfl, rfl⟩, Nat.le_of_ble_eq_true rfl, Nat.le_of_ble_eq_true rfl⟩ ⟨Nat.zero_le _, Nat.zero_le _⟩ dX8_next_25) (fun r1 I2 H locs h hM => ?_)
    refine lv_iconst (v := (0 : Int32)) hx hb dX8_next_28 (by decide) ?_
    refine gq_backi C hM (gq_runV (As := [.int r1, .int (0 : Int32)]) (rest := []) C hM (kM_lt hk0 (by decide)) (cM_8 hk0) rfl (c_X8_ofJob l L a0 hk0 r1 (0 : Int32) I2 _ h) k_X8_ofJob gw_877 rfl hl.1 rfl (Nat.le_of_ble_eq_true rfl) ⟨⟨rfl, rfl⟩, Nat.le_of_ble_eq_true rfl, Nat.le_of_ble_eq_true rfl⟩ ⟨Nat.zero_le _, Nat.zero_le _⟩ dX8_next_29) (fun r2 I3 H locs h hM => ?_)
    refine lv_istore_n (lv' := [(1, .int r2), (0, .ref (gx_ad L a0))]) hx hb dX8_next_32 rfl hl (by decide) rfl (fun ls hl => ?_)
    refine lv_aload_n hx hb dX8_next_33 rfl (lv_at hl 1 rfl) ?_
    refine gq_backi C hM (gq_runV (As := []) (rest := []) C hM (kM_lt hk0 (by decide)) (cM_8 hk0) rfl (c_X8_doNext l L a0 hk0 I3 _ h) k_X8_doNext gw_900 rfl hl.1 rfl (Nat.le_of_ble_eq_true rfl) ⟨⟨rfl, rfl⟩, Nat.le_of_ble_eq_true rfl, Nat.le_of_ble_eq_true rfl⟩ ⟨Nat.zero_le _, Nat.zero_le _⟩ dX8_next_34) (fun r3 I4 H locs h hM => ?_)
    obtain ⟨hz1, h⟩ := h
    refine lv_istore_n (lv' := [(2, .int r3), (1, .int r2), (0, .ref (gx_ad L a0))]) hx hb dX8_next_37 rfl hl (by decide) rfl (fun ls hl => ?_)
    refine lv_iload_n hx hb dX8_next_38 rfl (lv_at hl 1 rfl) ?_
    exact gq_iret C hM h dX8_next_39
  · replace h := h.1 hc
    refine gq_ldc (v := (-1000004 : Int32)) C gw_793 dX8_next_9 ?_
    exact gq_iret C hM h dX8_next_11
theorem k_X8_next : gx_kV yX8_next cX8_next 3 (some .int) 0 := ⟨⟨gw_888, gw_67, by decide, by decide, by decide +kernel⟩, gw_886, gw_887⟩
abbrev rm_X8_principal : Room := { frames := 7, cells := 0, slots := 0, locals := 171 }
set_option maxHeartbeats 4000000 in
set_option maxRecDepth 100000 in
theorem c_X8_principal (l : Launch) (L : gx_L) (a0 : Nat) (hk0 : kM a0 = 8) (p0 : Int32) (p1 : Int32) (I : gx_MM) (Q : Int32 → gx_MM → Prop) (h : wp_X8_principal a0 p0 p1 I Q) : Met l yX8_principal (gx_w yX8_principal cX8_principal 3 (some .int)) rm_X8_principal (va_Pc [.ref (gx_ad L a0), .int p0, .int p1] (gx_U L 7 (cellM L I))) (va_Qi Q (fun I' t => gx_U L 7 (cellM L I') t) (gx_A L)) 0 0 (gx_A L) := by
  refine gq_enter (by decide) (Nat.le_of_ble_eq_true rfl) (fun p e s m below meth c ls C hM hl => ?_)
  have C : gx_C L 7 p s m _ meth c RX8 cX8_principal 3 (some .int) := C
  have hl : lv_has ls 3 [(0, .ref (gx_ad L a0)), (1, .int p0), (2, .int p1)] := hl
  have hx := C.1
  have hb := C.2.1
  unfold wp_X8_principal at h
  refine lv_aload_n hx hb dX8_principal_0 rfl (lv_at hl 0 rfl) ?_
  refine lv_iload_n hx hb dX8_principal_1 rfl (lv_at hl 1 rfl) ?_
  refine gq_backi C hM (gq_runV (As := [.int p0]) (rest := []) C hM (kM_lt hk0 (by decide)) (cM_8 hk0) rfl (c_X8_noRosette l L a0 hk0 p0 I _ h) k_X8_noRosette gw_810 rfl hl.1 rfl (Nat.le_of_ble_eq_true rfl) ⟨⟨rfl, rfl⟩, Nat.le_of_ble_eq_true rfl, Nat.le_of_ble_eq_true rfl⟩ ⟨Nat.zero_le _, Nat.zero_le _⟩ dX8_principal_2) (fun r1 I1 H locs h hM => ?_)
  obtain ⟨hz1, h⟩ := h
  refine lv_if_eq (tgt := 11) hx hb dX8_principal_5 (by decide) (fun hc => ?_) (fun hc => ?_)
  · replace h := h.1 hc
    refine lv_aload_n hx hb dX8_principal_11 rfl (lv_at hl 0 rfl) ?_
    refine lv_iload_n hx hb dX8_principal_12 rfl (lv_at hl 1 rfl) ?_
    refine gq_backv C hM (gq_runV (As := [.int p0]) (rest := []) C hM (kM_lt hk0 (by decide)) (cM_8 hk0) rfl (c_X8_find l L a0 hk0 p0 I1 _ h) k_X8_find gw_928 rfl hl.1 rfl (Nat.le_of_ble_eq_true rfl) ⟨⟨rfl, rfl⟩, Nat.le_of_ble_eq_true rfl, Nat.le_of_ble_eq_true rfl⟩ ⟨Nat.zero_le _, Nat.zero_le _⟩ dX8_principal_13) (fun I2 H locs h hM => ?_)
    refine lv_iload_n hx hb dX8_principal_16 rfl (lv_at hl 2 rfl) ?_
    by_cases hs0 : p1 = (0 : Int32)
    · replace h := h.1 hs0
      refine lv_tableIn (tgt := 64) hx hb dX8_principal_17 (by rw [hs0]; decide) (by rw [hs0]; decide) (by rw [hs0]; rfl) (by decide) ?_
      refine lv_aload_n hx hb dX8_principal_64 rfl (lv_at hl 0 rfl) ?_
      refine gq_backl C hM (gq_runV (As := []) (rest := []) C hM (kM_lt hk0 (by decide)) (cM_8 hk0) rfl (c_X8_mean l L a0 hk0 I2 _ h) k_X8_mean gw_954 rfl hl.1 rfl (Nat.le_of_ble_eq_true rfl) ⟨⟨rfl, rfl⟩, Nat.le_of_ble_eq_true rfl, Nat.le_of_ble_eq_true rfl⟩ ⟨Nat.zero_le _, Nat.zero_le _⟩ dX8_principal_65) (fun r2 I3 H locs h hM => ?_)
      refine lv_aload_n hx hb dX8_principal_68 rfl (lv_at hl 0 rfl) ?_
      refine gq_backl C hM (gq_runV (As := []) (rest := [.long r2]) C hM (kM_lt hk0 (by decide)) (cM_8 hk0) rfl (c_X8_radius l L a0 hk0 I3 _ h) k_X8_radius gw_958 rfl hl.1 rfl (Nat.le_of_ble_eq_true rfl) ⟨⟨rfl, rfl⟩, Nat.le_of_ble_eq_true rfl, Nat.le_of_ble_eq_true rfl⟩ ⟨Nat.zero_le _, Nat.zero_le _⟩ dX8_principal_69) (fun r3 I4 H locs h hM => ?_)
      refine lv_ladd hx hb dX8_principal_72 ?_
      refine lv_l2i hx hb dX8_principal_73 rfl ?_
      exact gq_iret C hM h dX8_principal_74
    by_cases hs1 : p1 = (1 : Int32)
    · replace h := h.2.1 hs1
      refine lv_tableIn (tgt := 75) hx hb dX8_principal_17 (by rw [hs1]; decide) (by rw [hs1]; decide) (by rw [hs1]; rfl) (by decide) ?_
      refine lv_aload_n hx hb dX8_principal_75 rfl (lv_at hl 0 rfl) ?_
      refine gq_backl C hM (gq_runV (As := []) (rest := []) C hM (kM_lt hk0 (by decide)) (cM_8 hk0) rfl (c_X8_mean l L a0 hk0 I2 _ h) k_X8_mean gw_954 rfl hl.1 rfl (Nat.le_of_ble_eq_true rfl) ⟨⟨rfl, rfl⟩, Nat.le_of_ble_eq_true rfl, Nat.le_of_ble_eq_true rfl⟩ ⟨Nat.zero_le _, Nat.zero_le _⟩ dX8_principal_76) (fun r4 I5 H locs h hM => ?_)
      refine lv_aload_n hx hb dX8_principal_79 rfl (lv_at hl 0 rfl) ?_
      refine gq_backl C hM (gq_runV (As := []) (rest := [.long r4]) C hM (kM_lt hk0 (by decide)) (cM_8 hk0) rfl (c_X8_radius l L a0 hk0 I5 _ h) k_X8_radius gw_958 rfl hl.1 rfl (Nat.le_of_ble_eq_true rfl) ⟨⟨rfl, rfl⟩, Nat.le_of_ble_eq_true rfl, Nat.le_of_ble_eq_true rfl⟩ ⟨Nat.zero_le _, Nat.zero_le _⟩ dX8_principal_80) (fun r5 I6 H locs h hM => ?_)
      refine lv_lsub hx hb dX8_principal_83 ?_
      refine lv_l2i hx hb dX8_principal_84 rfl ?_
      exact gq_iret C hM h dX8_principal_85
    by_cases hs2 : p1 = (2 : Int32)
    · replace h := h.2.2.1 hs2
      refine lv_tableIn (tgt := 86) hx hb dX8_principal_17 (by rw [hs2]; decide) (by rw [hs2]; decide) (by rw [hs2]; rfl) (by decide) ?_
      refine lv_aload_n hx hb dX8_principal_86 rfl (lv_at hl 0 rfl) ?_
      refine gX8_9 C hM hk0 gw_728 dX8_principal_87 ?_
      exact gq_iret C hM h dX8_principal_90
    by_cases hs3 : p1 = (3 : Int32)
    · replace h := h.2.2.2.1 hs3
      refine lv_tableIn (tgt := 91) hx hb dX8_principal_17 (by rw [hs3]; decide) (by rw [hs3]; decide) (by rw [hs3]; rfl) (by decide) ?_
      refine lv_aload_n hx hb dX8_principal_91 rfl (lv_at hl 0 rfl) ?_
      refine gq_backl C hM (gq_runV (As := []) (rest := []) C hM (kM_lt hk0 (by decide)) (cM_8 hk0) rfl (c_X8_radius l L a0 hk0 I2 _ h) k_X8_radius gw_958 rfl hl.1 rfl (Nat.le_of_ble_eq_true rfl) ⟨⟨rfl, rfl⟩, Nat.le_of_ble_eq_true rfl, Nat.le_of_ble_eq_true rfl⟩ ⟨Nat.zero_le _, Nat.zero_le _⟩ dX8_principal_92) (fun r6 I7 H locs h hM => ?_)
      refine lv_l2i hx hb dX8_principal_95 rfl ?_
      exact gq_iret C hM h dX8_principal_96
    by_cases hs4 : p1 = (4 : Int32)
    · replace h := h.2.2.2.2.1 hs4
      refine lv_tableIn (tgt := 97) hx hb dX8_principal_17 (by rw [hs4]; decide) (by rw [hs4]; decide) (by rw [hs4]; rfl) (by decide) ?_
      refine lv_aload_n hx hb dX8_principal_97 rfl (lv_at hl 0 rfl) ?_
      refine gX8_6 C hM hk0 gw_725 dX8_principal_98 ?_
      refine lv_l2i hx hb dX8_principal_101 rfl ?_
      exact gq_iret C hM h dX8_principal_102
    by_cases hs5 : p1 = (5 : Int32)
    · replace h := h.2.2.2.2.2.1 hs5
      refine lv_tableIn (tgt := 103) hx hb dX8_principal_17 (by rw [hs5]; decide) (by rw [hs5]; decide) (by rw [hs5]; rfl) (by decide) ?_
      refine lv_aload_n hx hb dX8_principal_103 rfl (lv_at hl 0 rfl) ?_
      refine gX8_7 C hM hk0 gw_726 dX8_principal_104 ?_
      refine lv_l2i hx hb dX8_principal_107 rfl ?_
      exact gq_iret C hM h dX8_principal_108
    by_cases hs6 : p1 = (6 : Int32)
    · replace h := h.2.2.2.2.2.2.1 hs6
      refine lv_tableIn (tgt := 109) hx hb dX8_principal_17 (by rw [hs6]; decide) (by rw [hs6]; decide) (by rw [hs6]; rfl) (by decide) ?_
      refine lv_aload_n hx hb dX8_principal_109 rfl (lv_at hl 0 rfl) ?_
      refine gX8_8 C hM hk0 gw_727 dX8_principal_110 ?_
      refine lv_l2i hx hb dX8_principal_113 rfl ?_
      exact gq_iret C hM h dX8_principal_114
    by_cases hs7 : p1 = (7 : Int32)
    · replace h := h.2.2.2.2.2.2.2.1 hs7
      refine lv_tableIn (tgt := 115) hx hb dX8_principal_17 (by rw [hs7]; decide) (by rw [hs7]; decide) (by rw [hs7]; rfl) (by decide) ?_
      refine lv_aload_n hx hb dX8_principal_115 rfl (lv_at hl 0 rfl) ?_
      refine gq_backl C hM (gq_runV (As := []) (rest := []) C hM (kM_lt hk0 (by decide)) (cM_8 hk0) rfl (c_X8_mean l L a0 hk0 I2 _ h) k_X8_mean gw_954 rfl hl.1 rfl (Nat.le_of_ble_eq_true rfl) ⟨⟨rfl, rfl⟩, Nat.le_of_ble_eq_true rfl, Nat.le_of_ble_eq_true rfl⟩ ⟨Nat.zero_le _, Nat.zero_le _⟩ dX8_principal_116) (fun r7 I8 H locs h hM => ?_)
      refine lv_l2i hx hb dX8_principal_119 rfl ?_
      exact gq_iret C hM h dX8_principal_120
    replace h := h.2.2.2.2.2.2.2.2 hs0 hs1 hs2 hs3 hs4 hs5 hs6 hs7
    refine lv_tableOut (tgt := 121) hx hb dX8_principal_17 (by have q0 := lv_neT (a := 0) hs0 (by decide); have q1 := lv_neT (a := 1) hs1 (by decide); have q2 := lv_neT (a := 2) hs2 (by decide); have q3 := lv_neT (a := 3) hs3 (by decide); have q4 := lv_neT (a := 4) hs4 (by decide); have q5 := lv_neT (a := 5) hs5 (by decide); have q6 := lv_neT (a := 6) hs6 (by decide); have q7 := lv_neT (a := 7) hs7 (by decide); omega) (by decide) ?_
    refine gq_ldc (v := (-1000002 : Int32)) C gw_779 dX8_principal_121 ?_
    exact gq_iret C hM h dX8_principal_123
  · replace h := h.2 hc
    refine gq_ldc (v := (-1000001 : Int32)) C gw_814 dX8_principal_8 ?_
    exact gq_iret C hM h dX8_principal_10
theorem k_X8_principal : gx_kV yX8_principal cX8_principal 3 (some .int) 2 := ⟨⟨gw_1018, gw_67, by decide, by decide, by decide +kernel⟩, gw_1016, gw_1017⟩
abbrev rm_X8_pull : Room := { frames := 7, cells := 0, slots := 0, locals := 171 }
set_option maxHeartbeats 4000000 in
set_option maxRecDepth 100000 in
theorem c_X8_pull (l : Launch) (L : gx_L) (a0 : Nat) (hk0 : kM a0 = 8) (p0 : Int32) (p1 : Int32) (I : gx_MM) (Q : Int32 → gx_MM → Prop) (h : wp_X8_pull a0 p0 p1 I Q) : Met l yX8_pull (gx_w yX8_pull cX8_pull 3 (some .int)) rm_X8_pull (va_Pc [.ref (gx_ad L a0), .int p0, .int p1] (gx_U L 7 (cellM L I))) (va_Qi Q (fun I' t => gx_U L 7 (cellM L I') t) (gx_A L)) 0 0 (gx_A L) := by
  refine gq_enter (by decide) (Nat.le_of_ble_eq_true rfl) (fun p e s m below meth c ls C hM hl => ?_)
  have C : gx_C L 7 p s m _ meth c RX8 cX8_pull 3 (some .int) := C
  have hl : lv_has ls 3 [(0, .ref (gx_ad L a0)), (1, .int p0), (2, .int p1)] := hl
  have hx := C.1
  have hb := C.2.1
  unfold wp_X8_pull at h
  refine lv_aload_n hx hb dX8_pull_0 rfl (lv_at hl 0 rfl) ?_
  refine lv_iload_n hx hb dX8_pull_1 rfl (lv_at hl 1 rfl) ?_
  refine gq_backi C hM (gq_runV (As := [.int p0]) (rest := []) C hM (kM_lt hk0 (by decide)) (cM_8 hk0) rfl (c_X8_noRosette l L a0 hk0 p0 I _ h) k_X8_noRosette gw_810 rfl hl.1 rfl (Nat.le_of_ble_eq_true rfl) ⟨⟨rfl, rfl⟩, Nat.le_of_ble_eq_true rfl, Nat.le_of_ble_eq_true rfl⟩ ⟨Nat.zero_le _, Nat.zero_le _⟩ dX8_pull_2) (fun r1 I1 H locs h hM => ?_)
  obtain ⟨hz1, h⟩ := h
  refine lv_if_eq (tgt := 11) hx hb dX8_pull_5 (by decide) (fun hc => ?_) (fun hc => ?_)
  · replace h := h.1 hc
    refine lv_iload_n hx hb dX8_pull_11 rfl (lv_at hl 2 rfl) ?_
    refine lv_iconst (v := (0 : Int32)) hx hb dX8_pull_12 (by decide) ?_
    refine lv_bipush (v := (23 : Int32)) hx hb dX8_pull_13 (by decide) ?_
    refine gq_backi C hM (gq_runS (As := [.int p1, .int (0 : Int32), .int (23 : Int32)]) (rest := []) C hM (c_X8_in l L p1 (0 : Int32) (23 : Int32) I1 _ h) k_X8_in gw_776 rfl hl.1 rfl (Nat.le_of_ble_eq_true rfl) ⟨⟨rfl, rfl⟩, Nat.le_of_ble_eq_true rfl, Nat.le_of_ble_eq_true rfl⟩ ⟨Nat.zero_le _, Nat.zero_le _⟩ dX8_pull_15) (fun r2 I2 H locs h hM => ?_)
    obtain ⟨hz2, h⟩ := h
    refine lv_if_ne (tgt := 24) hx hb dX8_pull_18 (by decide) (fun hc => ?_) (fun hc => ?_)
    · replace h := h.2 hc
      refine lv_aload_n hx hb dX8_pull_24 rfl (lv_at hl 0 rfl) ?_
      refine lv_iload_n hx hb dX8_pull_25 rfl (lv_at hl 1 rfl) ?_
      refine gq_backv C hM (gq_runV (As := [.int p0]) (rest := []) C hM (kM_lt hk0 (by decide)) (cM_8 hk0) rfl (c_X8_find l L a0 hk0 p0 I2 _ h) k_X8_find gw_928 rfl hl.1 rfl (Nat.le_of_ble_eq_true rfl) ⟨⟨rfl, rfl⟩, Nat.le_of_ble_eq_true rfl, Nat.le_of_ble_eq_true rfl⟩ ⟨Nat.zero_le _, Nat.zero_le _⟩ dX8_pull_26) (fun I3 H locs h hM => ?_)
      refine lv_aload_n hx hb dX8_pull_29 rfl (lv_at hl 0 rfl) ?_
      refine lv_iload_n hx hb dX8_pull_30 rfl (lv_at hl 2 rfl) ?_
      refine gq_backl C hM (gq_runV (As := [.int p1]) (rest := []) C hM (kM_lt hk0 (by decide)) (cM_8 hk0) rfl (c_X8_pullOf l L a0 hk0 p1 I3 _ h) k_X8_pullOf gw_941 rfl hl.1 rfl (Nat.le_of_ble_eq_true rfl) ⟨⟨rfl, rfl⟩, Nat.le_of_ble_eq_true rfl, Nat.le_of_ble_eq_true rfl⟩ ⟨Nat.zero_le _, Nat.zero_le _⟩ dX8_pull_31) (fun r3 I4 H locs h hM => ?_)
      refine gq_ldc2 (v := (20000 : Int64)) C gw_962 dX8_pull_34 ?_
      refine lv_ldiv hx hb dX8_pull_37 (by decide) ?_
      refine lv_l2i hx hb dX8_pull_38 rfl ?_
      exact gq_iret C hM h dX8_pull_39
    · replace h := h.1 hc
      refine gq_ldc (v := (-1000002 : Int32)) C gw_779 dX8_pull_21 ?_
      exact gq_iret C hM h dX8_pull_23
  · replace h := h.2 hc
    refine gq_ldc (v := (-1000001 : Int32)) C gw_814 dX8_pull_8 ?_
    exact gq_iret C hM h dX8_pull_10
theorem k_X8_pull : gx_kV yX8_pull cX8_pull 3 (some .int) 2 := ⟨⟨gw_1022, gw_67, by decide, by decide, by decide +kernel⟩, gw_1020, gw_1021⟩
abbrev rm_X8_readsJob : Room := { frames := 2, cells := 0, slots := 0, locals := 43 }
set_option maxHeartbeats 4000000 in
set_option maxRecDepth 100000 in
theorem tj_X8_readsJob_198 (C : gx_C L 7 p s m args meth c RX8 cX8_readsJob 2 (some .boolean)) {Q : Int32 → gx_MM → Prop} : ∀  (I : gx_MM) (H : Heap) (locs : List Loc) (ls : Array Slot), gx_S L 7 (cellM L I) s.heap H locs → lv_has ls 2 [] → wj_X8_readsJob_198 Q  I → W p l e rm_X8_readsJob s m args below meth c H locs 0 0 (MQ below (va_Qi (fun r I' => r &&& 1 = r ∧ Q r I') (fun I' t => gx_U L 7 (cellM L I') t) (gx_A L)) args s 0 0 (gx_A L)) (F0 m 198 ls []) := by
  have hx := C.1
  have hb := C.2.1
  intro   I H locs ls hM hl h
  unfold wj_X8_readsJob_198 at h
  refine lv_iconst (v := (1 : Int32)) hx hb dX8_readsJob_198 (by decide) ?_
  refine lv_goto (tgt := 203) hx hb dX8_readsJob_199 (by decide) ?_
  exact gq_zret C hM ⟨rfl, h⟩ (rfl) dX8_readsJob_203
set_option maxHeartbeats 4000000 in
set_option maxRecDepth 100000 in
theorem tj_X8_readsJob_163 (C : gx_C L 7 p s m args meth c RX8 cX8_readsJob 2 (some .boolean)) {Q : Int32 → gx_MM → Prop} : ∀ (v0 : Nat) (hv0 : kM v0 = 8) (I : gx_MM) (H : Heap) (locs : List Loc) (ls : Array Slot), gx_S L 7 (cellM L I) s.heap H locs → lv_has ls 2 [(0, .ref (gx_ad L v0))] → wj_X8_readsJob_163 Q v0 I → W p l e rm_X8_readsJob s m args below meth c H locs 0 0 (MQ below (va_Qi (fun r I' => r &&& 1 = r ∧ Q r I') (fun I' t => gx_U L 7 (cellM L I') t) (gx_A L)) args s 0 0 (gx_A L)) (F0 m 163 ls []) := by
  have hx := C.1
  have hb := C.2.1
  intro v0 hv0 I H locs ls hM hl h
  unfold wj_X8_readsJob_163 at h
  refine lv_aload_n hx hb dX8_readsJob_163 rfl (lv_at hl 0 rfl) ?_
  refine lv_dup hx hb dX8_readsJob_164 rfl ?_
  refine gX8_15 C hM hv0 gw_734 dX8_readsJob_165 ?_
  refine lv_iconst (v := (1 : Int32)) hx hb dX8_readsJob_168 (by decide) ?_
  refine lv_iadd hx hb dX8_readsJob_169 ?_
  obtain ⟨I1, eI1⟩ : ∃ z : gx_MM, z = um I v0 15 ((I.1 v0 15) + (1 : Int32)) := ⟨_, rfl⟩
  replace h := h I1 eI1
  refine pX8_15 C hM hv0 eI1 gw_734 dX8_readsJob_170 (fun H locs hM => ?_)
  refine lv_aload_n hx hb dX8_readsJob_173 rfl (lv_at hl 0 rfl) ?_
  refine gX8_14 C hM hv0 gw_733 dX8_readsJob_174 ?_
  refine lv_aload_n hx hb dX8_readsJob_177 rfl (lv_at hl 0 rfl) ?_
  refine gX8_12 C hM hv0 gw_731 dX8_readsJob_178 ?_
  refine lv_icmp_eq (tgt := 198) hx hb dX8_readsJob_181 (by decide) (fun hc => ?_) (fun hc => ?_)
  · replace h := h.1 hc
    exact tj_X8_readsJob_198 C  I1 _ _ _ hM (lv_sub hl [] rfl) h
  · replace h := h.2 hc
    refine lv_aload_n hx hb dX8_readsJob_184 rfl (lv_at hl 0 rfl) ?_
    refine gX8_13 C hM hv0 gw_732 dX8_readsJob_185 ?_
    refine lv_aload_n hx hb dX8_readsJob_188 rfl (lv_at hl 0 rfl) ?_
    refine gX8_14 C hM hv0 gw_733 dX8_readsJob_189 ?_
    refine gcaldM C hM (kM_8_13 hv0) h.1 dX8_readsJob_192 ?_
    replace h := h.2
    refine lv_bipush (v := (44 : Int32)) hx hb dX8_readsJob_193 (by decide) ?_
    refine lv_icmp_ne (tgt := 202) hx hb dX8_readsJob_195 (by decide) (fun hc => ?_) (fun hc => ?_)
    · replace h := h.2 hc
      refine lv_iconst (v := (0 : Int32)) hx hb dX8_readsJob_202 (by decide) ?_
      exact gq_zret C hM ⟨rfl, h⟩ (rfl) dX8_readsJob_203
    · replace h := h.1 hc
      exact tj_X8_readsJob_198 C  I1 _ _ _ hM (lv_sub hl [] rfl) h
set_option maxHeartbeats 4000000 in
set_option maxRecDepth 100000 in
theorem tj_X8_readsJob_53 (C : gx_C L 7 p s m args meth c RX8 cX8_readsJob 2 (some .boolean)) {Q : Int32 → gx_MM → Prop} : ∀ (v0 : Nat) (v1 : Int32) (u0 : Int32) (u1 : Int32) (u2 : Nat) (hv0 : kM v0 = 8) (hu2 : kM u2 = 20) (I : gx_MM) (H : Heap) (locs : List Loc) (ls : Array Slot), gx_S L 7 (cellM L I) s.heap H locs → lv_has ls 2 [(0, .ref (gx_ad L v0)), (1, .int v1)] → wj_X8_readsJob_53 Q v0 v1 u0 u1 u2 I → W p l e rm_X8_readsJob s m args below meth c H locs 0 0 (MQ below (va_Qi (fun r I' => r &&& 1 = r ∧ Q r I') (fun I' t => gx_U L 7 (cellM L I') t) (gx_A L)) args s 0 0 (gx_A L)) (F0 m 53 ls [.int u0, .int u1, .ref (gx_ad L u2)]) := by
  have hx := C.1
  have hb := C.2.1
  intro v0 v1 u0 u1 u2 hv0 hu2 I H locs ls hM hl h
  unfold wj_X8_readsJob_53 at h
  have hi := h.1
  replace h := h.2
  obtain ⟨I1, eI1⟩ : ∃ z : gx_MM, z = um I u2 u1.toNatClampNeg u0 := ⟨_, rfl⟩
  replace h := h I1 eI1
  refine giastM C hM hu2 hi eI1 dX8_readsJob_53 (fun H locs hM => ?_)
  refine lv_aload_n hx hb dX8_readsJob_54 rfl (lv_at hl 0 rfl) ?_
  refine gX8_16 C hM hv0 gw_735 dX8_readsJob_55 ?_
  refine lv_iload_n hx hb dX8_readsJob_58 rfl (lv_at hl 1 rfl) ?_
  refine gialdM C hM (kM_8_16 hv0) h.1 dX8_readsJob_59 ?_
  replace h := h.2
  refine gq_ldc (v := (-1000004 : Int32)) C gw_793 dX8_readsJob_60 ?_
  refine lv_icmp_ne (tgt := 67) hx hb dX8_readsJob_62 (by decide) (fun hc => ?_) (fun hc => ?_)
  · replace h := h.2 hc
    refine lv_aload_n hx hb dX8_readsJob_67 rfl (lv_at hl 0 rfl) ?_
    refine lv_dup hx hb dX8_readsJob_68 rfl ?_
    refine gX8_14 C hM hv0 gw_733 dX8_readsJob_69 ?_
    refine lv_iconst (v := (1 : Int32)) hx hb dX8_readsJob_72 (by decide) ?_
    refine lv_iadd hx hb dX8_readsJob_73 ?_
    obtain ⟨I2, eI2⟩ : ∃ z : gx_MM, z = um I1 v0 14 ((I1.1 v0 14) + (1 : Int32)) := ⟨_, rfl⟩
    replace h := h I2 eI2
    refine pX8_14 C hM hv0 eI2 gw_733 dX8_readsJob_74 (fun H locs hM => ?_)
    refine lv_aload_n hx hb dX8_readsJob_77 rfl (lv_at hl 0 rfl) ?_
    refine gX8_16 C hM hv0 gw_735 dX8_readsJob_78 ?_
    refine lv_iload_n hx hb dX8_readsJob_81 rfl (lv_at hl 1 rfl) ?_
    refine lv_iconst (v := (1 : Int32)) hx hb dX8_readsJob_82 (by decide) ?_
    refine lv_iadd hx hb dX8_readsJob_83 ?_
    refine lv_aload_n hx hb dX8_readsJob_84 rfl (lv_at hl 0 rfl) ?_
    refine lv_bipush (v := (7 : Int32)) hx hb dX8_readsJob_85 (by decide) ?_
    refine gq_backi C hM (gq_runV (As := [.int (7 : Int32)]) (rest := [.int (v1 + (1 : Int32)), .ref (gx_ad L (v0 + 6))]) C hM (kM_lt hv0 (by decide)) (cM_8 hv0) rfl (c_X8_digit l L v0 hv0 (7 : Int32) I2 _ h) k_X8_digit gw_991 rfl hl.1 rfl (Nat.le_of_ble_eq_true rfl) ⟨⟨rfl, rfl⟩, Nat.le_of_ble_eq_true rfl, Nat.le_of_ble_eq_true rfl⟩ ⟨Nat.zero_le _, Nat.zero_le _⟩ dX8_readsJob_87) (fun r1 I3 H locs h hM => ?_)
    have hi := h.1
    replace h := h.2
    obtain ⟨I4, eI4⟩ : ∃ z : gx_MM, z = um I3 (v0 + 6) (v1 + (1 : Int32)).toNatClampNeg r1 := ⟨_, rfl⟩
    replace h := h I4 eI4
    refine giastM C hM (kM_8_16 hv0) hi eI4 dX8_readsJob_90 (fun H locs hM => ?_)
    refine lv_aload_n hx hb dX8_readsJob_91 rfl (lv_at hl 0 rfl) ?_
    refine gX8_16 C hM hv0 gw_735 dX8_readsJob_92 ?_
    refine lv_iload_n hx hb dX8_readsJob_95 rfl (lv_at hl 1 rfl) ?_
    refine lv_iconst (v := (1 : Int32)) hx hb dX8_readsJob_96 (by decide) ?_
    refine lv_iadd hx hb dX8_readsJob_97 ?_
    refine gialdM C hM (kM_8_16 hv0) h.1 dX8_readsJob_98 ?_
    replace h := h.2
    refine gq_ldc (v := (-1000004 : Int32)) C gw_793 dX8_readsJob_99 ?_
    refine lv_icmp_ne (tgt := 106) hx hb dX8_readsJob_101 (by decide) (fun hc => ?_) (fun hc => ?_)
    · replace h := h.2 hc
      refine lv_aload_n hx hb dX8_readsJob_106 rfl (lv_at hl 0 rfl) ?_
      refine gX8_16 C hM hv0 gw_735 dX8_readsJob_107 ?_
      refine lv_iload_n hx hb dX8_readsJob_110 rfl (lv_at hl 1 rfl) ?_
      refine lv_iconst (v := (2 : Int32)) hx hb dX8_readsJob_111 (by decide) ?_
      refine lv_iadd hx hb dX8_readsJob_112 ?_
      refine lv_iconst (v := (5 : Int32)) hx hb dX8_readsJob_113 (by decide) ?_
      have hi := h.1
      replace h := h.2
      obtain ⟨I5, eI5⟩ : ∃ z : gx_MM, z = um I4 (v0 + 6) (v1 + (2 : Int32)).toNatClampNeg (5 : Int32) := ⟨_, rfl⟩
      replace h := h I5 eI5
      refine giastM C hM (kM_8_16 hv0) hi eI5 dX8_readsJob_114 (fun H locs hM => ?_)
      refine lv_aload_n hx hb dX8_readsJob_115 rfl (lv_at hl 0 rfl) ?_
      refine lv_bipush (v := (33 : Int32)) hx hb dX8_readsJob_116 (by decide) ?_
      refine gq_backi C hM (gq_runV (As := [.int (33 : Int32)]) (rest := []) C hM (kM_lt hv0 (by decide)) (cM_8 hv0) rfl (c_X8_isSign l L v0 hv0 (33 : Int32) I5 _ h) k_X8_isSign gw_987 rfl hl.1 rfl (Nat.le_of_ble_eq_true rfl) ⟨⟨rfl, rfl⟩, Nat.le_of_ble_eq_true rfl, Nat.le_of_ble_eq_true rfl⟩ ⟨Nat.zero_le _, Nat.zero_le _⟩ dX8_readsJob_118) (fun r2 I6 H locs h hM => ?_)
      obtain ⟨hz1, h⟩ := h
      refine lv_if_eq (tgt := 163) hx hb dX8_readsJob_121 (by decide) (fun hc => ?_) (fun hc => ?_)
      · replace h := h.1 hc
        exact tj_X8_readsJob_163 C v0 (hv0) I6 _ _ _ hM (lv_sub hl [0] rfl) h
      · replace h := h.2 hc
        refine lv_aload_n hx hb dX8_readsJob_124 rfl (lv_at hl 0 rfl) ?_
        refine lv_dup hx hb dX8_readsJob_125 rfl ?_
        refine gX8_14 C hM hv0 gw_733 dX8_readsJob_126 ?_
        refine lv_iconst (v := (1 : Int32)) hx hb dX8_readsJob_129 (by decide) ?_
        refine lv_iadd hx hb dX8_readsJob_130 ?_
        obtain ⟨I7, eI7⟩ : ∃ z : gx_MM, z = um I6 v0 14 ((I6.1 v0 14) + (1 : Int32)) := ⟨_, rfl⟩
        replace h := h I7 eI7
        refine pX8_14 C hM hv0 eI7 gw_733 dX8_readsJob_131 (fun H locs hM => ?_)
        refine lv_aload_n hx hb dX8_readsJob_134 rfl (lv_at hl 0 rfl) ?_
        refine gX8_16 C hM hv0 gw_735 dX8_readsJob_135 ?_
        refine lv_iload_n hx hb dX8_readsJob_138 rfl (lv_at hl 1 rfl) ?_
        refine lv_iconst (v := (2 : Int32)) hx hb dX8_readsJob_139 (by decide) ?_
        refine lv_iadd hx hb dX8_readsJob_140 ?_
        refine lv_aload_n hx hb dX8_readsJob_141 rfl (lv_at hl 0 rfl) ?_
        refine lv_bipush (v := (9 : Int32)) hx hb dX8_readsJob_142 (by decide) ?_
        refine gq_backi C hM (gq_runV (As := [.int (9 : Int32)]) (rest := [.int (v1 + (2 : Int32)), .ref (gx_ad L (v0 + 6))]) C hM (kM_lt hv0 (by decide)) (cM_8 hv0) rfl (c_X8_digit l L v0 hv0 (9 : Int32) I7 _ h) k_X8_digit gw_991 rfl hl.1 rfl (Nat.le_of_ble_eq_true rfl) ⟨⟨rfl, rfl⟩, Nat.le_of_ble_eq_true rfl, Nat.le_of_ble_eq_true rfl⟩ ⟨Nat.zero_le _, Nat.zero_le _⟩ dX8_readsJob_144) (fun r3 I8 H locs h hM => ?_)
        have hi := h.1
        replace h := h.2
        obtain ⟨I9, eI9⟩ : ∃ z : gx_MM, z = um I8 (v0 + 6) (v1 + (2 : Int32)).toNatClampNeg r3 := ⟨_, rfl⟩
        replace h := h I9 eI9
        refine giastM C hM (kM_8_16 hv0) hi eI9 dX8_readsJob_147 (fun H locs hM => ?_)
        refine lv_aload_n hx hb dX8_readsJob_148 rfl (lv_at hl 0 rfl) ?_
        refine gX8_16 C hM hv0 gw_735 dX8_readsJob_149 ?_
        refine lv_iload_n hx hb dX8_readsJob_152 rfl (lv_at hl 1 rfl) ?_
        refine lv_iconst (v := (2 : Int32)) hx hb dX8_readsJob_153 (by decide) ?_
        refine lv_iadd hx hb dX8_readsJob_154 ?_
        refine gialdM C hM (kM_8_16 hv0) h.1 dX8_readsJob_155 ?_
        replace h := h.2
        refine gq_ldc (v := (-1000004 : Int32)) C gw_793 dX8_readsJob_156 ?_
        refine lv_icmp_ne (tgt := 163) hx hb dX8_readsJob_158 (by decide) (fun hc => ?_) (fun hc => ?_)
        · replace h := h.2 hc
          exact tj_X8_readsJob_163 C v0 (hv0) I9 _ _ _ hM (lv_sub hl [0] rfl) h
        · replace h := h.1 hc
          refine lv_iconst (v := (0 : Int32)) hx hb dX8_readsJob_161 (by decide) ?_
          exact gq_zret C hM ⟨rfl, h⟩ (rfl) dX8_readsJob_162
    · replace h := h.1 hc
      refine lv_iconst (v := (0 : Int32)) hx hb dX8_readsJob_104 (by decide) ?_
      exact gq_zret C hM ⟨rfl, h⟩ (rfl) dX8_readsJob_105
  · replace h := h.1 hc
    refine lv_iconst (v := (0 : Int32)) hx hb dX8_readsJob_65 (by decide) ?_
    exact gq_zret C hM ⟨rfl, h⟩ (rfl) dX8_readsJob_66
set_option maxHeartbeats 4000000 in
set_option maxRecDepth 100000 in
theorem c_X8_readsJob (l : Launch) (L : gx_L) (a0 : Nat) (hk0 : kM a0 = 8) (I : gx_MM) (Q : Int32 → gx_MM → Prop) (h : wp_X8_readsJob a0 I Q) : Met l yX8_readsJob (gx_w yX8_readsJob cX8_readsJob 2 (some .boolean)) rm_X8_readsJob (va_Pc [.ref (gx_ad L a0)] (gx_U L 7 (cellM L I))) (va_Qi (fun r I' => r &&& 1 = r ∧ Q r I') (fun I' t => gx_U L 7 (cellM L I') t) (gx_A L)) 0 0 (gx_A L) := by
  refine gq_enter (by decide) (Nat.le_of_ble_eq_true rfl) (fun p e s m below meth c ls C hM hl => ?_)
  have C : gx_C L 7 p s m _ meth c RX8 cX8_readsJob 2 (some .boolean) := C
  have hl : lv_has ls 2 [(0, .ref (gx_ad L a0))] := hl
  have hx := C.1
  have hb := C.2.1
  unfold wp_X8_readsJob at h
  refine lv_iconst (v := (3 : Int32)) hx hb dX8_readsJob_0 (by decide) ?_
  refine lv_aload_n hx hb dX8_readsJob_1 rfl (lv_at hl 0 rfl) ?_
  refine gX8_15 C hM hk0 gw_734 dX8_readsJob_2 ?_
  refine lv_imul hx hb dX8_readsJob_5 ?_
  refine lv_topi (fun x1 ex1 => ?_)
  replace h := h x1 ex1
  refine lv_istore_n (lv' := [(1, .int x1), (0, .ref (gx_ad L a0))]) hx hb dX8_readsJob_6 rfl hl (by decide) rfl (fun ls hl => ?_)
  refine lv_aload_n hx hb dX8_readsJob_7 rfl (lv_at hl 1 rfl) ?_
  refine gX8_16 C hM hk0 gw_735 dX8_readsJob_8 ?_
  refine lv_iload_n hx hb dX8_readsJob_11 rfl (lv_at hl 0 rfl) ?_
  refine lv_aload_n hx hb dX8_readsJob_12 rfl (lv_at hl 1 rfl) ?_
  refine lv_bipush (v := (114 : Int32)) hx hb dX8_readsJob_13 (by decide) ?_
  refine gq_backi C hM (gq_runV (As := [.int (114 : Int32)]) (rest := [.int x1, .ref (gx_ad L (a0 + 6))]) C hM (kM_lt hk0 (by decide)) (cM_8 hk0) rfl (c_X8_isSign l L a0 hk0 (114 : Int32) I _ h) k_X8_isSign gw_987 rfl hl.1 rfl (Nat.le_of_ble_eq_true rfl) ⟨⟨rfl, rfl⟩, Nat.le_of_ble_eq_true rfl, Nat.le_of_ble_eq_true rfl⟩ ⟨Nat.zero_le _, Nat.zero_le _⟩ dX8_readsJob_15) (fun r1 I1 H locs h hM => ?_)
  obtain ⟨hz1, h⟩ := h
  refine lv_if_eq (tgt := 25) hx hb dX8_readsJob_18 (by decide) (fun hc => ?_) (fun hc => ?_)
  · replace h := h.1 hc
    refine lv_aload_n hx hb dX8_readsJob_25 rfl (lv_at hl 1 rfl) ?_
    refine lv_bipush (v := (98 : Int32)) hx hb dX8_readsJob_26 (by decide) ?_
    refine gq_backi C hM (gq_runV (As := [.int (98 : Int32)]) (rest := [.int x1, .ref (gx_ad L (a0 + 6))]) C hM (kM_lt hk0 (by decide)) (cM_8 hk0) rfl (c_X8_isSign l L a0 hk0 (98 : Int32) I1 _ h) k_X8_isSign gw_987 rfl hl.1 rfl (Nat.le_of_ble_eq_true rfl) ⟨⟨rfl, rfl⟩, Nat.le_of_ble_eq_true rfl, Nat.le_of_ble_eq_true rfl⟩ ⟨Nat.zero_le _, Nat.zero_le _⟩ dX8_readsJob_28) (fun r2 I2 H locs h hM => ?_)
    obtain ⟨hz2, h⟩ := h
    refine lv_if_eq (tgt := 38) hx hb dX8_readsJob_31 (by decide) (fun hc => ?_) (fun hc => ?_)
    · replace h := h.1 hc
      refine lv_aload_n hx hb dX8_readsJob_38 rfl (lv_at hl 1 rfl) ?_
      refine lv_bipush (v := (115 : Int32)) hx hb dX8_readsJob_39 (by decide) ?_
      refine gq_backi C hM (gq_runV (As := [.int (115 : Int32)]) (rest := [.int x1, .ref (gx_ad L (a0 + 6))]) C hM (kM_lt hk0 (by decide)) (cM_8 hk0) rfl (c_X8_isSign l L a0 hk0 (115 : Int32) I2 _ h) k_X8_isSign gw_987 rfl hl.1 rfl (Nat.le_of_ble_eq_true rfl) ⟨⟨rfl, rfl⟩, Nat.le_of_ble_eq_true rfl, Nat.le_of_ble_eq_true rfl⟩ ⟨Nat.zero_le _, Nat.zero_le _⟩ dX8_readsJob_41) (fun r3 I3 H locs h hM => ?_)
      obtain ⟨hz3, h⟩ := h
      refine lv_if_eq (tgt := 51) hx hb dX8_readsJob_44 (by decide) (fun hc => ?_) (fun hc => ?_)
      · replace h := h.1 hc
        refine gq_ldc (v := (-1000004 : Int32)) C gw_793 dX8_readsJob_51 ?_
        exact tj_X8_readsJob_53 C a0 x1 (-1000004 : Int32) x1 (a0 + 6) (hk0) (kM_8_16 hk0) I3 _ _ _ hM (lv_sub hl [1, 0] rfl) h
      · replace h := h.2 hc
        refine lv_iconst (v := (2 : Int32)) hx hb dX8_readsJob_47 (by decide) ?_
        refine lv_goto (tgt := 53) hx hb dX8_readsJob_48 (by decide) ?_
        exact tj_X8_readsJob_53 C a0 x1 (2 : Int32) x1 (a0 + 6) (hk0) (kM_8_16 hk0) I3 _ _ _ hM (lv_sub hl [1, 0] rfl) h
    · replace h := h.2 hc
      refine lv_iconst (v := (1 : Int32)) hx hb dX8_readsJob_34 (by decide) ?_
      refine lv_goto (tgt := 53) hx hb dX8_readsJob_35 (by decide) ?_
      exact tj_X8_readsJob_53 C a0 x1 (1 : Int32) x1 (a0 + 6) (hk0) (kM_8_16 hk0) I2 _ _ _ hM (lv_sub hl [1, 0] rfl) h
  · replace h := h.2 hc
    refine lv_iconst (v := (0 : Int32)) hx hb dX8_readsJob_21 (by decide) ?_
    refine lv_goto (tgt := 53) hx hb dX8_readsJob_22 (by decide) ?_
    exact tj_X8_readsJob_53 C a0 x1 (0 : Int32) x1 (a0 + 6) (hk0) (kM_8_16 hk0) I1 _ _ _ hM (lv_sub hl [1, 0] rfl) h
theorem k_X8_readsJob : gx_kV yX8_readsJob cX8_readsJob 2 (some .boolean) 0 := ⟨⟨gw_986, gw_67, by decide, by decide, by decide +kernel⟩, gw_985, gw_54⟩
end
