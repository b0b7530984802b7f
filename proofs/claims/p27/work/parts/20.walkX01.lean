section
variable {p : Program} {l : Launch} {e : Env} {s : State} {m : MethodId} {args : Array Value} {below : List Frame} {meth : Method} {c : Code} {L : gx_L}
abbrev rm_X7_count : Room := { frames := 0, cells := 0, slots := 0, locals := 0 }
set_option maxHeartbeats 4000000 in
set_option maxRecDepth 100000 in
theorem c_X7_count (l : Launch) (L : gx_L) (a0 : Nat) (hk0 : kX a0 = 7) (p0 : Int32) (I : gx_M) (Q : Int32 → gx_M → Prop) (h : wp_X7_count a0 p0 I Q) : Met l yX7_count (gx_w yX7_count cX7_count 2 (some .int)) rm_X7_count (va_Pc [.ref (gx_ad L a0), .int p0] (gx_U L 282 (cellX L I))) (va_Qi Q (fun I' t => gx_U L 282 (cellX L I') t) (gx_A L)) 0 0 (gx_A L) := by
  refine gq_enter (by decide) (Nat.le_of_ble_eq_true rfl) (fun p e s m below meth c ls C hM hl => ?_)
  have C : gx_C L 282 p s m _ meth c RX7 cX7_count 2 (some .int) := C
  have hl : lv_has ls 2 [(0, .ref (gx_ad L a0)), (1, .int p0)] := hl
  have hx := C.1
  have hb := C.2.1
  unfold wp_X7_count at h
  refine lv_iload_n hx hb dX7_count_0 rfl (lv_at hl 1 rfl) ?_
  by_cases hs0 : p0 = (0 : Int32)
  · replace h := h.1 hs0
    refine lv_tableIn (tgt := 64) hx hb dX7_count_1 (by rw [hs0]; decide) (by rw [hs0]; decide) (by rw [hs0]; rfl) (by decide) ?_
    refine lv_aload_n hx hb dX7_count_64 rfl (lv_at hl 0 rfl) ?_
    refine gX7_0 C hM hk0 gw_306 dX7_count_65 ?_
    refine gX6_3 C hM (kX_7_0 hk0) gw_143 dX7_count_68 ?_
    exact gq_iret C hM h dX7_count_71
  by_cases hs1 : p0 = (1 : Int32)
  · replace h := h.2.1 hs1
    refine lv_tableIn (tgt := 72) hx hb dX7_count_1 (by rw [hs1]; decide) (by rw [hs1]; decide) (by rw [hs1]; rfl) (by decide) ?_
    refine lv_aload_n hx hb dX7_count_72 rfl (lv_at hl 0 rfl) ?_
    refine gX7_0 C hM hk0 gw_306 dX7_count_73 ?_
    refine gX6_1 C hM (kX_7_0 hk0) gw_139 dX7_count_76 ?_
    refine gX5_1 C hM (kX_6_1 (kX_7_0 hk0)) gw_62 dX7_count_79 ?_
    exact gq_iret C hM h dX7_count_82
  by_cases hs2 : p0 = (2 : Int32)
  · replace h := h.2.2.1 hs2
    refine lv_tableIn (tgt := 83) hx hb dX7_count_1 (by rw [hs2]; decide) (by rw [hs2]; decide) (by rw [hs2]; rfl) (by decide) ?_
    refine lv_aload_n hx hb dX7_count_83 rfl (lv_at hl 0 rfl) ?_
    refine gX7_0 C hM hk0 gw_306 dX7_count_84 ?_
    refine gX6_7 C hM (kX_7_0 hk0) gw_152 dX7_count_87 ?_
    exact gq_iret C hM h dX7_count_90
  by_cases hs3 : p0 = (3 : Int32)
  · replace h := h.2.2.2.1 hs3
    refine lv_tableIn (tgt := 91) hx hb dX7_count_1 (by rw [hs3]; decide) (by rw [hs3]; decide) (by rw [hs3]; rfl) (by decide) ?_
    refine lv_aload_n hx hb dX7_count_91 rfl (lv_at hl 0 rfl) ?_
    refine gX7_0 C hM hk0 gw_306 dX7_count_92 ?_
    refine gX6_8 C hM (kX_7_0 hk0) gw_154 dX7_count_95 ?_
    exact gq_iret C hM h dX7_count_98
  by_cases hs4 : p0 = (4 : Int32)
  · replace h := h.2.2.2.2.1 hs4
    refine lv_tableIn (tgt := 99) hx hb dX7_count_1 (by rw [hs4]; decide) (by rw [hs4]; decide) (by rw [hs4]; rfl) (by decide) ?_
    refine lv_aload_n hx hb dX7_count_99 rfl (lv_at hl 0 rfl) ?_
    refine gX7_0 C hM hk0 gw_306 dX7_count_100 ?_
    refine gX6_9 C hM (kX_7_0 hk0) gw_156 dX7_count_103 ?_
    exact gq_iret C hM h dX7_count_106
  by_cases hs5 : p0 = (5 : Int32)
  · replace h := h.2.2.2.2.2.1 hs5
    refine lv_tableIn (tgt := 107) hx hb dX7_count_1 (by rw [hs5]; decide) (by rw [hs5]; decide) (by rw [hs5]; rfl) (by decide) ?_
    refine lv_aload_n hx hb dX7_count_107 rfl (lv_at hl 0 rfl) ?_
    refine gX7_0 C hM hk0 gw_306 dX7_count_108 ?_
    refine gX6_5 C hM (kX_7_0 hk0) gw_148 dX7_count_111 ?_
    exact gq_iret C hM h dX7_count_114
  by_cases hs6 : p0 = (6 : Int32)
  · replace h := h.2.2.2.2.2.2.1 hs6
    refine lv_tableIn (tgt := 115) hx hb dX7_count_1 (by rw [hs6]; decide) (by rw [hs6]; decide) (by rw [hs6]; rfl) (by decide) ?_
    refine lv_aload_n hx hb dX7_count_115 rfl (lv_at hl 0 rfl) ?_
    refine gX7_0 C hM hk0 gw_306 dX7_count_116 ?_
    refine gX6_6 C hM (kX_7_0 hk0) gw_150 dX7_count_119 ?_
    exact gq_iret C hM h dX7_count_122
  by_cases hs7 : p0 = (7 : Int32)
  · replace h := h.2.2.2.2.2.2.2.1 hs7
    refine lv_tableIn (tgt := 123) hx hb dX7_count_1 (by rw [hs7]; decide) (by rw [hs7]; decide) (by rw [hs7]; rfl) (by decide) ?_
    refine lv_aload_n hx hb dX7_count_123 rfl (lv_at hl 0 rfl) ?_
    refine gX7_0 C hM hk0 gw_306 dX7_count_124 ?_
    refine gX6_4 C hM (kX_7_0 hk0) gw_145 dX7_count_127 ?_
    exact gq_iret C hM h dX7_count_130
  by_cases hs8 : p0 = (8 : Int32)
  · replace h := h.2.2.2.2.2.2.2.2.1 hs8
    refine lv_tableIn (tgt := 131) hx hb dX7_count_1 (by rw [hs8]; decide) (by rw [hs8]; decide) (by rw [hs8]; rfl) (by decide) ?_
    refine lv_aload_n hx hb dX7_count_131 rfl (lv_at hl 0 rfl) ?_
    refine gX7_0 C hM hk0 gw_306 dX7_count_132 ?_
    refine gX6_2 C hM (kX_7_0 hk0) gw_141 dX7_count_135 ?_
    refine gX5_1 C hM (kX_6_2 (kX_7_0 hk0)) gw_62 dX7_count_138 ?_
    exact gq_iret C hM h dX7_count_141
  by_cases hs9 : p0 = (9 : Int32)
  · replace h := h.2.2.2.2.2.2.2.2.2.1 hs9
    refine lv_tableIn (tgt := 142) hx hb dX7_count_1 (by rw [hs9]; decide) (by rw [hs9]; decide) (by rw [hs9]; rfl) (by decide) ?_
    refine lv_aload_n hx hb dX7_count_142 rfl (lv_at hl 0 rfl) ?_
    refine gX7_5 C hM hk0 gw_311 dX7_count_143 ?_
    exact gq_iret C hM h dX7_count_146
  by_cases hs10 : p0 = (10 : Int32)
  · replace h := h.2.2.2.2.2.2.2.2.2.2.1 hs10
    refine lv_tableIn (tgt := 147) hx hb dX7_count_1 (by rw [hs10]; decide) (by rw [hs10]; decide) (by rw [hs10]; rfl) (by decide) ?_
    refine lv_aload_n hx hb dX7_count_147 rfl (lv_at hl 0 rfl) ?_
    refine gX7_3 C hM hk0 gw_309 dX7_count_148 ?_
    refine gX0_1 C hM (kX_7_3 hk0) gw_189 dX7_count_151 ?_
    exact gq_iret C hM h dX7_count_154
  by_cases hs11 : p0 = (11 : Int32)
  · replace h := h.2.2.2.2.2.2.2.2.2.2.2.1 hs11
    refine lv_tableIn (tgt := 155) hx hb dX7_count_1 (by rw [hs11]; decide) (by rw [hs11]; decide) (by rw [hs11]; rfl) (by decide) ?_
    refine lv_aload_n hx hb dX7_count_155 rfl (lv_at hl 0 rfl) ?_
    refine gX7_4 C hM hk0 gw_310 dX7_count_156 ?_
    refine gX1_2 C hM (kX_7_4 hk0) gw_207 dX7_count_159 ?_
    exact gq_iret C hM h dX7_count_162
  replace h := h.2.2.2.2.2.2.2.2.2.2.2.2 hs0 hs1 hs2 hs3 hs4 hs5 hs6 hs7 hs8 hs9 hs10 hs11
  refine lv_tableOut (tgt := 163) hx hb dX7_count_1 (by have q0 := lv_neT (a := 0) hs0 (by decide); have q1 := lv_neT (a := 1) hs1 (by decide); have q2 := lv_neT (a := 2) hs2 (by decide); have q3 := lv_neT (a := 3) hs3 (by decide); have q4 := lv_neT (a := 4) hs4 (by decide); have q5 := lv_neT (a := 5) hs5 (by decide); have q6 := lv_neT (a := 6) hs6 (by decide); have q7 := lv_neT (a := 7) hs7 (by decide); have q8 := lv_neT (a := 8) hs8 (by decide); have q9 := lv_neT (a := 9) hs9 (by decide); have q10 := lv_neT (a := 10) hs10 (by decide); have q11 := lv_neT (a := 11) hs11 (by decide); omega) (by decide) ?_
  refine gq_ldc (v := (-1000002 : Int32)) C gw_338 dX7_count_163 ?_
  exact gq_iret C hM h dX7_count_165
theorem k_X7_count : gx_kV yX7_count cX7_count 2 (some .int) 1 := ⟨⟨gw_604, gw_22, by decide, by decide, by decide +kernel⟩, gw_602, gw_603⟩
abbrev rm_X0_dropOldest : Room := { frames := 0, cells := 0, slots := 0, locals := 0 }
set_option maxHeartbeats 4000000 in
set_option maxRecDepth 100000 in
theorem tl_X0_dropOldest_9 (C : gx_C L 282 p s m args meth c RX0 cX0_dropOldest 3 none) {Q : gx_M → Prop} : ∀ (fu : Nat) (v0 : Nat) (v1 : Int32) (v2 : Int32) (hv0 : kX v0 = 0) (I : gx_M) (H : Heap) (locs : List Loc) (ls : Array Slot), gx_S L 282 (cellX L I) s.heap H locs → lv_has ls 3 [(0, .ref (gx_ad L v0)), (1, .ref (gx_ad L (sd v1))), (2, .int v2)] → wl_X0_dropOldest_9 Q fu v0 v1 v2 I → W p l e rm_X0_dropOldest s m args below meth c H locs 0 0 (MQ below (va_Qv Q (fun I' t => gx_U L 282 (cellX L I') t) (gx_A L)) args s 0 0 (gx_A L)) (F0 m 9 ls []) := by
  have hx := C.1
  have hb := C.2.1
  intro fu
  induction fu with
  | zero => intros; rename_i h; exact False.elim h
  | succ fu ih =>
    intro v0 v1 v2 hv0 I H locs ls hM hl h
    rw [wl_X0_dropOldest_9] at h
    refine lv_iload_n hx hb dX0_dropOldest_9 rfl (lv_at hl 2 rfl) ?_
    refine lv_iconst (v := (5 : Int32)) hx hb dX0_dropOldest_10 (by decide) ?_
    refine lv_icmp_ge (tgt := 34) hx hb dX0_dropOldest_11 (by decide) (fun hc => ?_) (fun hc => ?_)
    · replace h := h.1 hc
      refine lv_aload_n hx hb dX0_dropOldest_34 rfl (lv_at hl 0 rfl) ?_
      refine gX0_0 C hM hv0 gw_187 dX0_dropOldest_35 ?_
      refine lv_iconst (v := (4 : Int32)) hx hb dX0_dropOldest_38 (by decide) ?_
      refine lv_aload_n hx hb dX0_dropOldest_39 rfl (lv_at hl 1 rfl) ?_
      have hi := h.1
      replace h := h.2
      obtain ⟨I1, eI1⟩ : ∃ z : gx_M, z = up I (v0 + 1) (4 : Int32).toNatClampNeg (v1) := ⟨_, rfl⟩
      replace h := h I1 eI1
      refine gaast_24 C hM (kX_0_0 hv0) hi eI1 dX0_dropOldest_40 (fun H locs hM => ?_)
      refine lv_aload_n hx hb dX0_dropOldest_41 rfl (lv_at hl 0 rfl) ?_
      refine lv_iconst (v := (4 : Int32)) hx hb dX0_dropOldest_42 (by decide) ?_
      obtain ⟨I2, eI2⟩ : ∃ z : gx_M, z = up I1 v0 1 (4 : Int32) := ⟨_, rfl⟩
      replace h := h I2 eI2
      refine pX0_1 C hM hv0 eI2 gw_188 dX0_dropOldest_43 (fun H locs hM => ?_)
      exact gq_vret C hM h dX0_dropOldest_46
    · replace h := h.2 hc
      refine lv_aload_n hx hb dX0_dropOldest_14 rfl (lv_at hl 0 rfl) ?_
      refine gX0_0 C hM hv0 gw_187 dX0_dropOldest_15 ?_
      refine lv_iload_n hx hb dX0_dropOldest_18 rfl (lv_at hl 2 rfl) ?_
      refine lv_iconst (v := (1 : Int32)) hx hb dX0_dropOldest_19 (by decide) ?_
      refine lv_isub hx hb dX0_dropOldest_20 ?_
      refine lv_aload_n hx hb dX0_dropOldest_21 rfl (lv_at hl 0 rfl) ?_
      refine gX0_0 C hM hv0 gw_187 dX0_dropOldest_22 ?_
      refine lv_iload_n hx hb dX0_dropOldest_25 rfl (lv_at hl 2 rfl) ?_
      have hi := h.1
      replace h := h.2
      refine gaald_24 C hM (kX_0_0 hv0) hi dX0_dropOldest_26 ?_
      have hi := h.1
      replace h := h.2
      obtain ⟨I3, eI3⟩ : ∃ z : gx_M, z = up I (v0 + 1) (v2 - (1 : Int32)).toNatClampNeg (I (v0 + 1) v2.toNatClampNeg) := ⟨_, rfl⟩
      replace h := h I3 eI3
      refine gaast_24 C hM (kX_0_0 hv0) hi eI3 dX0_dropOldest_27 (fun H locs hM => ?_)
      obtain ⟨x1, ex1⟩ : ∃ z : Int32, z = v2 + (1 : Int32) := ⟨_, rfl⟩
      replace h := h x1 ex1
      refine lv_iinc (v := x1) (lv' := [(2, .int x1), (0, .ref (gx_ad L v0)), (1, .ref (gx_ad L (sd v1)))]) hx hb dX0_dropOldest_28 hl (k := 2) rfl (by rw [ex1]; rfl) (by decide) rfl (fun ls hl => ?_)
      refine lv_goto (tgt := 9) hx hb dX0_dropOldest_31 (by decide) ?_
      exact ih v0 v1 x1 (hv0) I3 _ _ _ hM (lv_sub hl [1, 2, 0] rfl) h
set_option maxHeartbeats 4000000 in
set_option maxRecDepth 100000 in
theorem c_X0_dropOldest (l : Launch) (L : gx_L) (a0 : Nat) (hk0 : kX a0 = 0) (I : gx_M) (Q : gx_M → Prop) (h : wp_X0_dropOldest a0 I Q) : Met l yX0_dropOldest (gx_w yX0_dropOldest cX0_dropOldest 3 none) rm_X0_dropOldest (va_Pc [.ref (gx_ad L a0)] (gx_U L 282 (cellX L I))) (va_Qv Q (fun I' t => gx_U L 282 (cellX L I') t) (gx_A L)) 0 0 (gx_A L) := by
  refine gq_enter (by decide) (Nat.le_of_ble_eq_true rfl) (fun p e s m below meth c ls C hM hl => ?_)
  have C : gx_C L 282 p s m _ meth c RX0 cX0_dropOldest 3 none := C
  have hl : lv_has ls 3 [(0, .ref (gx_ad L a0))] := hl
  have hx := C.1
  have hb := C.2.1
  unfold wp_X0_dropOldest at h
  refine lv_aload_n hx hb dX0_dropOldest_0 rfl (lv_at hl 0 rfl) ?_
  refine gX0_0 C hM hk0 gw_187 dX0_dropOldest_1 ?_
  refine lv_iconst (v := (0 : Int32)) hx hb dX0_dropOldest_4 (by decide) ?_
  have hi := h.1
  replace h := h.2
  refine gaald_24 C hM (kX_0_0 hk0) hi dX0_dropOldest_5 ?_
  refine lv_astore_n (lv' := [(1, .ref (gx_ad L (sd (I (a0 + 1) (0 : Int32).toNatClampNeg)))), (0, .ref (gx_ad L a0))]) hx hb dX0_dropOldest_6 rfl hl (by decide) rfl (fun ls hl => ?_)
  refine lv_iconst (v := (1 : Int32)) hx hb dX0_dropOldest_7 (by decide) ?_
  refine lv_istore_n (lv' := [(2, .int (1 : Int32)), (1, .ref (gx_ad L (sd (I (a0 + 1) (0 : Int32).toNatClampNeg)))), (0, .ref (gx_ad L a0))]) hx hb dX0_dropOldest_8 rfl hl (by decide) rfl (fun ls hl => ?_)
  obtain ⟨fv, h⟩ := h
  exact tl_X0_dropOldest_9 C fv a0 (I (a0 + 1) (0 : Int32).toNatClampNeg) (1 : Int32) (hk0) I _ _ _ hM (lv_sub hl [2, 1, 0] rfl) h
theorem k_X0_dropOldest : gx_kV yX0_dropOldest cX0_dropOldest 3 none 0 := ⟨⟨gw_363, gw_27, by decide, by decide, by decide +kernel⟩, gw_362, gw_1⟩
abbrev rm_X4_copyFrom : Room := { frames := 0, cells := 0, slots := 0, locals := 0 }
set_option maxHeartbeats 4000000 in
set_option maxRecDepth 100000 in
theorem tl_X4_copyFrom_74 (C : gx_C L 282 p s m args meth c RX4 cX4_copyFrom 3 none) {Q : gx_M → Prop} : ∀ (fu : Nat) (v0 : Nat) (v1 : Nat) (v2 : Int32) (hv0 : kX v0 = 4) (hv1 : kX v1 = 4) (I : gx_M) (H : Heap) (locs : List Loc) (ls : Array Slot), gx_S L 282 (cellX L I) s.heap H locs → lv_has ls 3 [(0, .ref (gx_ad L v0)), (1, .ref (gx_ad L v1)), (2, .int v2)] → wl_X4_copyFrom_74 Q fu v0 v1 v2 I → W p l e rm_X4_copyFrom s m args below meth c H locs 0 0 (MQ below (va_Qv Q (fun I' t => gx_U L 282 (cellX L I') t) (gx_A L)) args s 0 0 (gx_A L)) (F0 m 74 ls []) := by
  have hx := C.1
  have hb := C.2.1
  intro fu
  induction fu with
  | zero => intros; rename_i h; exact False.elim h
  | succ fu ih =>
    intro v0 v1 v2 hv0 hv1 I H locs ls hM hl h
    rw [wl_X4_copyFrom_74] at h
    refine lv_iload_n hx hb dX4_copyFrom_74 rfl (lv_at hl 2 rfl) ?_
    refine lv_iconst (v := (3 : Int32)) hx hb dX4_copyFrom_75 (by decide) ?_
    refine lv_icmp_ge (tgt := 121) hx hb dX4_copyFrom_76 (by decide) (fun hc => ?_) (fun hc => ?_)
    · replace h := h.1 hc
      exact gq_vret C hM h dX4_copyFrom_121
    · replace h := h.2 hc
      refine lv_aload_n hx hb dX4_copyFrom_79 rfl (lv_at hl 0 rfl) ?_
      refine gX4_9 C hM hv0 gw_101 dX4_copyFrom_80 ?_
      refine lv_iload_n hx hb dX4_copyFrom_83 rfl (lv_at hl 2 rfl) ?_
      refine lv_aload_n hx hb dX4_copyFrom_84 rfl (lv_at hl 1 rfl) ?_
      refine gX4_9 C hM hv1 gw_101 dX4_copyFrom_85 ?_
      refine lv_iload_n hx hb dX4_copyFrom_88 rfl (lv_at hl 2 rfl) ?_
      refine gialdX C hM (kX_4_9 hv1) h.1 dX4_copyFrom_89 ?_
      replace h := h.2
      have hi := h.1
      replace h := h.2
      obtain ⟨I1, eI1⟩ : ∃ z : gx_M, z = up I (v0 + 1) v2.toNatClampNeg (I (v1 + 1) v2.toNatClampNeg) := ⟨_, rfl⟩
      replace h := h I1 eI1
      refine giastX C hM (kX_4_9 hv0) hi eI1 dX4_copyFrom_90 (fun H locs hM => ?_)
      refine lv_aload_n hx hb dX4_copyFrom_91 rfl (lv_at hl 0 rfl) ?_
      refine gX4_10 C hM hv0 gw_104 dX4_copyFrom_92 ?_
      refine lv_iload_n hx hb dX4_copyFrom_95 rfl (lv_at hl 2 rfl) ?_
      refine lv_aload_n hx hb dX4_copyFrom_96 rfl (lv_at hl 1 rfl) ?_
      refine gX4_10 C hM hv1 gw_104 dX4_copyFrom_97 ?_
      refine lv_iload_n hx hb dX4_copyFrom_100 rfl (lv_at hl 2 rfl) ?_
      refine gialdX C hM (kX_4_10 hv1) h.1 dX4_copyFrom_101 ?_
      replace h := h.2
      have hi := h.1
      replace h := h.2
      obtain ⟨I2, eI2⟩ : ∃ z : gx_M, z = up I1 (v0 + 2) v2.toNatClampNeg (I1 (v1 + 2) v2.toNatClampNeg) := ⟨_, rfl⟩
      replace h := h I2 eI2
      refine giastX C hM (kX_4_10 hv0) hi eI2 dX4_copyFrom_102 (fun H locs hM => ?_)
      refine lv_aload_n hx hb dX4_copyFrom_103 rfl (lv_at hl 0 rfl) ?_
      refine gX4_11 C hM hv0 gw_107 dX4_copyFrom_104 ?_
      refine lv_iload_n hx hb dX4_copyFrom_107 rfl (lv_at hl 2 rfl) ?_
      refine lv_aload_n hx hb dX4_copyFrom_108 rfl (lv_at hl 1 rfl) ?_
      refine gX4_11 C hM hv1 gw_107 dX4_copyFrom_109 ?_
      refine lv_iload_n hx hb dX4_copyFrom_112 rfl (lv_at hl 2 rfl) ?_
      refine gialdX C hM (kX_4_11 hv1) h.1 dX4_copyFrom_113 ?_
      replace h := h.2
      have hi := h.1
      replace h := h.2
      obtain ⟨I3, eI3⟩ : ∃ z : gx_M, z = up I2 (v0 + 3) v2.toNatClampNeg (I2 (v1 + 3) v2.toNatClampNeg) := ⟨_, rfl⟩
      replace h := h I3 eI3
      refine giastX C hM (kX_4_11 hv0) hi eI3 dX4_copyFrom_114 (fun H locs hM => ?_)
      obtain ⟨x1, ex1⟩ : ∃ z : Int32, z = v2 + (1 : Int32) := ⟨_, rfl⟩
      replace h := h x1 ex1
      refine lv_iinc (v := x1) (lv' := [(2, .int x1), (0, .ref (gx_ad L v0)), (1, .ref (gx_ad L v1))]) hx hb dX4_copyFrom_115 hl (k := 2) rfl (by rw [ex1]; rfl) (by decide) rfl (fun ls hl => ?_)
      refine lv_goto (tgt := 74) hx hb dX4_copyFrom_118 (by decide) ?_
      exact ih v0 v1 x1 (hv0) (hv1) I3 _ _ _ hM (lv_sub hl [1, 2, 0] rfl) h
set_option maxHeartbeats 4000000 in
set_option maxRecDepth 100000 in
theorem c_X4_copyFrom (l : Launch) (L : gx_L) (a0 : Nat) (hk0 : kX a0 = 4) (p0 : Nat) (hp0 : kX p0 = 4) (I : gx_M) (Q : gx_M → Prop) (h : wp_X4_copyFrom a0 p0 I Q) : Met l yX4_copyFrom (gx_w yX4_copyFrom cX4_copyFrom 3 none) rm_X4_copyFrom (va_Pc [.ref (gx_ad L a0), .ref (gx_ad L p0)] (gx_U L 282 (cellX L I))) (va_Qv Q (fun I' t => gx_U L 282 (cellX L I') t) (gx_A L)) 0 0 (gx_A L) := by
  refine gq_enter (by decide) (Nat.le_of_ble_eq_true rfl) (fun p e s m below meth c ls C hM hl => ?_)
  have C : gx_C L 282 p s m _ meth c RX4 cX4_copyFrom 3 none := C
  have hl : lv_has ls 3 [(0, .ref (gx_ad L a0)), (1, .ref (gx_ad L p0))] := hl
  have hx := C.1
  have hb := C.2.1
  unfold wp_X4_copyFrom at h
  refine lv_aload_n hx hb dX4_copyFrom_0 rfl (lv_at hl 0 rfl) ?_
  refine lv_aload_n hx hb dX4_copyFrom_1 rfl (lv_at hl 1 rfl) ?_
  refine gX4_0 C hM hp0 gw_74 dX4_copyFrom_2 ?_
  obtain ⟨I1, eI1⟩ : ∃ z : gx_M, z = up I a0 0 (I p0 0) := ⟨_, rfl⟩
  replace h := h I1 eI1
  refine pX4_0 C hM hk0 eI1 gw_74 dX4_copyFrom_5 (fun H locs hM => ?_)
  refine lv_aload_n hx hb dX4_copyFrom_8 rfl (lv_at hl 0 rfl) ?_
  refine lv_aload_n hx hb dX4_copyFrom_9 rfl (lv_at hl 1 rfl) ?_
  refine gX4_1 C hM hp0 gw_77 dX4_copyFrom_10 ?_
  obtain ⟨I2, eI2⟩ : ∃ z : gx_M, z = up I1 a0 1 (I1 p0 1 &&& 1) := ⟨_, rfl⟩
  replace h := h I2 eI2
  refine pX4_1 C hM hk0 (gz_and _) eI2 gw_77 dX4_copyFrom_13 (fun H locs hM => ?_)
  refine lv_aload_n hx hb dX4_copyFrom_16 rfl (lv_at hl 0 rfl) ?_
  refine lv_aload_n hx hb dX4_copyFrom_17 rfl (lv_at hl 1 rfl) ?_
  refine gX4_2 C hM hp0 gw_81 dX4_copyFrom_18 ?_
  obtain ⟨I3, eI3⟩ : ∃ z : gx_M, z = up I2 a0 2 (I2 p0 2) := ⟨_, rfl⟩
  replace h := h I3 eI3
  refine pX4_2 C hM hk0 eI3 gw_81 dX4_copyFrom_21 (fun H locs hM => ?_)
  refine lv_aload_n hx hb dX4_copyFrom_24 rfl (lv_at hl 0 rfl) ?_
  refine lv_aload_n hx hb dX4_copyFrom_25 rfl (lv_at hl 1 rfl) ?_
  refine gX4_3 C hM hp0 gw_83 dX4_copyFrom_26 ?_
  obtain ⟨I4, eI4⟩ : ∃ z : gx_M, z = up I3 a0 3 (I3 p0 3) := ⟨_, rfl⟩
  replace h := h I4 eI4
  refine pX4_3 C hM hk0 eI4 gw_83 dX4_copyFrom_29 (fun H locs hM => ?_)
  refine lv_aload_n hx hb dX4_copyFrom_32 rfl (lv_at hl 0 rfl) ?_
  refine lv_aload_n hx hb dX4_copyFrom_33 rfl (lv_at hl 1 rfl) ?_
  refine gX4_4 C hM hp0 gw_86 dX4_copyFrom_34 ?_
  obtain ⟨I5, eI5⟩ : ∃ z : gx_M, z = up I4 a0 4 (I4 p0 4) := ⟨_, rfl⟩
  replace h := h I5 eI5
  refine pX4_4 C hM hk0 eI5 gw_86 dX4_copyFrom_37 (fun H locs hM => ?_)
  refine lv_aload_n hx hb dX4_copyFrom_40 rfl (lv_at hl 0 rfl) ?_
  refine lv_aload_n hx hb dX4_copyFrom_41 rfl (lv_at hl 1 rfl) ?_
  refine gX4_5 C hM hp0 gw_89 dX4_copyFrom_42 ?_
  obtain ⟨I6, eI6⟩ : ∃ z : gx_M, z = up I5 a0 5 (I5 p0 5) := ⟨_, rfl⟩
  replace h := h I6 eI6
  refine pX4_5 C hM hk0 eI6 gw_89 dX4_copyFrom_45 (fun H locs hM => ?_)
  refine lv_aload_n hx hb dX4_copyFrom_48 rfl (lv_at hl 0 rfl) ?_
  refine lv_aload_n hx hb dX4_copyFrom_49 rfl (lv_at hl 1 rfl) ?_
  refine gX4_6 C hM hp0 gw_92 dX4_copyFrom_50 ?_
  obtain ⟨I7, eI7⟩ : ∃ z : gx_M, z = up I6 a0 6 (I6 p0 6) := ⟨_, rfl⟩
  replace h := h I7 eI7
  refine pX4_6 C hM hk0 eI7 gw_92 dX4_copyFrom_53 (fun H locs hM => ?_)
  refine lv_aload_n hx hb dX4_copyFrom_56 rfl (lv_at hl 0 rfl) ?_
  refine lv_aload_n hx hb dX4_copyFrom_57 rfl (lv_at hl 1 rfl) ?_
  refine gX4_7 C hM hp0 gw_95 dX4_copyFrom_58 ?_
  obtain ⟨I8, eI8⟩ : ∃ z : gx_M, z = up I7 a0 7 (I7 p0 7) := ⟨_, rfl⟩
  replace h := h I8 eI8
  refine pX4_7 C hM hk0 eI8 gw_95 dX4_copyFrom_61 (fun H locs hM => ?_)
  refine lv_aload_n hx hb dX4_copyFrom_64 rfl (lv_at hl 0 rfl) ?_
  refine lv_aload_n hx hb dX4_copyFrom_65 rfl (lv_at hl 1 rfl) ?_
  refine gX4_8 C hM hp0 gw_98 dX4_copyFrom_66 ?_
  obtain ⟨I9, eI9⟩ : ∃ z : gx_M, z = up I8 a0 8 (I8 p0 8 &&& 1) := ⟨_, rfl⟩
  replace h := h I9 eI9
  refine pX4_8 C hM hk0 (gz_and _) eI9 gw_98 dX4_copyFrom_69 (fun H locs hM => ?_)
  refine lv_iconst (v := (0 : Int32)) hx hb dX4_copyFrom_72 (by decide) ?_
  refine lv_istore_n (lv' := [(2, .int (0 : Int32)), (0, .ref (gx_ad L a0)), (1, .ref (gx_ad L p0))]) hx hb dX4_copyFrom_73 rfl hl (by decide) rfl (fun ls hl => ?_)
  obtain ⟨fv, h⟩ := h
  exact tl_X4_copyFrom_74 C fv a0 p0 (0 : Int32) (hk0) (hp0) I9 _ _ _ hM (lv_sub hl [1, 2, 0] rfl) h
theorem k_X4_copyFrom : gx_kV yX4_copyFrom cX4_copyFrom 3 none 1 := ⟨⟨gw_371, gw_26, by decide, by decide, by decide +kernel⟩, gw_369, gw_370⟩
abbrev rm_X5_copyFrom : Room := { frames := 1, cells := 0, slots := 0, locals := 26 }
set_option maxHeartbeats 4000000 in
set_option maxRecDepth 100000 in
theorem c_X5_copyFrom (l : Launch) (L : gx_L) (a0 : Nat) (hk0 : kX a0 = 5) (p0 : Nat) (hp0 : kX p0 = 5) (I : gx_M) (Q : gx_M → Prop) (h : wp_X5_copyFrom a0 p0 I Q) : Met l yX5_copyFrom (gx_w yX5_copyFrom cX5_copyFrom 2 none) rm_X5_copyFrom (va_Pc [.ref (gx_ad L a0), .ref (gx_ad L p0)] (gx_U L 282 (cellX L I))) (va_Qv Q (fun I' t => gx_U L 282 (cellX L I') t) (gx_A L)) 0 0 (gx_A L) := by
  refine gq_enter (by decide) (Nat.le_of_ble_eq_true rfl) (fun p e s m below meth c ls C hM hl => ?_)
  have C : gx_C L 282 p s m _ meth c RX5 cX5_copyFrom 2 none := C
  have hl : lv_has ls 2 [(0, .ref (gx_ad L a0)), (1, .ref (gx_ad L p0))] := hl
  have hx := C.1
  have hb := C.2.1
  unfold wp_X5_copyFrom at h
  refine lv_aload_n hx hb dX5_copyFrom_0 rfl (lv_at hl 1 rfl) ?_
  refine gX5_0 C hM hp0 gw_57 dX5_copyFrom_1 ?_
  refine galenX_20 C hM (kX_5_0 hp0) dX5_copyFrom_4 ?_
  refine lv_aload_n hx hb dX5_copyFrom_5 rfl (lv_at hl 0 rfl) ?_
  refine gX5_0 C hM hk0 gw_57 dX5_copyFrom_6 ?_
  refine galenX_20 C hM (kX_5_0 hk0) dX5_copyFrom_9 ?_
  refine lv_icmp_ne (tgt := 39) hx hb dX5_copyFrom_10 (by decide) (fun hc => ?_) (fun hc => ?_)
  · replace h := h.2 hc
    exact gq_vret C hM h dX5_copyFrom_39
  · replace h := h.1 hc
    refine lv_aload_n hx hb dX5_copyFrom_13 rfl (lv_at hl 1 rfl) ?_
    refine gX5_0 C hM hp0 gw_57 dX5_copyFrom_14 ?_
    refine lv_iconst (v := (0 : Int32)) hx hb dX5_copyFrom_17 (by decide) ?_
    refine lv_aload_n hx hb dX5_copyFrom_18 rfl (lv_at hl 0 rfl) ?_
    refine gX5_0 C hM hk0 gw_57 dX5_copyFrom_19 ?_
    refine lv_iconst (v := (0 : Int32)) hx hb dX5_copyFrom_22 (by decide) ?_
    refine lv_aload_n hx hb dX5_copyFrom_23 rfl (lv_at hl 0 rfl) ?_
    refine gX5_0 C hM hk0 gw_57 dX5_copyFrom_24 ?_
    refine galenX_20 C hM (kX_5_0 hk0) dX5_copyFrom_27 ?_
    have hi := h.1
    replace h := h.2
    obtain ⟨I1, eI1⟩ : ∃ z : gx_M, z = upr I (a0 + 1) (va_cpy (I (p0 + 1)) (I (a0 + 1)) (0 : Int32).toNatClampNeg (0 : Int32).toNatClampNeg (nI (nX (a0 + 1))).toNatClampNeg) := ⟨_, rfl⟩
    replace h := h I1 eI1
    refine gcopyX C hM (kX_5_0 hp0) (kX_5_0 hk0) gw_376 hl.1 hi eI1 (Nat.le_of_ble_eq_true rfl) (Nat.le_of_ble_eq_true rfl) dX5_copyFrom_28 (fun H locs hM => ?_)
    refine lv_aload_n hx hb dX5_copyFrom_31 rfl (lv_at hl 0 rfl) ?_
    refine lv_aload_n hx hb dX5_copyFrom_32 rfl (lv_at hl 1 rfl) ?_
    refine gX5_1 C hM hp0 gw_58 dX5_copyFrom_33 ?_
    obtain ⟨I2, eI2⟩ : ∃ z : gx_M, z = up I1 a0 1 (I1 p0 1) := ⟨_, rfl⟩
    replace h := h I2 eI2
    refine pX5_1 C hM hk0 eI2 gw_58 dX5_copyFrom_36 (fun H locs hM => ?_)
    exact gq_vret C hM h dX5_copyFrom_39
theorem k_X5_copyFrom : gx_kV yX5_copyFrom cX5_copyFrom 2 none 1 := ⟨⟨gw_375, gw_24, by decide, by decide, by decide +kernel⟩, gw_373, gw_374⟩
abbrev rm_X6_copyFrom : Room := { frames := 2, cells := 0, slots := 0, locals := 47 }
set_option maxHeartbeats 4000000 in
set_option maxRecDepth 100000 in
theorem tl_X6_copyFrom_2 (C : gx_C L 282 p s m args meth c RX6 cX6_copyFrom 3 none) {Q : gx_M → Prop} : ∀ (fu : Nat) (v0 : Nat) (v1 : Nat) (v2 : Int32) (hv0 : kX v0 = 6) (hv1 : kX v1 = 6) (I : gx_M) (H : Heap) (locs : List Loc) (ls : Array Slot), gx_S L 282 (cellX L I) s.heap H locs → lv_has ls 3 [(0, .ref (gx_ad L v0)), (1, .ref (gx_ad L v1)), (2, .int v2)] → wl_X6_copyFrom_2 Q fu v0 v1 v2 I → W p l e rm_X6_copyFrom s m args below meth c H locs 0 0 (MQ below (va_Qv Q (fun I' t => gx_U L 282 (cellX L I') t) (gx_A L)) args s 0 0 (gx_A L)) (F0 m 2 ls []) := by
  have hx := C.1
  have hb := C.2.1
  intro fu
  induction fu with
  | zero => intros; rename_i h; exact False.elim h
  | succ fu ih =>
    intro v0 v1 v2 hv0 hv1 I H locs ls hM hl h
    rw [wl_X6_copyFrom_2] at h
    refine lv_iload_n hx hb dX6_copyFrom_2 rfl (lv_at hl 2 rfl) ?_
    refine lv_bipush (v := (8 : Int32)) hx hb dX6_copyFrom_3 (by decide) ?_
    refine lv_icmp_ge (tgt := 29) hx hb dX6_copyFrom_5 (by decide) (fun hc => ?_) (fun hc => ?_)
    · replace h := h.1 hc
      refine lv_aload_n hx hb dX6_copyFrom_29 rfl (lv_at hl 0 rfl) ?_
      refine gX6_1 C hM hv0 gw_137 dX6_copyFrom_30 ?_
      refine lv_aload_n hx hb dX6_copyFrom_33 rfl (lv_at hl 1 rfl) ?_
      refine gX6_1 C hM hv1 gw_137 dX6_copyFrom_34 ?_
      refine gq_backv C hM (gq_runV (As := [.ref (gx_ad L (v1 + 2))]) (rest := []) C hM (kX_lt (kX_6_1 hv0) (by decide)) (cX_5 (kX_6_1 hv0)) rfl (c_X5_copyFrom l L (v0 + 2) (kX_6_1 hv0) (v1 + 2) (kX_6_1 hv1) I _ h) k_X5_copyFrom gw_372 rfl hl.1 rfl (Nat.le_of_ble_eq_true rfl) ⟨⟨rfl, rfl⟩, Nat.le_of_ble_eq_true rfl, Nat.le_of_ble_eq_true rfl⟩ ⟨Nat.zero_le _, Nat.zero_le _⟩ dX6_copyFrom_37) (fun I1 H locs h hM => ?_)
      refine lv_aload_n hx hb dX6_copyFrom_40 rfl (lv_at hl 0 rfl) ?_
      refine gX6_2 C hM hv0 gw_140 dX6_copyFrom_41 ?_
      refine lv_aload_n hx hb dX6_copyFrom_44 rfl (lv_at hl 1 rfl) ?_
      refine gX6_2 C hM hv1 gw_140 dX6_copyFrom_45 ?_
      refine gq_backv C hM (gq_runV (As := [.ref (gx_ad L (v1 + 4))]) (rest := []) C hM (kX_lt (kX_6_2 hv0) (by decide)) (cX_5 (kX_6_2 hv0)) rfl (c_X5_copyFrom l L (v0 + 4) (kX_6_2 hv0) (v1 + 4) (kX_6_2 hv1) I1 _ h) k_X5_copyFrom gw_372 rfl hl.1 rfl (Nat.le_of_ble_eq_true rfl) ⟨⟨rfl, rfl⟩, Nat.le_of_ble_eq_true rfl, Nat.le_of_ble_eq_true rfl⟩ ⟨Nat.zero_le _, Nat.zero_le _⟩ dX6_copyFrom_48) (fun I2 H locs h hM => ?_)
      refine lv_aload_n hx hb dX6_copyFrom_51 rfl (lv_at hl 0 rfl) ?_
      refine lv_aload_n hx hb dX6_copyFrom_52 rfl (lv_at hl 1 rfl) ?_
      refine gX6_3 C hM hv1 gw_142 dX6_copyFrom_53 ?_
      obtain ⟨I3, eI3⟩ : ∃ z : gx_M, z = up I2 v0 3 (I2 v1 3) := ⟨_, rfl⟩
      replace h := h I3 eI3
      refine pX6_3 C hM hv0 eI3 gw_142 dX6_copyFrom_56 (fun H locs hM => ?_)
      refine lv_aload_n hx hb dX6_copyFrom_59 rfl (lv_at hl 0 rfl) ?_
      refine lv_aload_n hx hb dX6_copyFrom_60 rfl (lv_at hl 1 rfl) ?_
      refine gX6_4 C hM hv1 gw_144 dX6_copyFrom_61 ?_
      obtain ⟨I4, eI4⟩ : ∃ z : gx_M, z = up I3 v0 4 (I3 v1 4) := ⟨_, rfl⟩
      replace h := h I4 eI4
      refine pX6_4 C hM hv0 eI4 gw_144 dX6_copyFrom_64 (fun H locs hM => ?_)
      refine lv_aload_n hx hb dX6_copyFrom_67 rfl (lv_at hl 0 rfl) ?_
      refine lv_aload_n hx hb dX6_copyFrom_68 rfl (lv_at hl 1 rfl) ?_
      refine gX6_5 C hM hv1 gw_147 dX6_copyFrom_69 ?_
      obtain ⟨I5, eI5⟩ : ∃ z : gx_M, z = up I4 v0 5 (I4 v1 5) := ⟨_, rfl⟩
      replace h := h I5 eI5
      refine pX6_5 C hM hv0 eI5 gw_147 dX6_copyFrom_72 (fun H locs hM => ?_)
      refine lv_aload_n hx hb dX6_copyFrom_75 rfl (lv_at hl 0 rfl) ?_
      refine lv_aload_n hx hb dX6_copyFrom_76 rfl (lv_at hl 1 rfl) ?_
      refine gX6_6 C hM hv1 gw_149 dX6_copyFrom_77 ?_
      obtain ⟨I6, eI6⟩ : ∃ z : gx_M, z = up I5 v0 6 (I5 v1 6) := ⟨_, rfl⟩
      replace h := h I6 eI6
      refine pX6_6 C hM hv0 eI6 gw_149 dX6_copyFrom_80 (fun H locs hM => ?_)
      refine lv_aload_n hx hb dX6_copyFrom_83 rfl (lv_at hl 0 rfl) ?_
      refine lv_aload_n hx hb dX6_copyFrom_84 rfl (lv_at hl 1 rfl) ?_
      refine gX6_7 C hM hv1 gw_151 dX6_copyFrom_85 ?_
      obtain ⟨I7, eI7⟩ : ∃ z : gx_M, z = up I6 v0 7 (I6 v1 7) := ⟨_, rfl⟩
      replace h := h I7 eI7
      refine pX6_7 C hM hv0 eI7 gw_151 dX6_copyFrom_88 (fun H locs hM => ?_)
      refine lv_aload_n hx hb dX6_copyFrom_91 rfl (lv_at hl 0 rfl) ?_
      refine lv_aload_n hx hb dX6_copyFrom_92 rfl (lv_at hl 1 rfl) ?_
      refine gX6_8 C hM hv1 gw_153 dX6_copyFrom_93 ?_
      obtain ⟨I8, eI8⟩ : ∃ z : gx_M, z = up I7 v0 8 (I7 v1 8) := ⟨_, rfl⟩
      replace h := h I8 eI8
      refine pX6_8 C hM hv0 eI8 gw_153 dX6_copyFrom_96 (fun H locs hM => ?_)
      refine lv_aload_n hx hb dX6_copyFrom_99 rfl (lv_at hl 0 rfl) ?_
      refine lv_aload_n hx hb dX6_copyFrom_100 rfl (lv_at hl 1 rfl) ?_
      refine gX6_9 C hM hv1 gw_155 dX6_copyFrom_101 ?_
      obtain ⟨I9, eI9⟩ : ∃ z : gx_M, z = up I8 v0 9 (I8 v1 9) := ⟨_, rfl⟩
      replace h := h I9 eI9
      refine pX6_9 C hM hv0 eI9 gw_155 dX6_copyFrom_104 (fun H locs hM => ?_)
      exact gq_vret C hM h dX6_copyFrom_107
    · replace h := h.2 hc
      refine lv_aload_n hx hb dX6_copyFrom_8 rfl (lv_at hl 0 rfl) ?_
      refine gX6_0 C hM hv0 gw_135 dX6_copyFrom_9 ?_
      refine lv_iload_n hx hb dX6_copyFrom_12 rfl (lv_at hl 2 rfl) ?_
      have hi := h.1
      replace h := h.2
      refine gaald_23 C hM (kX_6_0 hv0) hi dX6_copyFrom_13 ?_
      have hk1 := kX_23 (kX_6_0 hv0) (Nat.not_le.mp fun q => hi (Or.inr q))
      refine lv_aload_n hx hb dX6_copyFrom_14 rfl (lv_at hl 1 rfl) ?_
      refine gX6_0 C hM hv1 gw_135 dX6_copyFrom_15 ?_
      refine lv_iload_n hx hb dX6_copyFrom_18 rfl (lv_at hl 2 rfl) ?_
      have hi := h.1
      replace h := h.2
      refine gaald_23 C hM (kX_6_0 hv1) hi dX6_copyFrom_19 ?_
      have hk2 := kX_23 (kX_6_0 hv1) (Nat.not_le.mp fun q => hi (Or.inr q))
      refine gq_backv C hM (gq_runV (As := [.ref (gx_ad L ((v1 + 1) + 5 + 4 * v2.toNatClampNeg))]) (rest := []) C hM (kX_lt hk1 (by decide)) (cX_4 hk1) rfl (c_X4_copyFrom l L ((v0 + 1) + 5 + 4 * v2.toNatClampNeg) hk1 ((v1 + 1) + 5 + 4 * v2.toNatClampNeg) hk2 I _ h) k_X4_copyFrom gw_368 rfl hl.1 rfl (Nat.le_of_ble_eq_true rfl) ⟨⟨rfl, rfl⟩, Nat.le_of_ble_eq_true rfl, Nat.le_of_ble_eq_true rfl⟩ ⟨Nat.zero_le _, Nat.zero_le _⟩ dX6_copyFrom_20) (fun I10 H locs h hM => ?_)
      obtain ⟨x1, ex1⟩ : ∃ z : Int32, z = v2 + (1 : Int32) := ⟨_, rfl⟩
      replace h := h x1 ex1
      refine lv_iinc (v := x1) (lv' := [(2, .int x1), (0, .ref (gx_ad L v0)), (1, .ref (gx_ad L v1))]) hx hb dX6_copyFrom_23 hl (k := 2) rfl (by rw [ex1]; rfl) (by decide) rfl (fun ls hl => ?_)
      refine lv_goto (tgt := 2) hx hb dX6_copyFrom_26 (by decide) ?_
      exact ih v0 v1 x1 (hv0) (hv1) I10 _ _ _ hM (lv_sub hl [1, 2, 0] rfl) h
set_option maxHeartbeats 4000000 in
set_option maxRecDepth 100000 in
theorem c_X6_copyFrom (l : Launch) (L : gx_L) (a0 : Nat) (hk0 : kX a0 = 6) (p0 : Nat) (hp0 : kX p0 = 6) (I : gx_M) (Q : gx_M → Prop) (h : wp_X6_copyFrom a0 p0 I Q) : Met l yX6_copyFrom (gx_w yX6_copyFrom cX6_copyFrom 3 none) rm_X6_copyFrom (va_Pc [.ref (gx_ad L a0), .ref (gx_ad L p0)] (gx_U L 282 (cellX L I))) (va_Qv Q (fun I' t => gx_U L 282 (cellX L I') t) (gx_A L)) 0 0 (gx_A L) := by
  refine gq_enter (by decide) (Nat.le_of_ble_eq_true rfl) (fun p e s m below meth c ls C hM hl => ?_)
  have C : gx_C L 282 p s m _ meth c RX6 cX6_copyFrom 3 none := C
  have hl : lv_has ls 3 [(0, .ref (gx_ad L a0)), (1, .ref (gx_ad L p0))] := hl
  have hx := C.1
  have hb := C.2.1
  unfold wp_X6_copyFrom at h
  refine lv_iconst (v := (0 : Int32)) hx hb dX6_copyFrom_0 (by decide) ?_
  refine lv_istore_n (lv' := [(2, .int (0 : Int32)), (0, .ref (gx_ad L a0)), (1, .ref (gx_ad L p0))]) hx hb dX6_copyFrom_1 rfl hl (by decide) rfl (fun ls hl => ?_)
  obtain ⟨fv, h⟩ := h
  exact tl_X6_copyFrom_2 C fv a0 p0 (0 : Int32) (hk0) (hp0) I _ _ _ hM (lv_sub hl [1, 2, 0] rfl) h
theorem k_X6_copyFrom : gx_kV yX6_copyFrom cX6_copyFrom 3 none 1 := ⟨⟨gw_367, gw_23, by decide, by decide, by decide +kernel⟩, gw_365, gw_366⟩
abbrev rm_X0_add : Room := { frames := 3, cells := 0, slots := 0, locals := 69 }
set_option maxHeartbeats 4000000 in
set_option maxRecDepth 100000 in
theorem tj_X0_add_12 (C : gx_C L 282 p s m args meth c RX0 cX0_add 2 none) {Q : gx_M → Prop} : ∀ (v0 : Nat) (v1 : Nat) (hv0 : kX v0 = 0) (hv1 : kX v1 = 6) (I : gx_M) (H : Heap) (locs : List Loc) (ls : Array Slot), gx_S L 282 (cellX L I) s.heap H locs → lv_has ls 2 [(0, .ref (gx_ad L v0)), (1, .ref (gx_ad L v1))] → wj_X0_add_12 Q v0 v1 I → W p l e rm_X0_add s m args below meth c H locs 0 0 (MQ below (va_Qv Q (fun I' t => gx_U L 282 (cellX L I') t) (gx_A L)) args s 0 0 (gx_A L)) (F0 m 12 ls []) := by
  have hx := C.1
  have hb := C.2.1
  intro v0 v1 hv0 hv1 I H locs ls hM hl h
  unfold wj_X0_add_12 at h
  refine lv_aload_n hx hb dX0_add_12 rfl (lv_at hl 0 rfl) ?_
  refine gX0_1 C hM hv0 gw_188 dX0_add_13 ?_
  refine lv_if_lt (tgt := 54) hx hb dX0_add_16 (by decide) (fun hc => ?_) (fun hc => ?_)
  · replace h := h.1 hc
    exact gq_vret C hM h dX0_add_54
  · replace h := h.2 hc
    refine lv_aload_n hx hb dX0_add_19 rfl (lv_at hl 0 rfl) ?_
    refine gX0_1 C hM hv0 gw_188 dX0_add_20 ?_
    refine lv_aload_n hx hb dX0_add_23 rfl (lv_at hl 0 rfl) ?_
    refine gX0_0 C hM hv0 gw_187 dX0_add_24 ?_
    refine galenX_24 C hM (kX_0_0 hv0) dX0_add_27 ?_
    refine lv_icmp_ge (tgt := 54) hx hb dX0_add_28 (by decide) (fun hc => ?_) (fun hc => ?_)
    · replace h := h.1 hc
      exact gq_vret C hM h dX0_add_54
    · replace h := h.2 hc
      refine lv_aload_n hx hb dX0_add_31 rfl (lv_at hl 0 rfl) ?_
      refine gX0_0 C hM hv0 gw_187 dX0_add_32 ?_
      refine lv_aload_n hx hb dX0_add_35 rfl (lv_at hl 0 rfl) ?_
      refine gX0_1 C hM hv0 gw_188 dX0_add_36 ?_
      have hi := h.1
      replace h := h.2
      refine gaald_24 C hM (kX_0_0 hv0) hi dX0_add_39 ?_
      refine lv_aload_n hx hb dX0_add_40 rfl (lv_at hl 1 rfl) ?_
      refine gq_backv C hM (gq_runV (As := [.ref (gx_ad L v1)]) (rest := []) C hM (kX_lt (kX_sd _) (by decide)) (cX_6 (kX_sd _)) rfl (c_X6_copyFrom l L (sd (I (v0 + 1) (I v0 1).toNatClampNeg)) (kX_sd _) v1 hv1 I _ h) k_X6_copyFrom gw_364 rfl hl.1 rfl (Nat.le_of_ble_eq_true rfl) ⟨⟨rfl, rfl⟩, Nat.le_of_ble_eq_true rfl, Nat.le_of_ble_eq_true rfl⟩ ⟨Nat.zero_le _, Nat.zero_le _⟩ dX0_add_41) (fun I1 H locs h hM => ?_)
      refine lv_aload_n hx hb dX0_add_44 rfl (lv_at hl 0 rfl) ?_
      refine lv_dup hx hb dX0_add_45 rfl ?_
      refine gX0_1 C hM hv0 gw_188 dX0_add_46 ?_
      refine lv_iconst (v := (1 : Int32)) hx hb dX0_add_49 (by decide) ?_
      refine lv_iadd hx hb dX0_add_50 ?_
      obtain ⟨I2, eI2⟩ : ∃ z : gx_M, z = up I1 v0 1 ((I1 v0 1) + (1 : Int32)) := ⟨_, rfl⟩
      replace h := h I2 eI2
      refine pX0_1 C hM hv0 eI2 gw_188 dX0_add_51 (fun H locs hM => ?_)
      exact gq_vret C hM h dX0_add_54
set_option maxHeartbeats 4000000 in
set_option maxRecDepth 100000 in
theorem c_X0_add (l : Launch) (L : gx_L) (a0 : Nat) (hk0 : kX a0 = 0) (p0 : Nat) (hp0 : kX p0 = 6) (I : gx_M) (Q : gx_M → Prop) (h : wp_X0_add a0 p0 I Q) : Met l yX0_add (gx_w yX0_add cX0_add 2 none) rm_X0_add (va_Pc [.ref (gx_ad L a0), .ref (gx_ad L p0)] (gx_U L 282 (cellX L I))) (va_Qv Q (fun I' t => gx_U L 282 (cellX L I') t) (gx_A L)) 0 0 (gx_A L) := by
  refine gq_enter (by decide) (Nat.le_of_ble_eq_true rfl) (fun p e s m below meth c ls C hM hl => ?_)
  have C : gx_C L 282 p s m _ meth c RX0 cX0_add 2 none := C
  have hl : lv_has ls 2 [(0, .ref (gx_ad L a0)), (1, .ref (gx_ad L p0))] := hl
  have hx := C.1
  have hb := C.2.1
  unfold wp_X0_add at h
  refine lv_aload_n hx hb dX0_add_0 rfl (lv_at hl 0 rfl) ?_
  refine gX0_1 C hM hk0 gw_188 dX0_add_1 ?_
  refine lv_iconst (v := (5 : Int32)) hx hb dX0_add_4 (by decide) ?_
  refine lv_icmp_lt (tgt := 12) hx hb dX0_add_5 (by decide) (fun hc => ?_) (fun hc => ?_)
  · replace h := h.1 hc
    exact tj_X0_add_12 C a0 p0 (hk0) (hp0) I _ _ _ hM (lv_sub hl [0, 1] rfl) h
  · replace h := h.2 hc
    refine lv_aload_n hx hb dX0_add_8 rfl (lv_at hl 0 rfl) ?_
    refine gq_backv C hM (gq_runV (As := []) (rest := []) C hM (kX_lt hk0 (by decide)) (cX_0 hk0) rfl (c_X0_dropOldest l L a0 hk0 I _ h) k_X0_dropOldest gw_360 rfl hl.1 rfl (Nat.le_of_ble_eq_true rfl) ⟨⟨rfl, rfl⟩, Nat.le_of_ble_eq_true rfl, Nat.le_of_ble_eq_true rfl⟩ ⟨Nat.zero_le _, Nat.zero_le _⟩ dX0_add_9) (fun I1 H locs h hM => ?_)
    exact tj_X0_add_12 C a0 p0 (hk0) (hp0) I1 _ _ _ hM (lv_sub hl [0, 1] rfl) h
theorem k_X0_add : gx_kV yX0_add cX0_add 2 none 1 := ⟨⟨gw_359, gw_27, by decide, by decide, by decide +kernel⟩, gw_357, gw_358⟩
abbrev rm_X5_add : Room := { frames := 0, cells := 0, slots := 0, locals := 0 }
set_option maxHeartbeats 4000000 in
set_option maxRecDepth 100000 in
theorem c_X5_add (l : Launch) (L : gx_L) (a0 : Nat) (hk0 : kX a0 = 5) (p0 : Int32) (p1 : Int32) (p2 : Int32) (p3 : Int32) (I : gx_M) (Q : gx_M → Prop) (h : wp_X5_add a0 p0 p1 p2 p3 I Q) : Met l yX5_add (gx_w yX5_add cX5_add 6 none) rm_X5_add (va_Pc [.ref (gx_ad L a0), .int p0, .int p1, .int p2, .int p3] (gx_U L 282 (cellX L I))) (va_Qv Q (fun I' t => gx_U L 282 (cellX L I') t) (gx_A L)) 0 0 (gx_A L) := by
  refine gq_enter (by decide) (Nat.le_of_ble_eq_true rfl) (fun p e s m below meth c ls C hM hl => ?_)
  have C : gx_C L 282 p s m _ meth c RX5 cX5_add 6 none := C
  have hl : lv_has ls 6 [(0, .ref (gx_ad L a0)), (1, .int p0), (2, .int p1), (3, .int p2), (4, .int p3)] := hl
  have hx := C.1
  have hb := C.2.1
  unfold wp_X5_add at h
  refine lv_aload_n hx hb dX5_add_0 rfl (lv_at hl 0 rfl) ?_
  refine gX5_1 C hM hk0 gw_58 dX5_add_1 ?_
  refine lv_iconst (v := (4 : Int32)) hx hb dX5_add_4 (by decide) ?_
  refine lv_imul hx hb dX5_add_5 ?_
  refine lv_topi (fun x1 ex1 => ?_)
  replace h := h x1 ex1
  refine lv_istore (lv' := [(5, .int x1), (0, .ref (gx_ad L a0)), (1, .int p0), (2, .int p1), (3, .int p2), (4, .int p3)]) hx hb dX5_add_6 hl (by decide) rfl (fun ls hl => ?_)
  refine lv_iload hx hb dX5_add_8 (lv_at hl 0 rfl) ?_
  refine lv_if_lt (tgt := 25) hx hb dX5_add_10 (by decide) (fun hc => ?_) (fun hc => ?_)
  · replace h := h.1 hc
    exact gq_vret C hM h dX5_add_25
  · replace h := h.2 hc
    refine lv_iload hx hb dX5_add_13 (lv_at hl 0 rfl) ?_
    refine lv_iconst (v := (4 : Int32)) hx hb dX5_add_15 (by decide) ?_
    refine lv_iadd hx hb dX5_add_16 ?_
    refine lv_aload_n hx hb dX5_add_17 rfl (lv_at hl 1 rfl) ?_
    refine gX5_0 C hM hk0 gw_57 dX5_add_18 ?_
    refine galenX_20 C hM (kX_5_0 hk0) dX5_add_21 ?_
    refine lv_icmp_le (tgt := 26) hx hb dX5_add_22 (by decide) (fun hc => ?_) (fun hc => ?_)
    · replace h := h.1 hc
      refine lv_aload_n hx hb dX5_add_26 rfl (lv_at hl 1 rfl) ?_
      refine gX5_0 C hM hk0 gw_57 dX5_add_27 ?_
      refine lv_iload hx hb dX5_add_30 (lv_at hl 0 rfl) ?_
      refine lv_iload_n hx hb dX5_add_32 rfl (lv_at hl 2 rfl) ?_
      have hi := h.1
      replace h := h.2
      obtain ⟨I1, eI1⟩ : ∃ z : gx_M, z = up I (a0 + 1) x1.toNatClampNeg p0 := ⟨_, rfl⟩
      replace h := h I1 eI1
      refine giastX C hM (kX_5_0 hk0) hi eI1 dX5_add_33 (fun H locs hM => ?_)
      refine lv_aload_n hx hb dX5_add_34 rfl (lv_at hl 1 rfl) ?_
      refine gX5_0 C hM hk0 gw_57 dX5_add_35 ?_
      refine lv_iload hx hb dX5_add_38 (lv_at hl 0 rfl) ?_
      refine lv_iconst (v := (1 : Int32)) hx hb dX5_add_40 (by decide) ?_
      refine lv_iadd hx hb dX5_add_41 ?_
      refine lv_iload_n hx hb dX5_add_42 rfl (lv_at hl 3 rfl) ?_
      have hi := h.1
      replace h := h.2
      obtain ⟨I2, eI2⟩ : ∃ z : gx_M, z = up I1 (a0 + 1) (x1 + (1 : Int32)).toNatClampNeg p1 := ⟨_, rfl⟩
      replace h := h I2 eI2
      refine giastX C hM (kX_5_0 hk0) hi eI2 dX5_add_43 (fun H locs hM => ?_)
      refine lv_aload_n hx hb dX5_add_44 rfl (lv_at hl 1 rfl) ?_
      refine gX5_0 C hM hk0 gw_57 dX5_add_45 ?_
      refine lv_iload hx hb dX5_add_48 (lv_at hl 0 rfl) ?_
      refine lv_iconst (v := (2 : Int32)) hx hb dX5_add_50 (by decide) ?_
      refine lv_iadd hx hb dX5_add_51 ?_
      refine lv_iload_n hx hb dX5_add_52 rfl (lv_at hl 4 rfl) ?_
      have hi := h.1
      replace h := h.2
      obtain ⟨I3, eI3⟩ : ∃ z : gx_M, z = up I2 (a0 + 1) (x1 + (2 : Int32)).toNatClampNeg p2 := ⟨_, rfl⟩
      replace h := h I3 eI3
      refine giastX C hM (kX_5_0 hk0) hi eI3 dX5_add_53 (fun H locs hM => ?_)
      refine lv_aload_n hx hb dX5_add_54 rfl (lv_at hl 1 rfl) ?_
      refine gX5_0 C hM hk0 gw_57 dX5_add_55 ?_
      refine lv_iload hx hb dX5_add_58 (lv_at hl 0 rfl) ?_
      refine lv_iconst (v := (3 : Int32)) hx hb dX5_add_60 (by decide) ?_
      refine lv_iadd hx hb dX5_add_61 ?_
      refine lv_iload hx hb dX5_add_62 (lv_at hl 5 rfl) ?_
      have hi := h.1
      replace h := h.2
      obtain ⟨I4, eI4⟩ : ∃ z : gx_M, z = up I3 (a0 + 1) (x1 + (3 : Int32)).toNatClampNeg p3 := ⟨_, rfl⟩
      replace h := h I4 eI4
      refine giastX C hM (kX_5_0 hk0) hi eI4 dX5_add_64 (fun H locs hM => ?_)
      refine lv_aload_n hx hb dX5_add_65 rfl (lv_at hl 1 rfl) ?_
      refine lv_dup hx hb dX5_add_66 rfl ?_
      refine gX5_1 C hM hk0 gw_58 dX5_add_67 ?_
      refine lv_iconst (v := (1 : Int32)) hx hb dX5_add_70 (by decide) ?_
      refine lv_iadd hx hb dX5_add_71 ?_
      obtain ⟨I5, eI5⟩ : ∃ z : gx_M, z = up I4 a0 1 ((I4 a0 1) + (1 : Int32)) := ⟨_, rfl⟩
      replace h := h I5 eI5
      refine pX5_1 C hM hk0 eI5 gw_58 dX5_add_72 (fun H locs hM => ?_)
      exact gq_vret C hM h dX5_add_75
    · replace h := h.2 hc
      exact gq_vret C hM h dX5_add_25
theorem k_X5_add : gx_kV yX5_add cX5_add 6 none 4 := ⟨⟨gw_536, gw_24, by decide, by decide, by decide +kernel⟩, gw_534, gw_535⟩
abbrev rm_X6_addJob : Room := { frames := 1, cells := 0, slots := 0, locals := 25 }
set_option maxHeartbeats 4000000 in
set_option maxRecDepth 100000 in
theorem c_X6_addJob (l : Launch) (L : gx_L) (a0 : Nat) (hk0 : kX a0 = 6) (p0 : Int32) (p1 : Int32) (p2 : Int32) (I : gx_M) (Q : Int32 → gx_M → Prop) (h : wp_X6_addJob a0 p0 p1 p2 I Q) : Met l yX6_addJob (gx_w yX6_addJob cX6_addJob 5 (some .int)) rm_X6_addJob (va_Pc [.ref (gx_ad L a0), .int p0, .int p1, .int p2] (gx_U L 282 (cellX L I))) (va_Qi Q (fun I' t => gx_U L 282 (cellX L I') t) (gx_A L)) 0 0 (gx_A L) := by
  refine gq_enter (by decide) (Nat.le_of_ble_eq_true rfl) (fun p e s m below meth c ls C hM hl => ?_)
  have C : gx_C L 282 p s m _ meth c RX6 cX6_addJob 5 (some .int) := C
  have hl : lv_has ls 5 [(0, .ref (gx_ad L a0)), (1, .int p0), (2, .int p1), (3, .int p2)] := hl
  have hx := C.1
  have hb := C.2.1
  unfold wp_X6_addJob at h
  refine lv_aload_n hx hb dX6_addJob_0 rfl (lv_at hl 0 rfl) ?_
  refine gX6_7 C hM hk0 gw_151 dX6_addJob_1 ?_
  refine lv_topi (fun x1 ex1 => ?_)
  replace h := h x1 ex1
  refine lv_istore (lv' := [(4, .int x1), (0, .ref (gx_ad L a0)), (1, .int p0), (2, .int p1), (3, .int p2)]) hx hb dX6_addJob_4 hl (by decide) rfl (fun ls hl => ?_)
  refine lv_aload_n hx hb dX6_addJob_6 rfl (lv_at hl 1 rfl) ?_
  refine gX6_1 C hM hk0 gw_137 dX6_addJob_7 ?_
  refine lv_iload hx hb dX6_addJob_10 (lv_at hl 0 rfl) ?_
  refine lv_iload_n hx hb dX6_addJob_12 rfl (lv_at hl 2 rfl) ?_
  refine lv_iload_n hx hb dX6_addJob_13 rfl (lv_at hl 3 rfl) ?_
  refine lv_iload_n hx hb dX6_addJob_14 rfl (lv_at hl 4 rfl) ?_
  refine gq_backv C hM (gq_runV (As := [.int x1, .int p0, .int p1, .int p2]) (rest := []) C hM (kX_lt (kX_6_1 hk0) (by decide)) (cX_5 (kX_6_1 hk0)) rfl (c_X5_add l L (a0 + 2) (kX_6_1 hk0) x1 p0 p1 p2 I _ h) k_X5_add gw_533 rfl hl.1 rfl (Nat.le_of_ble_eq_true rfl) ⟨⟨rfl, rfl⟩, Nat.le_of_ble_eq_true rfl, Nat.le_of_ble_eq_true rfl⟩ ⟨Nat.zero_le _, Nat.zero_le _⟩ dX6_addJob_15) (fun I1 H locs h hM => ?_)
  refine lv_aload_n hx hb dX6_addJob_18 rfl (lv_at hl 1 rfl) ?_
  refine lv_dup hx hb dX6_addJob_19 rfl ?_
  refine gX6_7 C hM hk0 gw_151 dX6_addJob_20 ?_
  refine lv_iconst (v := (1 : Int32)) hx hb dX6_addJob_23 (by decide) ?_
  refine lv_iadd hx hb dX6_addJob_24 ?_
  obtain ⟨I2, eI2⟩ : ∃ z : gx_M, z = up I1 a0 7 ((I1 a0 7) + (1 : Int32)) := ⟨_, rfl⟩
  replace h := h I2 eI2
  refine pX6_7 C hM hk0 eI2 gw_151 dX6_addJob_25 (fun H locs hM => ?_)
  refine lv_iload hx hb dX6_addJob_28 (lv_at hl 0 rfl) ?_
  exact gq_iret C hM h dX6_addJob_30
theorem k_X6_addJob : gx_kV yX6_addJob cX6_addJob 5 (some .int) 3 := ⟨⟨gw_574, gw_23, by decide, by decide, by decide +kernel⟩, gw_572, gw_573⟩
abbrev rm_X6_find : Room := { frames := 0, cells := 0, slots := 0, locals := 0 }
set_option maxHeartbeats 4000000 in
set_option maxRecDepth 100000 in
theorem c_X6_find (l : Launch) (L : gx_L) (a0 : Nat) (hk0 : kX a0 = 6) (p0 : Int32) (I : gx_M) (Q : Option Nat → gx_M → Prop) (h : wp_X6_find a0 p0 I Q) : Met l yX6_find (gx_w yX6_find cX6_find 2 (some (.object RX4))) rm_X6_find (va_Pc [.ref (gx_ad L a0), .int p0] (gx_U L 282 (cellX L I))) (va_Qe (gx_ad L) (fun r I' => (∀ b, r = some b → kX b = 4) ∧ Q r I') (fun I' t => gx_U L 282 (cellX L I') t) (gx_A L)) 0 0 (gx_A L) := by
  refine gq_enter (by decide) (Nat.le_of_ble_eq_true rfl) (fun p e s m below meth c ls C hM hl => ?_)
  have C : gx_C L 282 p s m _ meth c RX6 cX6_find 2 (some (.object RX4)) := C
  have hl : lv_has ls 2 [(0, .ref (gx_ad L a0)), (1, .int p0)] := hl
  have hx := C.1
  have hb := C.2.1
  unfold wp_X6_find at h
  refine lv_iload_n hx hb dX6_find_0 rfl (lv_at hl 1 rfl) ?_
  refine lv_if_lt (tgt := 21) hx hb dX6_find_1 (by decide) (fun hc => ?_) (fun hc => ?_)
  · replace h := h.1 hc
    refine lv_null hx hb dX6_find_21 ?_
    exact gq_nret C hM ⟨fun b hb => (by cases hb), h⟩ dX6_find_22
  · replace h := h.2 hc
    refine lv_iload_n hx hb dX6_find_4 rfl (lv_at hl 1 rfl) ?_
    refine lv_aload_n hx hb dX6_find_5 rfl (lv_at hl 0 rfl) ?_
    refine gX6_3 C hM hk0 gw_142 dX6_find_6 ?_
    refine lv_icmp_ge (tgt := 21) hx hb dX6_find_9 (by decide) (fun hc => ?_) (fun hc => ?_)
    · replace h := h.1 hc
      refine lv_null hx hb dX6_find_21 ?_
      exact gq_nret C hM ⟨fun b hb => (by cases hb), h⟩ dX6_find_22
    · replace h := h.2 hc
      refine lv_iload_n hx hb dX6_find_12 rfl (lv_at hl 1 rfl) ?_
      refine lv_aload_n hx hb dX6_find_13 rfl (lv_at hl 0 rfl) ?_
      refine gX6_0 C hM hk0 gw_135 dX6_find_14 ?_
      refine galenX_23 C hM (kX_6_0 hk0) dX6_find_17 ?_
      refine lv_icmp_lt (tgt := 23) hx hb dX6_find_18 (by decide) (fun hc => ?_) (fun hc => ?_)
      · replace h := h.1 hc
        refine lv_aload_n hx hb dX6_find_23 rfl (lv_at hl 0 rfl) ?_
        refine gX6_0 C hM hk0 gw_135 dX6_find_24 ?_
        refine lv_iload_n hx hb dX6_find_27 rfl (lv_at hl 1 rfl) ?_
        have hi := h.1
        replace h := h.2
        refine gaald_23 C hM (kX_6_0 hk0) hi dX6_find_28 ?_
        have hk1 := kX_23 (kX_6_0 hk0) (Nat.not_le.mp fun q => hi (Or.inr q))
        exact gq_aret C hM ⟨fun b hb => (by cases hb; exact hk1), h⟩ dX6_find_29
      · replace h := h.2 hc
        refine lv_null hx hb dX6_find_21 ?_
        exact gq_nret C hM ⟨fun b hb => (by cases hb), h⟩ dX6_find_22
theorem k_X6_find : gx_kV yX6_find cX6_find 2 (some (.object RX4)) 1 := ⟨⟨gw_355, gw_23, by decide, by decide, by decide +kernel⟩, gw_353, gw_354⟩
abbrev rm_X7_isWithin : Room := { frames := 0, cells := 0, slots := 0, locals := 0 }
set_option maxHeartbeats 4000000 in
set_option maxRecDepth 100000 in
theorem c_X7_isWithin (l : Launch) (L : gx_L) (p0 : Int32) (p1 : Int32) (p2 : Int32) (I : gx_M) (Q : Int32 → gx_M → Prop) (h : wp_X7_isWithin p0 p1 p2 I Q) : Met l yX7_isWithin (gx_w yX7_isWithin cX7_isWithin 3 (some .boolean)) rm_X7_isWithin (va_Pc [.int p0, .int p1, .int p2] (gx_U L 282 (cellX L I))) (va_Qi (fun r I' => r &&& 1 = r ∧ Q r I') (fun I' t => gx_U L 282 (cellX L I') t) (gx_A L)) 0 0 (gx_A L) := by
  refine gq_enter (by decide) (Nat.le_of_ble_eq_true rfl) (fun p e s m below meth c ls C hM hl => ?_)
  have C : gx_C L 282 p s m _ meth c RX7 cX7_isWithin 3 (some .boolean) := C
  have hl : lv_has ls 3 [(0, .int p0), (1, .int p1), (2, .int p2)] := hl
  have hx := C.1
  have hb := C.2.1
  unfold wp_X7_isWithin at h
  refine lv_iload_n hx hb dX7_isWithin_0 rfl (lv_at hl 0 rfl) ?_
  refine lv_iload_n hx hb dX7_isWithin_1 rfl (lv_at hl 1 rfl) ?_
  refine lv_icmp_lt (tgt := 14) hx hb dX7_isWithin_2 (by decide) (fun hc => ?_) (fun hc => ?_)
  · replace h := h.1 hc
    refine lv_iconst (v := (0 : Int32)) hx hb dX7_isWithin_14 (by decide) ?_
    exact gq_zret C hM ⟨rfl, h⟩ (rfl) dX7_isWithin_15
  · replace h := h.2 hc
    refine lv_iload_n hx hb dX7_isWithin_5 rfl (lv_at hl 0 rfl) ?_
    refine lv_iload_n hx hb dX7_isWithin_6 rfl (lv_at hl 2 rfl) ?_
    refine lv_icmp_gt (tgt := 14) hx hb dX7_isWithin_7 (by decide) (fun hc => ?_) (fun hc => ?_)
    · replace h := h.1 hc
      refine lv_iconst (v := (0 : Int32)) hx hb dX7_isWithin_14 (by decide) ?_
      exact gq_zret C hM ⟨rfl, h⟩ (rfl) dX7_isWithin_15
    · replace h := h.2 hc
      refine lv_iconst (v := (1 : Int32)) hx hb dX7_isWithin_10 (by decide) ?_
      refine lv_goto (tgt := 15) hx hb dX7_isWithin_11 (by decide) ?_
      exact gq_zret C hM ⟨rfl, h⟩ (rfl) dX7_isWithin_15
theorem k_X7_isWithin : gx_kS yX7_isWithin cX7_isWithin 3 (some .boolean) 3 := ⟨⟨gw_337, gw_22, by decide, by decide, by decide +kernel⟩, gw_336⟩
abbrev rm_X7_refuse : Room := { frames := 0, cells := 0, slots := 0, locals := 0 }
set_option maxHeartbeats 4000000 in
set_option maxRecDepth 100000 in
theorem c_X7_refuse (l : Launch) (L : gx_L) (a0 : Nat) (hk0 : kX a0 = 7) (p0 : Int32) (I : gx_M) (Q : Int32 → gx_M → Prop) (h : wp_X7_refuse a0 p0 I Q) : Met l yX7_refuse (gx_w yX7_refuse cX7_refuse 2 (some .int)) rm_X7_refuse (va_Pc [.ref (gx_ad L a0), .int p0] (gx_U L 282 (cellX L I))) (va_Qi Q (fun I' t => gx_U L 282 (cellX L I') t) (gx_A L)) 0 0 (gx_A L) := by
  refine gq_enter (by decide) (Nat.le_of_ble_eq_true rfl) (fun p e s m below meth c ls C hM hl => ?_)
  have C : gx_C L 282 p s m _ meth c RX7 cX7_refuse 2 (some .int) := C
  have hl : lv_has ls 2 [(0, .ref (gx_ad L a0)), (1, .int p0)] := hl
  have hx := C.1
  have hb := C.2.1
  unfold wp_X7_refuse at h
  refine lv_aload_n hx hb dX7_refuse_0 rfl (lv_at hl 0 rfl) ?_
  refine lv_iload_n hx hb dX7_refuse_1 rfl (lv_at hl 1 rfl) ?_
  obtain ⟨I1, eI1⟩ : ∃ z : gx_M, z = up I a0 5 p0 := ⟨_, rfl⟩
  replace h := h I1 eI1
  refine pX7_5 C hM hk0 eI1 gw_311 dX7_refuse_2 (fun H locs hM => ?_)
  refine gq_ldcw (v := (-1000003 : Int32)) C gw_343 dX7_refuse_5 ?_
  exact gq_iret C hM h dX7_refuse_8
theorem k_X7_refuse : gx_kV yX7_refuse cX7_refuse 2 (some .int) 1 := ⟨⟨gw_342, gw_22, by decide, by decide, by decide +kernel⟩, gw_341, gw_0⟩
abbrev rm_X7_request : Room := { frames := 4, cells := 0, slots := 0, locals := 90 }
set_option maxHeartbeats 4000000 in
set_option maxRecDepth 100000 in
theorem c_X7_request (l : Launch) (L : gx_L) (a0 : Nat) (hk0 : kX a0 = 7) (p0 : Int32) (p1 : Int32) (p2 : Int32) (I : gx_M) (Q : Int32 → gx_M → Prop) (h : wp_X7_request a0 p0 p1 p2 I Q) : Met l yX7_request (gx_w yX7_request cX7_request 4 (some .int)) rm_X7_request (va_Pc [.ref (gx_ad L a0), .int p0, .int p1, .int p2] (gx_U L 282 (cellX L I))) (va_Qi Q (fun I' t => gx_U L 282 (cellX L I') t) (gx_A L)) 0 0 (gx_A L) := by
  refine gq_enter (by decide) (Nat.le_of_ble_eq_true rfl) (fun p e s m below meth c ls C hM hl => ?_)
  have C : gx_C L 282 p s m _ meth c RX7 cX7_request 4 (some .int) := C
  have hl : lv_has ls 4 [(0, .ref (gx_ad L a0)), (1, .int p0), (2, .int p1), (3, .int p2)] := hl
  have hx := C.1
  have hb := C.2.1
  unfold wp_X7_request at h
  refine lv_aload_n hx hb dX7_request_0 rfl (lv_at hl 0 rfl) ?_
  refine gX7_0 C hM hk0 gw_306 dX7_request_1 ?_
  refine lv_iload_n hx hb dX7_request_4 rfl (lv_at hl 2 rfl) ?_
  refine gq_backe C hM (gq_runV (As := [.int p1]) (rest := []) C hM (kX_lt (kX_7_0 hk0) (by decide)) (cX_6 (kX_7_0 hk0)) rfl (c_X6_find l L (a0 + 1) (kX_7_0 hk0) p1 I _ h) k_X6_find gw_387 rfl hl.1 rfl (Nat.le_of_ble_eq_true rfl) ⟨⟨rfl, rfl⟩, Nat.le_of_ble_eq_true rfl, Nat.le_of_ble_eq_true rfl⟩ ⟨Nat.zero_le _, Nat.zero_le _⟩ dX7_request_5) (fun r1 I1 H locs h hM => ?_)
  obtain ⟨hk1, h⟩ := h
  rcases r1 with _ | b1
  · replace h := h.1 rfl
    refine W.eq (g2 := F0 m 8 ls [.null]) rfl ?_
    refine lv_ifnonnullN hx hb dX7_request_8 ?_
    refine gq_ldc (v := (-1000001 : Int32)) C gw_388 dX7_request_11 ?_
    exact gq_iret C hM h dX7_request_13
  · have hk := hk1 b1 rfl
    replace h := h.2 b1 rfl hk
    have hk2 := hk
    refine W.eq (g2 := F0 m 8 ls [.ref (gx_ad L b1)]) rfl ?_
    refine lv_ifnonnull (tgt := 14) hx hb dX7_request_8 (by decide) ?_
    refine lv_iload_n hx hb dX7_request_14 rfl (lv_at hl 1 rfl) ?_
    refine lv_iconst (v := (0 : Int32)) hx hb dX7_request_15 (by decide) ?_
    refine lv_iconst (v := (2 : Int32)) hx hb dX7_request_16 (by decide) ?_
    refine gq_backi C hM (gq_runS (As := [.int p0, .int (0 : Int32), .int (2 : Int32)]) (rest := []) C hM (c_X7_isWithin l L p0 (0 : Int32) (2 : Int32) I1 _ h) k_X7_isWithin gw_335 rfl hl.1 rfl (Nat.le_of_ble_eq_true rfl) ⟨⟨rfl, rfl⟩, Nat.le_of_ble_eq_true rfl, Nat.le_of_ble_eq_true rfl⟩ ⟨Nat.zero_le _, Nat.zero_le _⟩ dX7_request_17) (fun r2 I2 H locs h hM => ?_)
    obtain ⟨hz1, h⟩ := h
    refine lv_if_eq (tgt := 33) hx hb dX7_request_20 (by decide) (fun hc => ?_) (fun hc => ?_)
    · replace h := h.1 hc
      refine gq_ldc (v := (-1000002 : Int32)) C gw_338 dX7_request_33 ?_
      exact gq_iret C hM h dX7_request_35
    · replace h := h.2 hc
      refine lv_iload_n hx hb dX7_request_23 rfl (lv_at hl 3 rfl) ?_
      refine lv_iconst (v := (0 : Int32)) hx hb dX7_request_24 (by decide) ?_
      refine lv_bipush (v := (9 : Int32)) hx hb dX7_request_25 (by decide) ?_
      refine gq_backi C hM (gq_runS (As := [.int p2, .int (0 : Int32), .int (9 : Int32)]) (rest := []) C hM (c_X7_isWithin l L p2 (0 : Int32) (9 : Int32) I2 _ h) k_X7_isWithin gw_335 rfl hl.1 rfl (Nat.le_of_ble_eq_true rfl) ⟨⟨rfl, rfl⟩, Nat.le_of_ble_eq_true rfl, Nat.le_of_ble_eq_true rfl⟩ ⟨Nat.zero_le _, Nat.zero_le _⟩ dX7_request_27) (fun r3 I3 H locs h hM => ?_)
      obtain ⟨hz2, h⟩ := h
      refine lv_if_ne (tgt := 36) hx hb dX7_request_30 (by decide) (fun hc => ?_) (fun hc => ?_)
      · replace h := h.2 hc
        refine lv_aload_n hx hb dX7_request_36 rfl (lv_at hl 0 rfl) ?_
        refine gX7_0 C hM hk0 gw_306 dX7_request_37 ?_
        refine gX6_1 C hM (kX_7_0 hk0) gw_139 dX7_request_40 ?_
        refine gX5_1 C hM (kX_6_1 (kX_7_0 hk0)) gw_62 dX7_request_43 ?_
        refine lv_bipush (v := (20 : Int32)) hx hb dX7_request_46 (by decide) ?_
        refine lv_icmp_lt (tgt := 57) hx hb dX7_request_48 (by decide) (fun hc => ?_) (fun hc => ?_)
        · replace h := h.1 hc
          refine lv_aload_n hx hb dX7_request_57 rfl (lv_at hl 0 rfl) ?_
          refine gX7_3 C hM hk0 gw_309 dX7_request_58 ?_
          refine lv_aload_n hx hb dX7_request_61 rfl (lv_at hl 0 rfl) ?_
          refine gX7_0 C hM hk0 gw_306 dX7_request_62 ?_
          refine gq_backv C hM (gq_runV (As := [.ref (gx_ad L (a0 + 1))]) (rest := []) C hM (kX_lt (kX_7_3 hk0) (by decide)) (cX_0 (kX_7_3 hk0)) rfl (c_X0_add l L (a0 + 77) (kX_7_3 hk0) (a0 + 1) (kX_7_0 hk0) I3 _ h) k_X0_add gw_356 rfl hl.1 rfl (Nat.le_of_ble_eq_true rfl) ⟨⟨rfl, rfl⟩, Nat.le_of_ble_eq_true rfl, Nat.le_of_ble_eq_true rfl⟩ ⟨Nat.zero_le _, Nat.zero_le _⟩ dX7_request_65) (fun I4 H locs h hM => ?_)
          refine lv_aload_n hx hb dX7_request_68 rfl (lv_at hl 0 rfl) ?_
          refine gX7_0 C hM hk0 gw_306 dX7_request_69 ?_
          refine lv_iload_n hx hb dX7_request_72 rfl (lv_at hl 1 rfl) ?_
          refine lv_iload_n hx hb dX7_request_73 rfl (lv_at hl 2 rfl) ?_
          refine lv_iload_n hx hb dX7_request_74 rfl (lv_at hl 3 rfl) ?_
          refine gq_backi C hM (gq_runV (As := [.int p0, .int p1, .int p2]) (rest := []) C hM (kX_lt (kX_7_0 hk0) (by decide)) (cX_6 (kX_7_0 hk0)) rfl (c_X6_addJob l L (a0 + 1) (kX_7_0 hk0) p0 p1 p2 I4 _ h) k_X6_addJob gw_571 rfl hl.1 rfl (Nat.le_of_ble_eq_true rfl) ⟨⟨rfl, rfl⟩, Nat.le_of_ble_eq_true rfl, Nat.le_of_ble_eq_true rfl⟩ ⟨Nat.zero_le _, Nat.zero_le _⟩ dX7_request_75) (fun r4 I5 H locs h hM => ?_)
          exact gq_iret C hM h dX7_request_78
        · replace h := h.2 hc
          refine lv_aload_n hx hb dX7_request_51 rfl (lv_at hl 0 rfl) ?_
          refine lv_iconst (v := (1 : Int32)) hx hb dX7_request_52 (by decide) ?_
          refine gq_backi C hM (gq_runV (As := [.int (1 : Int32)]) (rest := []) C hM (kX_lt hk0 (by decide)) (cX_7 hk0) rfl (c_X7_refuse l L a0 hk0 (1 : Int32) I3 _ h) k_X7_refuse gw_339 rfl hl.1 rfl (Nat.le_of_ble_eq_true rfl) ⟨⟨rfl, rfl⟩, Nat.le_of_ble_eq_true rfl, Nat.le_of_ble_eq_true rfl⟩ ⟨Nat.zero_le _, Nat.zero_le _⟩ dX7_request_53) (fun r5 I6 H locs h hM => ?_)
          exact gq_iret C hM h dX7_request_56
      · replace h := h.1 hc
        refine gq_ldc (v := (-1000002 : Int32)) C gw_338 dX7_request_33 ?_
        exact gq_iret C hM h dX7_request_35
theorem k_X7_request : gx_kV yX7_request cX7_request 4 (some .int) 3 := ⟨⟨gw_711, gw_22, by decide, by decide, by decide +kernel⟩, gw_709, gw_710⟩
abbrev rm_X2_findDeltaNumbers : Room := { frames := 0, cells := 0, slots := 0, locals := 0 }
set_option maxHeartbeats 4000000 in
set_option maxRecDepth 100000 in
theorem c_X2_findDeltaNumbers (l : Launch) (L : gx_L) (a0 : Nat) (hk0 : kX a0 = 2) (I : gx_M) (Q : gx_M → Prop) (h : wp_X2_findDeltaNumbers a0 I Q) : Met l yX2_findDeltaNumbers (gx_w yX2_findDeltaNumbers cX2_findDeltaNumbers 1 none) rm_X2_findDeltaNumbers (va_Pc [.ref (gx_ad L a0)] (gx_U L 282 (cellX L I))) (va_Qv Q (fun I' t => gx_U L 282 (cellX L I') t) (gx_A L)) 0 0 (gx_A L) := by
  refine gq_enter (by decide) (Nat.le_of_ble_eq_true rfl) (fun p e s m below meth c ls C hM hl => ?_)
  have C : gx_C L 282 p s m _ meth c RX2 cX2_findDeltaNumbers 1 none := C
  have hl : lv_has ls 1 [(0, .ref (gx_ad L a0))] := hl
  have hx := C.1
  have hb := C.2.1
  unfold wp_X2_findDeltaNumbers at h
  refine lv_aload_n hx hb dX2_findDeltaNumbers_0 rfl (lv_at hl 0 rfl) ?_
  refine lv_aload_n hx hb dX2_findDeltaNumbers_1 rfl (lv_at hl 0 rfl) ?_
  refine gX2_5 C hM hk0 gw_255 dX2_findDeltaNumbers_2 ?_
  refine lv_iconst (v := (0 : Int32)) hx hb dX2_findDeltaNumbers_5 (by decide) ?_
  refine gialdX C hM (kX_2_5 hk0) h.1 dX2_findDeltaNumbers_6 ?_
  replace h := h.2
  obtain ⟨I1, eI1⟩ : ∃ z : gx_M, z = up I a0 9 (I (a0 + 6) (0 : Int32).toNatClampNeg) := ⟨_, rfl⟩
  replace h := h I1 eI1
  refine pX2_9 C hM hk0 eI1 gw_263 dX2_findDeltaNumbers_7 (fun H locs hM => ?_)
  refine lv_aload_n hx hb dX2_findDeltaNumbers_10 rfl (lv_at hl 0 rfl) ?_
  refine lv_iconst (v := (2 : Int32)) hx hb dX2_findDeltaNumbers_11 (by decide) ?_
  refine lv_aload_n hx hb dX2_findDeltaNumbers_12 rfl (lv_at hl 0 rfl) ?_
  refine gX2_5 C hM hk0 gw_255 dX2_findDeltaNumbers_13 ?_
  refine lv_iconst (v := (1 : Int32)) hx hb dX2_findDeltaNumbers_16 (by decide) ?_
  refine gialdX C hM (kX_2_5 hk0) h.1 dX2_findDeltaNumbers_17 ?_
  replace h := h.2
  refine lv_imul hx hb dX2_findDeltaNumbers_18 ?_
  refine lv_iconst (v := (2 : Int32)) hx hb dX2_findDeltaNumbers_19 (by decide) ?_
  refine lv_aload_n hx hb dX2_findDeltaNumbers_20 rfl (lv_at hl 0 rfl) ?_
  refine gX2_5 C hM hk0 gw_255 dX2_findDeltaNumbers_21 ?_
  refine lv_iconst (v := (2 : Int32)) hx hb dX2_findDeltaNumbers_24 (by decide) ?_
  refine gialdX C hM (kX_2_5 hk0) h.1 dX2_findDeltaNumbers_25 ?_
  replace h := h.2
  refine lv_imul hx hb dX2_findDeltaNumbers_26 ?_
  refine lv_iadd hx hb dX2_findDeltaNumbers_27 ?_
  refine lv_aload_n hx hb dX2_findDeltaNumbers_28 rfl (lv_at hl 0 rfl) ?_
  refine gX2_5 C hM hk0 gw_255 dX2_findDeltaNumbers_29 ?_
  refine lv_iconst (v := (0 : Int32)) hx hb dX2_findDeltaNumbers_32 (by decide) ?_
  refine gialdX C hM (kX_2_5 hk0) h.1 dX2_findDeltaNumbers_33 ?_
  replace h := h.2
  refine lv_isub hx hb dX2_findDeltaNumbers_34 ?_
  refine lv_iconst (v := (3 : Int32)) hx hb dX2_findDeltaNumbers_35 (by decide) ?_
  refine lv_idiv hx hb dX2_findDeltaNumbers_36 (by decide) ?_
  obtain ⟨I2, eI2⟩ : ∃ z : gx_M, z = up I1 a0 10 (((((2 : Int32) * (I1 (a0 + 6) (1 : Int32).toNatClampNeg)) + ((2 : Int32) * (I1 (a0 + 6) (2 : Int32).toNatClampNeg))) - (I1 (a0 + 6) (0 : Int32).toNatClampNeg)) / (3 : Int32)) := ⟨_, rfl⟩
  replace h := h I2 eI2
  refine pX2_10 C hM hk0 eI2 gw_265 dX2_findDeltaNumbers_37 (fun H locs hM => ?_)
  refine lv_aload_n hx hb dX2_findDeltaNumbers_40 rfl (lv_at hl 0 rfl) ?_
  refine lv_aload_n hx hb dX2_findDeltaNumbers_41 rfl (lv_at hl 0 rfl) ?_
  refine gX2_5 C hM hk0 gw_255 dX2_findDeltaNumbers_42 ?_
  refine lv_iconst (v := (1 : Int32)) hx hb dX2_findDeltaNumbers_45 (by decide) ?_
  refine gialdX C hM (kX_2_5 hk0) h.1 dX2_findDeltaNumbers_46 ?_
  replace h := h.2
  refine lv_aload_n hx hb dX2_findDeltaNumbers_47 rfl (lv_at hl 0 rfl) ?_
  refine gX2_5 C hM hk0 gw_255 dX2_findDeltaNumbers_48 ?_
  refine lv_iconst (v := (2 : Int32)) hx hb dX2_findDeltaNumbers_51 (by decide) ?_
  refine gialdX C hM (kX_2_5 hk0) h.1 dX2_findDeltaNumbers_52 ?_
  replace h := h.2
  refine lv_isub hx hb dX2_findDeltaNumbers_53 ?_
  refine lv_i2l hx hb dX2_findDeltaNumbers_54 rfl ?_
  refine gq_ldc2 (v := (11547 : Int64)) C gw_482 dX2_findDeltaNumbers_55 ?_
  refine lv_lmul hx hb dX2_findDeltaNumbers_58 ?_
  refine gq_ldc2 (v := (10000 : Int64)) C gw_483 dX2_findDeltaNumbers_59 ?_
  refine lv_ldiv hx hb dX2_findDeltaNumbers_62 (by decide) ?_
  refine lv_l2i hx hb dX2_findDeltaNumbers_63 rfl ?_
  obtain ⟨I3, eI3⟩ : ∃ z : gx_M, z = up I2 a0 11 (Int64.toInt32 (((Int32.toInt64 ((I2 (a0 + 6) (1 : Int32).toNatClampNeg) - (I2 (a0 + 6) (2 : Int32).toNatClampNeg))) * (11547 : Int64)) / (10000 : Int64))) := ⟨_, rfl⟩
  replace h := h I3 eI3
  refine pX2_11 C hM hk0 eI3 gw_267 dX2_findDeltaNumbers_64 (fun H locs hM => ?_)
  exact gq_vret C hM h dX2_findDeltaNumbers_67
theorem k_X2_findDeltaNumbers : gx_kV yX2_findDeltaNumbers cX2_findDeltaNumbers 1 none 0 := ⟨⟨gw_481, gw_30, by decide, by decide, by decide +kernel⟩, gw_480, gw_7⟩
abbrev rm_X2_pullTo : Room := { frames := 1, cells := 0, slots := 0, locals := 22 }
set_option maxHeartbeats 4000000 in
set_option maxRecDepth 100000 in
theorem c_X2_pullTo (l : Launch) (L : gx_L) (a0 : Nat) (hk0 : kX a0 = 2) (p0 : Int32) (I : gx_M) (Q : Int64 → gx_M → Prop) (h : wp_X2_pullTo a0 p0 I Q) : Met l yX2_pullTo (gx_w yX2_pullTo cX2_pullTo 2 (some .long)) rm_X2_pullTo (va_Pc [.ref (gx_ad L a0), .int p0] (gx_U L 282 (cellX L I))) (va_Ql Q (fun I' t => gx_U L 282 (cellX L I') t) (gx_A L)) 0 0 (gx_A L) := by
  refine gq_enter (by decide) (Nat.le_of_ble_eq_true rfl) (fun p e s m below meth c ls C hM hl => ?_)
  have C : gx_C L 282 p s m _ meth c RX2 cX2_pullTo 2 (some .long) := C
  have hl : lv_has ls 2 [(0, .ref (gx_ad L a0)), (1, .int p0)] := hl
  have hx := C.1
  have hb := C.2.1
  obtain ⟨-, -, -, -, -, -, -, -, ⟨hZC, hTC, hZS, hTS⟩, -, -⟩ := id C
  unfold wp_X2_pullTo at h
  refine lv_iload_n hx hb dX2_pullTo_0 rfl (lv_at hl 1 rfl) ?_
  refine lv_iconst (v := (0 : Int32)) hx hb dX2_pullTo_1 (by decide) ?_
  refine lv_bipush (v := (23 : Int32)) hx hb dX2_pullTo_2 (by decide) ?_
  refine gq_backi C hM (gq_runSN (As := [.int p0, .int (0 : Int32), .int (23 : Int32)]) (rest := []) C hM (c_X7_isWithin l L p0 (0 : Int32) (23 : Int32) I _ h) k_X7_isWithin gw_496 rfl hl.1 rfl (Nat.le_of_ble_eq_true rfl) ⟨⟨rfl, rfl⟩, Nat.le_of_ble_eq_true rfl, Nat.le_of_ble_eq_true rfl⟩ ⟨Nat.zero_le _, Nat.zero_le _⟩ dX2_pullTo_4) (fun r1 I1 H locs h hM => ?_)
  obtain ⟨hz1, h⟩ := h
  refine lv_if_ne (tgt := 12) hx hb dX2_pullTo_7 (by decide) (fun hc => ?_) (fun hc => ?_)
  · replace h := h.2 hc
    refine lv_aload_n hx hb dX2_pullTo_12 rfl (lv_at hl 0 rfl) ?_
    refine gX2_9 C hM hk0 gw_263 dX2_pullTo_13 ?_
    refine lv_aload_n hx hb dX2_pullTo_16 rfl (lv_at hl 0 rfl) ?_
    refine gX2_10 C hM hk0 gw_265 dX2_pullTo_17 ?_
    refine lv_isub hx hb dX2_pullTo_20 ?_
    refine lv_i2l hx hb dX2_pullTo_21 rfl ?_
    refine gq_gets C hM hZC gw_497 dX2_pullTo_22 ?_
    refine lv_iload_n hx hb dX2_pullTo_25 rfl (lv_at hl 1 rfl) ?_
    refine gq_tald (f := gx_cos) C hM hTC h.1 dX2_pullTo_26 ?_
    replace h := h.2
    refine lv_i2l hx hb dX2_pullTo_27 rfl ?_
    refine lv_lmul hx hb dX2_pullTo_28 ?_
    refine lv_aload_n hx hb dX2_pullTo_29 rfl (lv_at hl 0 rfl) ?_
    refine gX2_11 C hM hk0 gw_267 dX2_pullTo_30 ?_
    refine lv_i2l hx hb dX2_pullTo_33 rfl ?_
    refine gq_gets C hM hZS gw_499 dX2_pullTo_34 ?_
    refine lv_iload_n hx hb dX2_pullTo_37 rfl (lv_at hl 1 rfl) ?_
    refine gq_tald (f := gx_sin) C hM hTS h.1 dX2_pullTo_38 ?_
    replace h := h.2
    refine lv_i2l hx hb dX2_pullTo_39 rfl ?_
    refine lv_lmul hx hb dX2_pullTo_40 ?_
    refine lv_ladd hx hb dX2_pullTo_41 ?_
    exact gq_lret C hM h dX2_pullTo_42
  · replace h := h.1 hc
    refine lv_lconst (v := (0 : Int64)) hx hb dX2_pullTo_10 (by decide) ?_
    exact gq_lret C hM h dX2_pullTo_11
theorem k_X2_pullTo : gx_kV yX2_pullTo cX2_pullTo 2 (some .long) 1 := ⟨⟨gw_495, gw_30, by decide, by decide, by decide +kernel⟩, gw_493, gw_494⟩
end
