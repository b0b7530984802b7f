section
variable {p : Program} {l : Launch} {e : Env} {s : State} {m : MethodId} {args : Array Value} {below : List Frame} {meth : Method} {c : Code} {L : gx_L}
abbrev rm_X8_in : Room := { frames := 0, cells := 0, slots := 0, locals := 0 }
set_option maxHeartbeats 4000000 in
set_option maxRecDepth 100000 in
theorem c_X8_in (l : Launch) (L : gx_L) (p0 : Int32) (p1 : Int32) (p2 : Int32) (I : gx_MM) (Q : Int32 → gx_MM → Prop) (h : wp_X8_in p0 p1 p2 I Q) : Met l yX8_in (gx_w yX8_in cX8_in 3 (some .boolean)) rm_X8_in (va_Pc [.int p0, .int p1, .int p2] (gx_U L 7 (cellM L I))) (va_Qi (fun r I' => r &&& 1 = r ∧ Q r I') (fun I' t => gx_U L 7 (cellM L I') t) (gx_A L)) 0 0 (gx_A L) := by
  refine gq_enter (by decide) (Nat.le_of_ble_eq_true rfl) (fun p e s m below meth c ls C hM hl => ?_)
  have C : gx_C L 7 p s m _ meth c RX8 cX8_in 3 (some .boolean) := C
  have hl : lv_has ls 3 [(0, .int p0), (1, .int p1), (2, .int p2)] := hl
  have hx := C.1
  have hb := C.2.1
  unfold wp_X8_in at h
  refine lv_iload_n hx hb dX8_in_0 rfl (lv_at hl 0 rfl) ?_
  refine lv_iload_n hx hb dX8_in_1 rfl (lv_at hl 1 rfl) ?_
  refine lv_icmp_lt (tgt := 14) hx hb dX8_in_2 (by decide) (fun hc => ?_) (fun hc => ?_)
  · replace h := h.1 hc
    refine lv_iconst (v := (0 : Int32)) hx hb dX8_in_14 (by decide) ?_
    exact gq_zret C hM ⟨rfl, h⟩ (rfl) dX8_in_15
  · replace h := h.2 hc
    refine lv_iload_n hx hb dX8_in_5 rfl (lv_at hl 0 rfl) ?_
    refine lv_iload_n hx hb dX8_in_6 rfl (lv_at hl 2 rfl) ?_
    refine lv_icmp_gt (tgt := 14) hx hb dX8_in_7 (by decide) (fun hc => ?_) (fun hc => ?_)
    · replace h := h.1 hc
      refine lv_iconst (v := (0 : Int32)) hx hb dX8_in_14 (by decide) ?_
      exact gq_zret C hM ⟨rfl, h⟩ (rfl) dX8_in_15
    · replace h := h.2 hc
      refine lv_iconst (v := (1 : Int32)) hx hb dX8_in_10 (by decide) ?_
      refine lv_goto (tgt := 15) hx hb dX8_in_11 (by decide) ?_
      exact gq_zret C hM ⟨rfl, h⟩ (rfl) dX8_in_15
theorem k_X8_in : gx_kS yX8_in cX8_in 3 (some .boolean) 3 := ⟨⟨gw_778, gw_67, by decide, by decide, by decide +kernel⟩, gw_777⟩
abbrev rm_X8_of : Room := { frames := 0, cells := 0, slots := 0, locals := 0 }
set_option maxHeartbeats 4000000 in
set_option maxRecDepth 100000 in
theorem c_X8_of (l : Launch) (L : gx_L) (a0 : Nat) (hk0 : kM a0 = 8) (p0 : Int32) (p1 : Int32) (I : gx_MM) (Q : Int32 → gx_MM → Prop) (h : wp_X8_of a0 p0 p1 I Q) : Met l yX8_of (gx_w yX8_of cX8_of 3 (some .int)) rm_X8_of (va_Pc [.ref (gx_ad L a0), .int p0, .int p1] (gx_U L 7 (cellM L I))) (va_Qi Q (fun I' t => gx_U L 7 (cellM L I') t) (gx_A L)) 0 0 (gx_A L) := by
  refine gq_enter (by decide) (Nat.le_of_ble_eq_true rfl) (fun p e s m below meth c ls C hM hl => ?_)
  have C : gx_C L 7 p s m _ meth c RX8 cX8_of 3 (some .int) := C
  have hl : lv_has ls 3 [(0, .ref (gx_ad L a0)), (1, .int p0), (2, .int p1)] := hl
  have hx := C.1
  have hb := C.2.1
  unfold wp_X8_of at h
  refine lv_aload_n hx hb dX8_of_0 rfl (lv_at hl 0 rfl) ?_
  refine gX8_0 C hM hk0 gw_719 dX8_of_1 ?_
  refine lv_bipush (v := (10 : Int32)) hx hb dX8_of_4 (by decide) ?_
  refine lv_bipush (v := (20 : Int32)) hx hb dX8_of_6 (by decide) ?_
  refine lv_iload_n hx hb dX8_of_8 rfl (lv_at hl 1 rfl) ?_
  refine lv_imul hx hb dX8_of_9 ?_
  refine lv_iadd hx hb dX8_of_10 ?_
  refine lv_iload_n hx hb dX8_of_11 rfl (lv_at hl 2 rfl) ?_
  refine lv_iadd hx hb dX8_of_12 ?_
  refine gialdM C hM (kM_8_0 hk0) h.1 dX8_of_13 ?_
  replace h := h.2
  exact gq_iret C hM h dX8_of_14
theorem k_X8_of : gx_kV yX8_of cX8_of 3 (some .int) 2 := ⟨⟨gw_792, gw_67, by decide, by decide, by decide +kernel⟩, gw_791, gw_23⟩
abbrev rm_X8_isAt : Room := { frames := 1, cells := 0, slots := 0, locals := 22 }
set_option maxHeartbeats 4000000 in
set_option maxRecDepth 100000 in
theorem tl_X8_isAt_2 (C : gx_C L 7 p s m args meth c RX8 cX8_isAt 3 (some .int)) {Q : Int32 → gx_MM → Prop} : ∀ (fu : Nat) (v0 : Nat) (v1 : Int32) (v2 : Int32) (hv0 : kM v0 = 8) (I : gx_MM) (H : Heap) (locs : List Loc) (ls : Array Slot), gx_S L 7 (cellM L I) s.heap H locs → lv_has ls 3 [(0, .ref (gx_ad L v0)), (1, .int v1), (2, .int v2)] → wl_X8_isAt_2 Q fu v0 v1 v2 I → W p l e rm_X8_isAt s m args below meth c H locs 0 0 (MQ below (va_Qi Q (fun I' t => gx_U L 7 (cellM L I') t) (gx_A L)) args s 0 0 (gx_A L)) (F0 m 2 ls []) := by
  have hx := C.1
  have hb := C.2.1
  intro fu
  induction fu with
  | zero => intros; rename_i h; exact False.elim h
  | succ fu ih =>
    intro v0 v1 v2 hv0 I H locs ls hM hl h
    rw [wl_X8_isAt_2] at h
    refine lv_iload_n hx hb dX8_isAt_2 rfl (lv_at hl 2 rfl) ?_
    refine lv_aload_n hx hb dX8_isAt_3 rfl (lv_at hl 0 rfl) ?_
    refine gX8_0 C hM hv0 gw_719 dX8_isAt_4 ?_
    refine lv_iconst (v := (0 : Int32)) hx hb dX8_isAt_7 (by decide) ?_
    refine gialdM C hM (kM_8_0 hv0) h.1 dX8_isAt_8 ?_
    replace h := h.2
    refine lv_icmp_ge (tgt := 30) hx hb dX8_isAt_9 (by decide) (fun hc => ?_) (fun hc => ?_)
    · replace h := h.1 hc
      refine gq_ldc (v := (-1000004 : Int32)) C gw_793 dX8_isAt_30 ?_
      exact gq_iret C hM h dX8_isAt_32
    · replace h := h.2 hc
      refine lv_aload_n hx hb dX8_isAt_12 rfl (lv_at hl 0 rfl) ?_
      refine lv_iload_n hx hb dX8_isAt_13 rfl (lv_at hl 2 rfl) ?_
      refine lv_iconst (v := (0 : Int32)) hx hb dX8_isAt_14 (by decide) ?_
      refine gq_backi C hM (gq_runV (As := [.int v2, .int (0 : Int32)]) (rest := []) C hM (kM_lt hv0 (by decide)) (cM_8 hv0) rfl (c_X8_of l L v0 hv0 v2 (0 : Int32) I _ h) k_X8_of gw_789 rfl hl.1 rfl (Nat.le_of_ble_eq_true rfl) ⟨⟨rfl, rfl⟩, Nat.le_of_ble_eq_true rfl, Nat.le_of_ble_eq_true rfl⟩ ⟨Nat.zero_le _, Nat.zero_le _⟩ dX8_isAt_15) (fun r1 I1 H locs h hM => ?_)
      refine lv_iload_n hx hb dX8_isAt_18 rfl (lv_at hl 1 rfl) ?_
      refine lv_icmp_ne (tgt := 24) hx hb dX8_isAt_19 (by decide) (fun hc => ?_) (fun hc => ?_)
      · replace h := h.2 hc
        obtain ⟨x1, ex1⟩ : ∃ z : Int32, z = v2 + (1 : Int32) := ⟨_, rfl⟩
        replace h := h x1 ex1
        refine lv_iinc (v := x1) (lv' := [(2, .int x1), (0, .ref (gx_ad L v0)), (1, .int v1)]) hx hb dX8_isAt_24 hl (k := 2) rfl (by rw [ex1]; rfl) (by decide) rfl (fun ls hl => ?_)
        refine lv_goto (tgt := 2) hx hb dX8_isAt_27 (by decide) ?_
        exact ih v0 v1 x1 (hv0) I1 _ _ _ hM (lv_sub hl [1, 2, 0] rfl) h
      · replace h := h.1 hc
        refine lv_iload_n hx hb dX8_isAt_22 rfl (lv_at hl 2 rfl) ?_
        exact gq_iret C hM h dX8_isAt_23
set_option maxHeartbeats 4000000 in
set_option maxRecDepth 100000 in
theorem c_X8_isAt (l : Launch) (L : gx_L) (a0 : Nat) (hk0 : kM a0 = 8) (p0 : Int32) (I : gx_MM) (Q : Int32 → gx_MM → Prop) (h : wp_X8_isAt a0 p0 I Q) : Met l yX8_isAt (gx_w yX8_isAt cX8_isAt 3 (some .int)) rm_X8_isAt (va_Pc [.ref (gx_ad L a0), .int p0] (gx_U L 7 (cellM L I))) (va_Qi Q (fun I' t => gx_U L 7 (cellM L I') t) (gx_A L)) 0 0 (gx_A L) := by
  refine gq_enter (by decide) (Nat.le_of_ble_eq_true rfl) (fun p e s m below meth c ls C hM hl => ?_)
  have C : gx_C L 7 p s m _ meth c RX8 cX8_isAt 3 (some .int) := C
  have hl : lv_has ls 3 [(0, .ref (gx_ad L a0)), (1, .int p0)] := hl
  have hx := C.1
  have hb := C.2.1
  unfold wp_X8_isAt at h
  refine lv_iconst (v := (0 : Int32)) hx hb dX8_isAt_0 (by decide) ?_
  refine lv_istore_n (lv' := [(2, .int (0 : Int32)), (0, .ref (gx_ad L a0)), (1, .int p0)]) hx hb dX8_isAt_1 rfl hl (by decide) rfl (fun ls hl => ?_)
  obtain ⟨fu, h⟩ := h
  exact tl_X8_isAt_2 C fu a0 p0 (0 : Int32) (hk0) I _ _ _ hM (lv_sub hl [1, 2, 0] rfl) h
theorem k_X8_isAt : gx_kV yX8_isAt cX8_isAt 3 (some .int) 1 := ⟨⟨gw_788, gw_67, by decide, by decide, by decide +kernel⟩, gw_787, gw_22⟩
abbrev rm_X8_put : Room := { frames := 0, cells := 0, slots := 0, locals := 0 }
set_option maxHeartbeats 4000000 in
set_option maxRecDepth 100000 in
theorem c_X8_put (l : Launch) (L : gx_L) (a0 : Nat) (hk0 : kM a0 = 8) (p0 : Int32) (p1 : Int32) (p2 : Int32) (I : gx_MM) (Q : gx_MM → Prop) (h : wp_X8_put a0 p0 p1 p2 I Q) : Met l yX8_put (gx_w yX8_put cX8_put 4 none) rm_X8_put (va_Pc [.ref (gx_ad L a0), .int p0, .int p1, .int p2] (gx_U L 7 (cellM L I))) (va_Qv Q (fun I' t => gx_U L 7 (cellM L I') t) (gx_A L)) 0 0 (gx_A L) := by
  refine gq_enter (by decide) (Nat.le_of_ble_eq_true rfl) (fun p e s m below meth c ls C hM hl => ?_)
  have C : gx_C L 7 p s m _ meth c RX8 cX8_put 4 none := C
  have hl : lv_has ls 4 [(0, .ref (gx_ad L a0)), (1, .int p0), (2, .int p1), (3, .int p2)] := hl
  have hx := C.1
  have hb := C.2.1
  unfold wp_X8_put at h
  refine lv_aload_n hx hb dX8_put_0 rfl (lv_at hl 0 rfl) ?_
  refine gX8_0 C hM hk0 gw_719 dX8_put_1 ?_
  refine lv_bipush (v := (10 : Int32)) hx hb dX8_put_4 (by decide) ?_
  refine lv_bipush (v := (20 : Int32)) hx hb dX8_put_6 (by decide) ?_
  refine lv_iload_n hx hb dX8_put_8 rfl (lv_at hl 1 rfl) ?_
  refine lv_imul hx hb dX8_put_9 ?_
  refine lv_iadd hx hb dX8_put_10 ?_
  refine lv_iload_n hx hb dX8_put_11 rfl (lv_at hl 2 rfl) ?_
  refine lv_iadd hx hb dX8_put_12 ?_
  refine lv_iload_n hx hb dX8_put_13 rfl (lv_at hl 3 rfl) ?_
  have hi := h.1
  replace h := h.2
  obtain ⟨I1, eI1⟩ : ∃ z : gx_MM, z = um I (a0 + 1) (((10 : Int32) + ((20 : Int32) * p0)) + p1).toNatClampNeg p2 := ⟨_, rfl⟩
  replace h := h I1 eI1
  refine giastM C hM (kM_8_0 hk0) hi eI1 dX8_put_14 (fun H locs hM => ?_)
  exact gq_vret C hM h dX8_put_15
theorem k_X8_put : gx_kV yX8_put cX8_put 4 none 3 := ⟨⟨gw_801, gw_67, by decide, by decide, by decide +kernel⟩, gw_800, gw_25⟩
abbrev rm_X8_putGauge : Room := { frames := 1, cells := 0, slots := 0, locals := 23 }
set_option maxHeartbeats 4000000 in
set_option maxRecDepth 100000 in
theorem c_X8_putGauge (l : Launch) (L : gx_L) (a0 : Nat) (hk0 : kM a0 = 8) (p0 : Int32) (p1 : Int32) (p2 : Int32) (p3 : Int32) (I : gx_MM) (Q : gx_MM → Prop) (h : wp_X8_putGauge a0 p0 p1 p2 p3 I Q) : Met l yX8_putGauge (gx_w yX8_putGauge cX8_putGauge 5 none) rm_X8_putGauge (va_Pc [.ref (gx_ad L a0), .int p0, .int p1, .int p2, .int p3] (gx_U L 7 (cellM L I))) (va_Qv Q (fun I' t => gx_U L 7 (cellM L I') t) (gx_A L)) 0 0 (gx_A L) := by
  refine gq_enter (by decide) (Nat.le_of_ble_eq_true rfl) (fun p e s m below meth c ls C hM hl => ?_)
  have C : gx_C L 7 p s m _ meth c RX8 cX8_putGauge 5 none := C
  have hl : lv_has ls 5 [(0, .ref (gx_ad L a0)), (1, .int p0), (2, .int p1), (3, .int p2), (4, .int p3)] := hl
  have hx := C.1
  have hb := C.2.1
  unfold wp_X8_putGauge at h
  refine lv_aload_n hx hb dX8_putGauge_0 rfl (lv_at hl 0 rfl) ?_
  refine lv_iload_n hx hb dX8_putGauge_1 rfl (lv_at hl 1 rfl) ?_
  refine lv_bipush (v := (9 : Int32)) hx hb dX8_putGauge_2 (by decide) ?_
  refine lv_iconst (v := (3 : Int32)) hx hb dX8_putGauge_4 (by decide) ?_
  refine lv_iload_n hx hb dX8_putGauge_5 rfl (lv_at hl 2 rfl) ?_
  refine lv_imul hx hb dX8_putGauge_6 ?_
  refine lv_iadd hx hb dX8_putGauge_7 ?_
  refine lv_iload_n hx hb dX8_putGauge_8 rfl (lv_at hl 3 rfl) ?_
  refine lv_iadd hx hb dX8_putGauge_9 ?_
  refine lv_iload hx hb dX8_putGauge_10 (lv_at hl 4 rfl) ?_
  refine gq_backv C hM (gq_runV (As := [.int p0, .int (((9 : Int32) + ((3 : Int32) * p1)) + p2), .int p3]) (rest := []) C hM (kM_lt hk0 (by decide)) (cM_8 hk0) rfl (c_X8_put l L a0 hk0 p0 (((9 : Int32) + ((3 : Int32) * p1)) + p2) p3 I _ h) k_X8_put gw_798 rfl hl.1 rfl (Nat.le_of_ble_eq_true rfl) ⟨⟨rfl, rfl⟩, Nat.le_of_ble_eq_true rfl, Nat.le_of_ble_eq_true rfl⟩ ⟨Nat.zero_le _, Nat.zero_le _⟩ dX8_putGauge_12) (fun I1 H locs h hM => ?_)
  exact gq_vret C hM h dX8_putGauge_15
theorem k_X8_putGauge : gx_kV yX8_putGauge cX8_putGauge 5 none 4 := ⟨⟨gw_805, gw_67, by decide, by decide, by decide +kernel⟩, gw_804, gw_26⟩
abbrev rm_X8_refuse : Room := { frames := 0, cells := 0, slots := 0, locals := 0 }
set_option maxHeartbeats 4000000 in
set_option maxRecDepth 100000 in
theorem c_X8_refuse (l : Launch) (L : gx_L) (a0 : Nat) (hk0 : kM a0 = 8) (p0 : Int32) (I : gx_MM) (Q : Int32 → gx_MM → Prop) (h : wp_X8_refuse a0 p0 I Q) : Met l yX8_refuse (gx_w yX8_refuse cX8_refuse 2 (some .int)) rm_X8_refuse (va_Pc [.ref (gx_ad L a0), .int p0] (gx_U L 7 (cellM L I))) (va_Qi Q (fun I' t => gx_U L 7 (cellM L I') t) (gx_A L)) 0 0 (gx_A L) := by
  refine gq_enter (by decide) (Nat.le_of_ble_eq_true rfl) (fun p e s m below meth c ls C hM hl => ?_)
  have C : gx_C L 7 p s m _ meth c RX8 cX8_refuse 2 (some .int) := C
  have hl : lv_has ls 2 [(0, .ref (gx_ad L a0)), (1, .int p0)] := hl
  have hx := C.1
  have hb := C.2.1
  unfold wp_X8_refuse at h
  refine lv_aload_n hx hb dX8_refuse_0 rfl (lv_at hl 0 rfl) ?_
  refine lv_iload_n hx hb dX8_refuse_1 rfl (lv_at hl 1 rfl) ?_
  obtain ⟨I1, eI1⟩ : ∃ z : gx_MM, z = um I a0 5 p0 := ⟨_, rfl⟩
  replace h := h I1 eI1
  refine pX8_5 C hM hk0 eI1 gw_724 dX8_refuse_2 (fun H locs hM => ?_)
  refine gq_ldc (v := (-1000003 : Int32)) C gw_784 dX8_refuse_5 ?_
  exact gq_iret C hM h dX8_refuse_7
theorem k_X8_refuse : gx_kV yX8_refuse cX8_refuse 2 (some .int) 1 := ⟨⟨gw_783, gw_67, by decide, by decide, by decide +kernel⟩, gw_782, gw_21⟩
abbrev rm_X8_save : Room := { frames := 0, cells := 0, slots := 0, locals := 0 }
set_option maxHeartbeats 4000000 in
set_option maxRecDepth 100000 in
theorem tl_X8_save_51 (C : gx_C L 7 p s m args meth c RX8 cX8_save 2 none) {Q : gx_MM → Prop} : ∀ (fu : Nat) (v0 : Nat) (v1 : Int32) (hv0 : kM v0 = 8) (I : gx_MM) (H : Heap) (locs : List Loc) (ls : Array Slot), gx_S L 7 (cellM L I) s.heap H locs → lv_has ls 2 [(0, .ref (gx_ad L v0)), (1, .int v1)] → wl_X8_save_51 Q fu v0 v1 I → W p l e rm_X8_save s m args below meth c H locs 0 0 (MQ below (va_Qv Q (fun I' t => gx_U L 7 (cellM L I') t) (gx_A L)) args s 0 0 (gx_A L)) (F0 m 51 ls []) := by
  have hx := C.1
  have hb := C.2.1
  intro fu
  induction fu with
  | zero => intros; rename_i h; exact False.elim h
  | succ fu ih =>
    intro v0 v1 hv0 I H locs ls hM hl h
    rw [wl_X8_save_51] at h
    refine lv_iload_n hx hb dX8_save_51 rfl (lv_at hl 1 rfl) ?_
    refine lv_sipush (v := (298 : Int32)) hx hb dX8_save_52 (by decide) ?_
    refine lv_icmp_ge (tgt := 85) hx hb dX8_save_55 (by decide) (fun hc => ?_) (fun hc => ?_)
    · replace h := h.1 hc
      refine lv_aload_n hx hb dX8_save_85 rfl (lv_at hl 0 rfl) ?_
      refine lv_dup hx hb dX8_save_86 rfl ?_
      refine gX8_2 C hM hv0 gw_721 dX8_save_87 ?_
      refine lv_iconst (v := (1 : Int32)) hx hb dX8_save_90 (by decide) ?_
      refine lv_iadd hx hb dX8_save_91 ?_
      obtain ⟨I1, eI1⟩ : ∃ z : gx_MM, z = um I v0 2 ((I.1 v0 2) + (1 : Int32)) := ⟨_, rfl⟩
      replace h := h I1 eI1
      refine pX8_2 C hM hv0 eI1 gw_721 dX8_save_92 (fun H locs hM => ?_)
      exact gq_vret C hM h dX8_save_95
    · replace h := h.2 hc
      refine lv_aload_n hx hb dX8_save_58 rfl (lv_at hl 0 rfl) ?_
      refine gX8_1 C hM hv0 gw_720 dX8_save_59 ?_
      refine lv_sipush (v := (298 : Int32)) hx hb dX8_save_62 (by decide) ?_
      refine lv_aload_n hx hb dX8_save_65 rfl (lv_at hl 0 rfl) ?_
      refine gX8_2 C hM hv0 gw_721 dX8_save_66 ?_
      refine lv_imul hx hb dX8_save_69 ?_
      refine lv_iload_n hx hb dX8_save_70 rfl (lv_at hl 1 rfl) ?_
      refine lv_iadd hx hb dX8_save_71 ?_
      refine lv_aload_n hx hb dX8_save_72 rfl (lv_at hl 0 rfl) ?_
      refine gX8_0 C hM hv0 gw_719 dX8_save_73 ?_
      refine lv_iload_n hx hb dX8_save_76 rfl (lv_at hl 1 rfl) ?_
      refine gialdM C hM (kM_8_0 hv0) h.1 dX8_save_77 ?_
      replace h := h.2
      have hi := h.1
      replace h := h.2
      obtain ⟨I2, eI2⟩ : ∃ z : gx_MM, z = um I (v0 + 2) (((298 : Int32) * (I.1 v0 2)) + v1).toNatClampNeg (I.1 (v0 + 1) v1.toNatClampNeg) := ⟨_, rfl⟩
      replace h := h I2 eI2
      refine giastM C hM (kM_8_1 hv0) hi eI2 dX8_save_78 (fun H locs hM => ?_)
      obtain ⟨x1, ex1⟩ : ∃ z : Int32, z = v1 + (1 : Int32) := ⟨_, rfl⟩
      replace h := h x1 ex1
      refine lv_iinc (v := x1) (lv' := [(1, .int x1), (0, .ref (gx_ad L v0))]) hx hb dX8_save_79 hl (k := 1) rfl (by rw [ex1]; rfl) (by decide) rfl (fun ls hl => ?_)
      refine lv_goto (tgt := 51) hx hb dX8_save_82 (by decide) ?_
      exact ih v0 x1 (hv0) I2 _ _ _ hM (lv_sub hl [1, 0] rfl) h
set_option maxHeartbeats 4000000 in
set_option maxRecDepth 100000 in
theorem tj_X8_save_49 (C : gx_C L 7 p s m args meth c RX8 cX8_save 2 none) {Q : gx_MM → Prop} : ∀ (v0 : Nat) (hv0 : kM v0 = 8) (I : gx_MM) (H : Heap) (locs : List Loc) (ls : Array Slot), gx_S L 7 (cellM L I) s.heap H locs → lv_has ls 2 [(0, .ref (gx_ad L v0))] → wj_X8_save_49 Q v0 I → W p l e rm_X8_save s m args below meth c H locs 0 0 (MQ below (va_Qv Q (fun I' t => gx_U L 7 (cellM L I') t) (gx_A L)) args s 0 0 (gx_A L)) (F0 m 49 ls []) := by
  have hx := C.1
  have hb := C.2.1
  intro v0 hv0 I H locs ls hM hl h
  unfold wj_X8_save_49 at h
  refine lv_iconst (v := (0 : Int32)) hx hb dX8_save_49 (by decide) ?_
  refine lv_istore_n (lv' := [(1, .int (0 : Int32)), (0, .ref (gx_ad L v0))]) hx hb dX8_save_50 rfl hl (by decide) rfl (fun ls hl => ?_)
  obtain ⟨fu, h⟩ := h
  exact tl_X8_save_51 C fu v0 (0 : Int32) (hv0) I _ _ _ hM (lv_sub hl [1, 0] rfl) h
set_option maxHeartbeats 4000000 in
set_option maxRecDepth 100000 in
theorem tl_X8_save_10 (C : gx_C L 7 p s m args meth c RX8 cX8_save 2 none) {Q : gx_MM → Prop} : ∀ (fu : Nat) (v0 : Nat) (v1 : Int32) (hv0 : kM v0 = 8) (I : gx_MM) (H : Heap) (locs : List Loc) (ls : Array Slot), gx_S L 7 (cellM L I) s.heap H locs → lv_has ls 2 [(0, .ref (gx_ad L v0)), (1, .int v1)] → wl_X8_save_10 Q fu v0 v1 I → W p l e rm_X8_save s m args below meth c H locs 0 0 (MQ below (va_Qv Q (fun I' t => gx_U L 7 (cellM L I') t) (gx_A L)) args s 0 0 (gx_A L)) (F0 m 10 ls []) := by
  have hx := C.1
  have hb := C.2.1
  intro fu
  induction fu with
  | zero => intros; rename_i h; exact False.elim h
  | succ fu ih =>
    intro v0 v1 hv0 I H locs ls hM hl h
    rw [wl_X8_save_10] at h
    refine lv_iload_n hx hb dX8_save_10 rfl (lv_at hl 1 rfl) ?_
    refine lv_sipush (v := (1192 : Int32)) hx hb dX8_save_11 (by decide) ?_
    refine lv_icmp_ge (tgt := 39) hx hb dX8_save_14 (by decide) (fun hc => ?_) (fun hc => ?_)
    · replace h := h.1 hc
      refine lv_aload_n hx hb dX8_save_39 rfl (lv_at hl 0 rfl) ?_
      refine lv_dup hx hb dX8_save_40 rfl ?_
      refine gX8_2 C hM hv0 gw_721 dX8_save_41 ?_
      refine lv_iconst (v := (1 : Int32)) hx hb dX8_save_44 (by decide) ?_
      refine lv_isub hx hb dX8_save_45 ?_
      obtain ⟨I1, eI1⟩ : ∃ z : gx_MM, z = um I v0 2 ((I.1 v0 2) - (1 : Int32)) := ⟨_, rfl⟩
      replace h := h I1 eI1
      refine pX8_2 C hM hv0 eI1 gw_721 dX8_save_46 (fun H locs hM => ?_)
      exact tj_X8_save_49 C v0 (hv0) I1 _ _ _ hM (lv_sub hl [0] rfl) h
    · replace h := h.2 hc
      refine lv_aload_n hx hb dX8_save_17 rfl (lv_at hl 0 rfl) ?_
      refine gX8_1 C hM hv0 gw_720 dX8_save_18 ?_
      refine lv_iload_n hx hb dX8_save_21 rfl (lv_at hl 1 rfl) ?_
      refine lv_aload_n hx hb dX8_save_22 rfl (lv_at hl 0 rfl) ?_
      refine gX8_1 C hM hv0 gw_720 dX8_save_23 ?_
      refine lv_iload_n hx hb dX8_save_26 rfl (lv_at hl 1 rfl) ?_
      refine lv_sipush (v := (298 : Int32)) hx hb dX8_save_27 (by decide) ?_
      refine lv_iadd hx hb dX8_save_30 ?_
      refine gialdM C hM (kM_8_1 hv0) h.1 dX8_save_31 ?_
      replace h := h.2
      have hi := h.1
      replace h := h.2
      obtain ⟨I2, eI2⟩ : ∃ z : gx_MM, z = um I (v0 + 2) v1.toNatClampNeg (I.1 (v0 + 2) (v1 + (298 : Int32)).toNatClampNeg) := ⟨_, rfl⟩
      replace h := h I2 eI2
      refine giastM C hM (kM_8_1 hv0) hi eI2 dX8_save_32 (fun H locs hM => ?_)
      obtain ⟨x1, ex1⟩ : ∃ z : Int32, z = v1 + (1 : Int32) := ⟨_, rfl⟩
      replace h := h x1 ex1
      refine lv_iinc (v := x1) (lv' := [(1, .int x1), (0, .ref (gx_ad L v0))]) hx hb dX8_save_33 hl (k := 1) rfl (by rw [ex1]; rfl) (by decide) rfl (fun ls hl => ?_)
      refine lv_goto (tgt := 10) hx hb dX8_save_36 (by decide) ?_
      exact ih v0 x1 (hv0) I2 _ _ _ hM (lv_sub hl [1, 0] rfl) h
set_option maxHeartbeats 4000000 in
set_option maxRecDepth 100000 in
theorem c_X8_save (l : Launch) (L : gx_L) (a0 : Nat) (hk0 : kM a0 = 8) (I : gx_MM) (Q : gx_MM → Prop) (h : wp_X8_save a0 I Q) : Met l yX8_save (gx_w yX8_save cX8_save 2 none) rm_X8_save (va_Pc [.ref (gx_ad L a0)] (gx_U L 7 (cellM L I))) (va_Qv Q (fun I' t => gx_U L 7 (cellM L I') t) (gx_A L)) 0 0 (gx_A L) := by
  refine gq_enter (by decide) (Nat.le_of_ble_eq_true rfl) (fun p e s m below meth c ls C hM hl => ?_)
  have C : gx_C L 7 p s m _ meth c RX8 cX8_save 2 none := C
  have hl : lv_has ls 2 [(0, .ref (gx_ad L a0))] := hl
  have hx := C.1
  have hb := C.2.1
  unfold wp_X8_save at h
  refine lv_aload_n hx hb dX8_save_0 rfl (lv_at hl 0 rfl) ?_
  refine gX8_2 C hM hk0 gw_721 dX8_save_1 ?_
  refine lv_iconst (v := (5 : Int32)) hx hb dX8_save_4 (by decide) ?_
  refine lv_icmp_ne (tgt := 49) hx hb dX8_save_5 (by decide) (fun hc => ?_) (fun hc => ?_)
  · replace h := h.2 hc
    exact tj_X8_save_49 C a0 (hk0) I _ _ _ hM (lv_sub hl [0] rfl) h
  · replace h := h.1 hc
    refine lv_iconst (v := (0 : Int32)) hx hb dX8_save_8 (by decide) ?_
    refine lv_istore_n (lv' := [(1, .int (0 : Int32)), (0, .ref (gx_ad L a0))]) hx hb dX8_save_9 rfl hl (by decide) rfl (fun ls hl => ?_)
    obtain ⟨fu, h⟩ := h
    exact tl_X8_save_10 C fu a0 (0 : Int32) (hk0) I _ _ _ hM (lv_sub hl [1, 0] rfl) h
theorem k_X8_save : gx_kV yX8_save cX8_save 2 none 0 := ⟨⟨gw_797, gw_67, by decide, by decide, by decide +kernel⟩, gw_796, gw_24⟩
abbrev rm_X8_addRosette : Room := { frames := 2, cells := 0, slots := 0, locals := 47 }
set_option maxHeartbeats 4000000 in
set_option maxRecDepth 100000 in
theorem tl_X8_addRosette_166 (C : gx_C L 7 p s m args meth c RX8 cX8_addRosette 7 (some .int)) {Q : Int32 → gx_MM → Prop} : ∀ (fu : Nat) (v0 : Nat) (v5 : Int32) (v6 : Int32) (hv0 : kM v0 = 8) (I : gx_MM) (H : Heap) (locs : List Loc) (ls : Array Slot), gx_S L 7 (cellM L I) s.heap H locs → lv_has ls 7 [(0, .ref (gx_ad L v0)), (5, .int v5), (6, .int v6)] → wl_X8_addRosette_166 Q fu v0 v5 v6 I → W p l e rm_X8_addRosette s m args below meth c H locs 0 0 (MQ below (va_Qi Q (fun I' t => gx_U L 7 (cellM L I') t) (gx_A L)) args s 0 0 (gx_A L)) (F0 m 166 ls []) := by
  have hx := C.1
  have hb := C.2.1
  intro fu
  induction fu with
  | zero => intros; rename_i h; exact False.elim h
  | succ fu ih =>
    intro v0 v5 v6 hv0 I H locs ls hM hl h
    rw [wl_X8_addRosette_166] at h
    refine lv_iload hx hb dX8_addRosette_166 (lv_at hl 2 rfl) ?_
    refine lv_iconst (v := (3 : Int32)) hx hb dX8_addRosette_168 (by decide) ?_
    refine lv_icmp_ge (tgt := 190) hx hb dX8_addRosette_169 (by decide) (fun hc => ?_) (fun hc => ?_)
    · replace h := h.1 hc
      refine lv_iload hx hb dX8_addRosette_190 (lv_at hl 1 rfl) ?_
      exact gq_iret C hM h dX8_addRosette_192
    · replace h := h.2 hc
      refine lv_aload_n hx hb dX8_addRosette_172 rfl (lv_at hl 0 rfl) ?_
      refine lv_iload hx hb dX8_addRosette_173 (lv_at hl 1 rfl) ?_
      refine lv_iload hx hb dX8_addRosette_175 (lv_at hl 2 rfl) ?_
      refine lv_iconst (v := (2 : Int32)) hx hb dX8_addRosette_177 (by decide) ?_
      refine lv_sipush (v := (1000 : Int32)) hx hb dX8_addRosette_178 (by decide) ?_
      refine gq_backv C hM (gq_runV (As := [.int v5, .int v6, .int (2 : Int32), .int (1000 : Int32)]) (rest := []) C hM (kM_lt hv0 (by decide)) (cM_8 hv0) rfl (c_X8_putGauge l L v0 hv0 v5 v6 (2 : Int32) (1000 : Int32) I _ h) k_X8_putGauge gw_802 rfl hl.1 rfl (Nat.le_of_ble_eq_true rfl) ⟨⟨rfl, rfl⟩, Nat.le_of_ble_eq_true rfl, Nat.le_of_ble_eq_true rfl⟩ ⟨Nat.zero_le _, Nat.zero_le _⟩ dX8_addRosette_181) (fun I1 H locs h hM => ?_)
      obtain ⟨x1, ex1⟩ : ∃ z : Int32, z = v6 + (1 : Int32) := ⟨_, rfl⟩
      replace h := h x1 ex1
      refine lv_iinc (v := x1) (lv' := [(6, .int x1), (0, .ref (gx_ad L v0)), (5, .int v5)]) hx hb dX8_addRosette_184 hl (k := 2) rfl (by rw [ex1]; rfl) (by decide) rfl (fun ls hl => ?_)
      refine lv_goto (tgt := 166) hx hb dX8_addRosette_187 (by decide) ?_
      exact ih v0 v5 x1 (hv0) I1 _ _ _ hM (lv_sub hl [1, 2, 0] rfl) h
set_option maxHeartbeats 4000000 in
set_option maxRecDepth 100000 in
theorem tj_X8_addRosette_143 (C : gx_C L 7 p s m args meth c RX8 cX8_addRosette 7 (some .int)) {Q : Int32 → gx_MM → Prop} : ∀ (v0 : Nat) (v3 : Int32) (v4 : Int32) (v5 : Int32) (u0 : Int32) (u1 : Int32) (u2 : Int32) (u3 : Nat) (hv0 : kM v0 = 8) (hu3 : kM u3 = 8) (I : gx_MM) (H : Heap) (locs : List Loc) (ls : Array Slot), gx_S L 7 (cellM L I) s.heap H locs → lv_has ls 7 [(0, .ref (gx_ad L v0)), (3, .int v3), (4, .int v4), (5, .int v5)] → wj_X8_addRosette_143 Q v0 v3 v4 v5 u0 u1 u2 u3 I → W p l e rm_X8_addRosette s m args below meth c H locs 0 0 (MQ below (va_Qi Q (fun I' t => gx_U L 7 (cellM L I') t) (gx_A L)) args s 0 0 (gx_A L)) (F0 m 143 ls [.int u0, .int u1, .int u2, .ref (gx_ad L u3)]) := by
  have hx := C.1
  have hb := C.2.1
  intro v0 v3 v4 v5 u0 u1 u2 u3 hv0 hu3 I H locs ls hM hl h
  unfold wj_X8_addRosette_143 at h
  refine gq_backv C hM (gq_runV (As := [.int u2, .int u1, .int u0]) (rest := []) C hM (kM_lt hu3 (by decide)) (cM_8 hu3) rfl (c_X8_put l L u3 hu3 u2 u1 u0 I _ h) k_X8_put gw_798 rfl hl.1 rfl (Nat.le_of_ble_eq_true rfl) ⟨⟨rfl, rfl⟩, Nat.le_of_ble_eq_true rfl, Nat.le_of_ble_eq_true rfl⟩ ⟨Nat.zero_le _, Nat.zero_le _⟩ dX8_addRosette_143) (fun I1 H locs h hM => ?_)
  refine lv_aload_n hx hb dX8_addRosette_146 rfl (lv_at hl 0 rfl) ?_
  refine lv_iload hx hb dX8_addRosette_147 (lv_at hl 3 rfl) ?_
  refine lv_iconst (v := (2 : Int32)) hx hb dX8_addRosette_149 (by decide) ?_
  refine lv_iload_n hx hb dX8_addRosette_150 rfl (lv_at hl 1 rfl) ?_
  refine gq_backv C hM (gq_runV (As := [.int v5, .int (2 : Int32), .int v3]) (rest := []) C hM (kM_lt hv0 (by decide)) (cM_8 hv0) rfl (c_X8_put l L v0 hv0 v5 (2 : Int32) v3 I1 _ h) k_X8_put gw_798 rfl hl.1 rfl (Nat.le_of_ble_eq_true rfl) ⟨⟨rfl, rfl⟩, Nat.le_of_ble_eq_true rfl, Nat.le_of_ble_eq_true rfl⟩ ⟨Nat.zero_le _, Nat.zero_le _⟩ dX8_addRosette_151) (fun I2 H locs h hM => ?_)
  refine lv_aload_n hx hb dX8_addRosette_154 rfl (lv_at hl 0 rfl) ?_
  refine lv_iload hx hb dX8_addRosette_155 (lv_at hl 3 rfl) ?_
  refine lv_iconst (v := (3 : Int32)) hx hb dX8_addRosette_157 (by decide) ?_
  refine lv_iload hx hb dX8_addRosette_158 (lv_at hl 2 rfl) ?_
  refine gq_backv C hM (gq_runV (As := [.int v5, .int (3 : Int32), .int v4]) (rest := []) C hM (kM_lt hv0 (by decide)) (cM_8 hv0) rfl (c_X8_put l L v0 hv0 v5 (3 : Int32) v4 I2 _ h) k_X8_put gw_798 rfl hl.1 rfl (Nat.le_of_ble_eq_true rfl) ⟨⟨rfl, rfl⟩, Nat.le_of_ble_eq_true rfl, Nat.le_of_ble_eq_true rfl⟩ ⟨Nat.zero_le _, Nat.zero_le _⟩ dX8_addRosette_160) (fun I3 H locs h hM => ?_)
  refine lv_iconst (v := (0 : Int32)) hx hb dX8_addRosette_163 (by decide) ?_
  refine lv_istore (lv' := [(6, .int (0 : Int32)), (0, .ref (gx_ad L v0)), (3, .int v3), (4, .int v4), (5, .int v5)]) hx hb dX8_addRosette_164 hl (by decide) rfl (fun ls hl => ?_)
  obtain ⟨fu, h⟩ := h
  exact tl_X8_addRosette_166 C fu v0 v5 (0 : Int32) (hv0) I3 _ _ _ hM (lv_sub hl [1, 4, 0] rfl) h
set_option maxHeartbeats 4000000 in
set_option maxRecDepth 100000 in
theorem tl_X8_addRosette_100 (C : gx_C L 7 p s m args meth c RX8 cX8_addRosette 7 (some .int)) {Q : Int32 → gx_MM → Prop} : ∀ (fu : Nat) (v0 : Nat) (v1 : Int32) (v2 : Int32) (v3 : Int32) (v4 : Int32) (v5 : Int32) (v6 : Int32) (hv0 : kM v0 = 8) (I : gx_MM) (H : Heap) (locs : List Loc) (ls : Array Slot), gx_S L 7 (cellM L I) s.heap H locs → lv_has ls 7 [(0, .ref (gx_ad L v0)), (1, .int v1), (2, .int v2), (3, .int v3), (4, .int v4), (5, .int v5), (6, .int v6)] → wl_X8_addRosette_100 Q fu v0 v1 v2 v3 v4 v5 v6 I → W p l e rm_X8_addRosette s m args below meth c H locs 0 0 (MQ below (va_Qi Q (fun I' t => gx_U L 7 (cellM L I') t) (gx_A L)) args s 0 0 (gx_A L)) (F0 m 100 ls []) := by
  have hx := C.1
  have hb := C.2.1
  intro fu
  induction fu with
  | zero => intros; rename_i h; exact False.elim h
  | succ fu ih =>
    intro v0 v1 v2 v3 v4 v5 v6 hv0 I H locs ls hM hl h
    rw [wl_X8_addRosette_100] at h
    refine lv_iload hx hb dX8_addRosette_100 (lv_at hl 6 rfl) ?_
    refine lv_bipush (v := (20 : Int32)) hx hb dX8_addRosette_102 (by decide) ?_
    refine lv_icmp_ge (tgt := 122) hx hb dX8_addRosette_104 (by decide) (fun hc => ?_) (fun hc => ?_)
    · replace h := h.1 hc
      refine lv_aload_n hx hb dX8_addRosette_122 rfl (lv_at hl 0 rfl) ?_
      refine lv_iload hx hb dX8_addRosette_123 (lv_at hl 5 rfl) ?_
      refine lv_iconst (v := (0 : Int32)) hx hb dX8_addRosette_125 (by decide) ?_
      refine lv_iload_n hx hb dX8_addRosette_126 rfl (lv_at hl 1 rfl) ?_
      refine gq_backv C hM (gq_runV (As := [.int v5, .int (0 : Int32), .int v1]) (rest := []) C hM (kM_lt hv0 (by decide)) (cM_8 hv0) rfl (c_X8_put l L v0 hv0 v5 (0 : Int32) v1 I _ h) k_X8_put gw_798 rfl hl.1 rfl (Nat.le_of_ble_eq_true rfl) ⟨⟨rfl, rfl⟩, Nat.le_of_ble_eq_true rfl, Nat.le_of_ble_eq_true rfl⟩ ⟨Nat.zero_le _, Nat.zero_le _⟩ dX8_addRosette_127) (fun I1 H locs h hM => ?_)
      refine lv_aload_n hx hb dX8_addRosette_130 rfl (lv_at hl 0 rfl) ?_
      refine lv_iload hx hb dX8_addRosette_131 (lv_at hl 5 rfl) ?_
      refine lv_iconst (v := (1 : Int32)) hx hb dX8_addRosette_133 (by decide) ?_
      refine lv_iload_n hx hb dX8_addRosette_134 rfl (lv_at hl 2 rfl) ?_
      refine lv_if_eq (tgt := 142) hx hb dX8_addRosette_135 (by decide) (fun hc => ?_) (fun hc => ?_)
      · replace h := h.1 hc
        refine lv_iconst (v := (0 : Int32)) hx hb dX8_addRosette_142 (by decide) ?_
        exact tj_X8_addRosette_143 C v0 v3 v4 v5 (0 : Int32) (1 : Int32) v5 v0 (hv0) (hv0) I1 _ _ _ hM (lv_sub hl [0, 3, 4, 5] rfl) h
      · replace h := h.2 hc
        refine lv_iconst (v := (1 : Int32)) hx hb dX8_addRosette_138 (by decide) ?_
        refine lv_goto (tgt := 143) hx hb dX8_addRosette_139 (by decide) ?_
        exact tj_X8_addRosette_143 C v0 v3 v4 v5 (1 : Int32) (1 : Int32) v5 v0 (hv0) (hv0) I1 _ _ _ hM (lv_sub hl [0, 3, 4, 5] rfl) h
    · replace h := h.2 hc
      refine lv_aload_n hx hb dX8_addRosette_107 rfl (lv_at hl 0 rfl) ?_
      refine lv_iload hx hb dX8_addRosette_108 (lv_at hl 5 rfl) ?_
      refine lv_iload hx hb dX8_addRosette_110 (lv_at hl 6 rfl) ?_
      refine lv_iconst (v := (0 : Int32)) hx hb dX8_addRosette_112 (by decide) ?_
      refine gq_backv C hM (gq_runV (As := [.int v5, .int v6, .int (0 : Int32)]) (rest := []) C hM (kM_lt hv0 (by decide)) (cM_8 hv0) rfl (c_X8_put l L v0 hv0 v5 v6 (0 : Int32) I _ h) k_X8_put gw_798 rfl hl.1 rfl (Nat.le_of_ble_eq_true rfl) ⟨⟨rfl, rfl⟩, Nat.le_of_ble_eq_true rfl, Nat.le_of_ble_eq_true rfl⟩ ⟨Nat.zero_le _, Nat.zero_le _⟩ dX8_addRosette_113) (fun I2 H locs h hM => ?_)
      obtain ⟨x1, ex1⟩ : ∃ z : Int32, z = v6 + (1 : Int32) := ⟨_, rfl⟩
      replace h := h x1 ex1
      refine lv_iinc (v := x1) (lv' := [(6, .int x1), (0, .ref (gx_ad L v0)), (1, .int v1), (2, .int v2), (3, .int v3), (4, .int v4), (5, .int v5)]) hx hb dX8_addRosette_116 hl (k := 6) rfl (by rw [ex1]; rfl) (by decide) rfl (fun ls hl => ?_)
      refine lv_goto (tgt := 100) hx hb dX8_addRosette_119 (by decide) ?_
      exact ih v0 v1 v2 v3 v4 v5 x1 (hv0) I2 _ _ _ hM (lv_sub hl [1, 2, 3, 4, 5, 6, 0] rfl) h
set_option maxHeartbeats 4000000 in
set_option maxRecDepth 100000 in
theorem tj_X8_addRosette_24 (C : gx_C L 7 p s m args meth c RX8 cX8_addRosette 7 (some .int)) {Q : Int32 → gx_MM → Prop} : ∀ (v0 : Nat) (v1 : Int32) (v2 : Int32) (v3 : Int32) (v4 : Int32) (hv0 : kM v0 = 8) (I : gx_MM) (H : Heap) (locs : List Loc) (ls : Array Slot), gx_S L 7 (cellM L I) s.heap H locs → lv_has ls 7 [(0, .ref (gx_ad L v0)), (1, .int v1), (2, .int v2), (3, .int v3), (4, .int v4)] → wj_X8_addRosette_24 Q v0 v1 v2 v3 v4 I → W p l e rm_X8_addRosette s m args below meth c H locs 0 0 (MQ below (va_Qi Q (fun I' t => gx_U L 7 (cellM L I') t) (gx_A L)) args s 0 0 (gx_A L)) (F0 m 24 ls []) := by
  have hx := C.1
  have hb := C.2.1
  intro v0 v1 v2 v3 v4 hv0 I H locs ls hM hl h
  unfold wj_X8_addRosette_24 at h
  refine lv_iload hx hb dX8_addRosette_24 (lv_at hl 4 rfl) ?_
  refine lv_sipush (v := (180 : Int32)) hx hb dX8_addRosette_26 (by decide) ?_
  refine lv_sipush (v := (240 : Int32)) hx hb dX8_addRosette_29 (by decide) ?_
  refine gq_backi C hM (gq_runS (As := [.int v4, .int (180 : Int32), .int (240 : Int32)]) (rest := []) C hM (c_X8_in l L v4 (180 : Int32) (240 : Int32) I _ h) k_X8_in gw_776 rfl hl.1 rfl (Nat.le_of_ble_eq_true rfl) ⟨⟨rfl, rfl⟩, Nat.le_of_ble_eq_true rfl, Nat.le_of_ble_eq_true rfl⟩ ⟨Nat.zero_le _, Nat.zero_le _⟩ dX8_addRosette_32) (fun r1 I1 H locs h hM => ?_)
  obtain ⟨hz1, h⟩ := h
  refine lv_if_ne (tgt := 41) hx hb dX8_addRosette_35 (by decide) (fun hc => ?_) (fun hc => ?_)
  · replace h := h.2 hc
    refine lv_aload_n hx hb dX8_addRosette_41 rfl (lv_at hl 0 rfl) ?_
    refine gX8_0 C hM hv0 gw_719 dX8_addRosette_42 ?_
    refine lv_iconst (v := (0 : Int32)) hx hb dX8_addRosette_45 (by decide) ?_
    refine gialdM C hM (kM_8_0 hv0) h.1 dX8_addRosette_46 ?_
    replace h := h.2
    refine lv_bipush (v := (8 : Int32)) hx hb dX8_addRosette_47 (by decide) ?_
    refine lv_icmp_ne (tgt := 58) hx hb dX8_addRosette_49 (by decide) (fun hc => ?_) (fun hc => ?_)
    · replace h := h.2 hc
      refine lv_aload_n hx hb dX8_addRosette_58 rfl (lv_at hl 0 rfl) ?_
      refine lv_iload_n hx hb dX8_addRosette_59 rfl (lv_at hl 1 rfl) ?_
      refine gq_backi C hM (gq_runV (As := [.int v1]) (rest := []) C hM (kM_lt hv0 (by decide)) (cM_8 hv0) rfl (c_X8_isAt l L v0 hv0 v1 I1 _ h) k_X8_isAt gw_785 rfl hl.1 rfl (Nat.le_of_ble_eq_true rfl) ⟨⟨rfl, rfl⟩, Nat.le_of_ble_eq_true rfl, Nat.le_of_ble_eq_true rfl⟩ ⟨Nat.zero_le _, Nat.zero_le _⟩ dX8_addRosette_60) (fun r2 I2 H locs h hM => ?_)
      refine gq_ldc (v := (-1000004 : Int32)) C gw_793 dX8_addRosette_63 ?_
      refine lv_icmp_eq (tgt := 75) hx hb dX8_addRosette_65 (by decide) (fun hc => ?_) (fun hc => ?_)
      · replace h := h.1 hc
        refine lv_aload_n hx hb dX8_addRosette_75 rfl (lv_at hl 0 rfl) ?_
        refine gq_backv C hM (gq_runV (As := []) (rest := []) C hM (kM_lt hv0 (by decide)) (cM_8 hv0) rfl (c_X8_save l L v0 hv0 I2 _ h) k_X8_save gw_794 rfl hl.1 rfl (Nat.le_of_ble_eq_true rfl) ⟨⟨rfl, rfl⟩, Nat.le_of_ble_eq_true rfl, Nat.le_of_ble_eq_true rfl⟩ ⟨Nat.zero_le _, Nat.zero_le _⟩ dX8_addRosette_76) (fun I3 H locs h hM => ?_)
        refine lv_aload_n hx hb dX8_addRosette_79 rfl (lv_at hl 0 rfl) ?_
        refine gX8_0 C hM hv0 gw_719 dX8_addRosette_80 ?_
        refine lv_iconst (v := (0 : Int32)) hx hb dX8_addRosette_83 (by decide) ?_
        refine gialdM C hM (kM_8_0 hv0) h.1 dX8_addRosette_84 ?_
        replace h := h.2
        refine lv_topi (fun x1 ex1 => ?_)
        replace h := h x1 ex1
        refine lv_istore (lv' := [(5, .int x1), (0, .ref (gx_ad L v0)), (1, .int v1), (2, .int v2), (3, .int v3), (4, .int v4)]) hx hb dX8_addRosette_85 hl (by decide) rfl (fun ls hl => ?_)
        refine lv_aload_n hx hb dX8_addRosette_87 rfl (lv_at hl 1 rfl) ?_
        refine gX8_0 C hM hv0 gw_719 dX8_addRosette_88 ?_
        refine lv_iconst (v := (0 : Int32)) hx hb dX8_addRosette_91 (by decide) ?_
        refine lv_dup2_11 hx hb dX8_addRosette_92 rfl rfl ?_
        refine gialdM C hM (kM_8_0 hv0) h.1 dX8_addRosette_93 ?_
        replace h := h.2
        refine lv_iconst (v := (1 : Int32)) hx hb dX8_addRosette_94 (by decide) ?_
        refine lv_iadd hx hb dX8_addRosette_95 ?_
        have hi := h.1
        replace h := h.2
        obtain ⟨I4, eI4⟩ : ∃ z : gx_MM, z = um I3 (v0 + 1) (0 : Int32).toNatClampNeg ((I3.1 (v0 + 1) (0 : Int32).toNatClampNeg) + (1 : Int32)) := ⟨_, rfl⟩
        replace h := h I4 eI4
        refine giastM C hM (kM_8_0 hv0) hi eI4 dX8_addRosette_96 (fun H locs hM => ?_)
        refine lv_iconst (v := (0 : Int32)) hx hb dX8_addRosette_97 (by decide) ?_
        refine lv_istore (lv' := [(6, .int (0 : Int32)), (5, .int x1), (0, .ref (gx_ad L v0)), (1, .int v1), (2, .int v2), (3, .int v3), (4, .int v4)]) hx hb dX8_addRosette_98 hl (by decide) rfl (fun ls hl => ?_)
        obtain ⟨fu, h⟩ := h
        exact tl_X8_addRosette_100 C fu v0 v1 v2 v3 v4 x1 (0 : Int32) (hv0) I4 _ _ _ hM (lv_sub hl [2, 3, 4, 5, 6, 1, 0] rfl) h
      · replace h := h.2 hc
        refine lv_aload_n hx hb dX8_addRosette_68 rfl (lv_at hl 0 rfl) ?_
        refine lv_bipush (v := (6 : Int32)) hx hb dX8_addRosette_69 (by decide) ?_
        refine gq_backi C hM (gq_runV (As := [.int (6 : Int32)]) (rest := []) C hM (kM_lt hv0 (by decide)) (cM_8 hv0) rfl (c_X8_refuse l L v0 hv0 (6 : Int32) I2 _ h) k_X8_refuse gw_780 rfl hl.1 rfl (Nat.le_of_ble_eq_true rfl) ⟨⟨rfl, rfl⟩, Nat.le_of_ble_eq_true rfl, Nat.le_of_ble_eq_true rfl⟩ ⟨Nat.zero_le _, Nat.zero_le _⟩ dX8_addRosette_71) (fun r3 I5 H locs h hM => ?_)
        exact gq_iret C hM h dX8_addRosette_74
    · replace h := h.1 hc
      refine lv_aload_n hx hb dX8_addRosette_52 rfl (lv_at hl 0 rfl) ?_
      refine lv_iconst (v := (1 : Int32)) hx hb dX8_addRosette_53 (by decide) ?_
      refine gq_backi C hM (gq_runV (As := [.int (1 : Int32)]) (rest := []) C hM (kM_lt hv0 (by decide)) (cM_8 hv0) rfl (c_X8_refuse l L v0 hv0 (1 : Int32) I1 _ h) k_X8_refuse gw_780 rfl hl.1 rfl (Nat.le_of_ble_eq_true rfl) ⟨⟨rfl, rfl⟩, Nat.le_of_ble_eq_true rfl, Nat.le_of_ble_eq_true rfl⟩ ⟨Nat.zero_le _, Nat.zero_le _⟩ dX8_addRosette_54) (fun r4 I6 H locs h hM => ?_)
      exact gq_iret C hM h dX8_addRosette_57
  · replace h := h.1 hc
    refine gq_ldc (v := (-1000002 : Int32)) C gw_779 dX8_addRosette_38 ?_
    exact gq_iret C hM h dX8_addRosette_40
set_option maxHeartbeats 4000000 in
set_option maxRecDepth 100000 in
theorem c_X8_addRosette (l : Launch) (L : gx_L) (a0 : Nat) (hk0 : kM a0 = 8) (p0 : Int32) (p1 : Int32) (p2 : Int32) (p3 : Int32) (I : gx_MM) (Q : Int32 → gx_MM → Prop) (h : wp_X8_addRosette a0 p0 p1 p2 p3 I Q) : Met l yX8_addRosette (gx_w yX8_addRosette cX8_addRosette 7 (some .int)) rm_X8_addRosette (va_Pc [.ref (gx_ad L a0), .int p0, .int p1, .int p2, .int p3] (gx_U L 7 (cellM L I))) (va_Qi Q (fun I' t => gx_U L 7 (cellM L I') t) (gx_A L)) 0 0 (gx_A L) := by
  refine gq_enter (by decide) (Nat.le_of_ble_eq_true rfl) (fun p e s m below meth c ls C hM hl => ?_)
  have C : gx_C L 7 p s m _ meth c RX8 cX8_addRosette 7 (some .int) := C
  have hl : lv_has ls 7 [(0, .ref (gx_ad L a0)), (1, .int p0), (2, .int p1), (3, .int p2), (4, .int p3)] := hl
  have hx := C.1
  have hb := C.2.1
  unfold wp_X8_addRosette at h
  refine lv_iload_n hx hb dX8_addRosette_0 rfl (lv_at hl 1 rfl) ?_
  refine lv_iconst (v := (0 : Int32)) hx hb dX8_addRosette_1 (by decide) ?_
  refine lv_sipush (v := (1000 : Int32)) hx hb dX8_addRosette_2 (by decide) ?_
  refine gq_backi C hM (gq_runS (As := [.int p0, .int (0 : Int32), .int (1000 : Int32)]) (rest := []) C hM (c_X8_in l L p0 (0 : Int32) (1000 : Int32) I _ h) k_X8_in gw_776 rfl hl.1 rfl (Nat.le_of_ble_eq_true rfl) ⟨⟨rfl, rfl⟩, Nat.le_of_ble_eq_true rfl, Nat.le_of_ble_eq_true rfl⟩ ⟨Nat.zero_le _, Nat.zero_le _⟩ dX8_addRosette_5) (fun r1 I1 H locs h hM => ?_)
  obtain ⟨hz1, h⟩ := h
  refine lv_if_eq (tgt := 38) hx hb dX8_addRosette_8 (by decide) (fun hc => ?_) (fun hc => ?_)
  · replace h := h.1 hc
    refine gq_ldc (v := (-1000002 : Int32)) C gw_779 dX8_addRosette_38 ?_
    exact gq_iret C hM h dX8_addRosette_40
  · replace h := h.2 hc
    refine lv_iload_n hx hb dX8_addRosette_11 rfl (lv_at hl 3 rfl) ?_
    refine lv_bipush (v := (120 : Int32)) hx hb dX8_addRosette_12 (by decide) ?_
    refine lv_icmp_eq (tgt := 24) hx hb dX8_addRosette_14 (by decide) (fun hc => ?_) (fun hc => ?_)
    · replace h := h.1 hc
      exact tj_X8_addRosette_24 C a0 p0 p1 p2 p3 (hk0) I1 _ _ _ hM (lv_sub hl [0, 1, 2, 3, 4] rfl) h
    · replace h := h.2 hc
      refine lv_iload_n hx hb dX8_addRosette_17 rfl (lv_at hl 3 rfl) ?_
      refine lv_sipush (v := (350 : Int32)) hx hb dX8_addRosette_18 (by decide) ?_
      refine lv_icmp_ne (tgt := 38) hx hb dX8_addRosette_21 (by decide) (fun hc => ?_) (fun hc => ?_)
      · replace h := h.2 hc
        refine gq_ldc (v := (-1000002 : Int32)) C gw_779 dX8_addRosette_38 ?_
        exact gq_iret C hM h dX8_addRosette_40
      · replace h := h.1 hc
        exact tj_X8_addRosette_24 C a0 p0 p1 p2 p3 (hk0) I1 _ _ _ hM (lv_sub hl [0, 1, 2, 3, 4] rfl) h
theorem k_X8_addRosette : gx_kV yX8_addRosette cX8_addRosette 7 (some .int) 4 := ⟨⟨gw_775, gw_67, by decide, by decide, by decide +kernel⟩, gw_773, gw_774⟩
abbrev rm_X8_led : Room := { frames := 1, cells := 0, slots := 0, locals := 22 }
set_option maxHeartbeats 4000000 in
set_option maxRecDepth 100000 in
theorem c_X8_led (l : Launch) (L : gx_L) (a0 : Nat) (hk0 : kM a0 = 8) (p0 : Int32) (p1 : Int32) (I : gx_MM) (Q : Int32 → gx_MM → Prop) (h : wp_X8_led a0 p0 p1 I Q) : Met l yX8_led (gx_w yX8_led cX8_led 5 (some .int)) rm_X8_led (va_Pc [.ref (gx_ad L a0), .int p0, .int p1] (gx_U L 7 (cellM L I))) (va_Qi Q (fun I' t => gx_U L 7 (cellM L I') t) (gx_A L)) 0 0 (gx_A L) := by
  refine gq_enter (by decide) (Nat.le_of_ble_eq_true rfl) (fun p e s m below meth c ls C hM hl => ?_)
  have C : gx_C L 7 p s m _ meth c RX8 cX8_led 5 (some .int) := C
  have hl : lv_has ls 5 [(0, .ref (gx_ad L a0)), (1, .int p0), (2, .int p1)] := hl
  have hx := C.1
  have hb := C.2.1
  unfold wp_X8_led at h
  refine gq_ldc2 (v := (1000 : Int64)) C gw_835 dX8_led_0 ?_
  refine lv_aload_n hx hb dX8_led_3 rfl (lv_at hl 0 rfl) ?_
  refine lv_iload_n hx hb dX8_led_4 rfl (lv_at hl 1 rfl) ?_
  refine lv_iconst (v := (2 : Int32)) hx hb dX8_led_5 (by decide) ?_
  refine gq_backi C hM (gq_runV (As := [.int p0, .int (2 : Int32)]) (rest := [.long (1000 : Int64)]) C hM (kM_lt hk0 (by decide)) (cM_8 hk0) rfl (c_X8_of l L a0 hk0 p0 (2 : Int32) I _ h) k_X8_of gw_789 rfl hl.1 rfl (Nat.le_of_ble_eq_true rfl) ⟨⟨rfl, rfl⟩, Nat.le_of_ble_eq_true rfl, Nat.le_of_ble_eq_true rfl⟩ ⟨Nat.zero_le _, Nat.zero_le _⟩ dX8_led_6) (fun r1 I1 H locs h hM => ?_)
  refine lv_i2l hx hb dX8_led_9 rfl ?_
  refine lv_lmul hx hb dX8_led_10 ?_
  refine lv_topl (fun x1 ex1 => ?_)
  replace h := h x1 ex1
  refine lv_lstore_n (lv' := [(3, .long x1), (0, .ref (gx_ad L a0)), (1, .int p0), (2, .int p1)]) hx hb dX8_led_11 rfl hl (by decide) rfl (fun ls hl => ?_)
  refine lv_iload_n hx hb dX8_led_12 rfl (lv_at hl 3 rfl) ?_
  refine lv_i2l hx hb dX8_led_13 rfl ?_
  refine lv_lload_n hx hb dX8_led_14 rfl (lv_at hl 0 rfl) ?_
  refine lv_lmul hx hb dX8_led_15 ?_
  refine lv_lload_n hx hb dX8_led_16 rfl (lv_at hl 0 rfl) ?_
  refine lv_aload_n hx hb dX8_led_17 rfl (lv_at hl 1 rfl) ?_
  refine lv_iload_n hx hb dX8_led_18 rfl (lv_at hl 2 rfl) ?_
  refine lv_iconst (v := (4 : Int32)) hx hb dX8_led_19 (by decide) ?_
  refine gq_backi C hM (gq_runV (As := [.int p0, .int (4 : Int32)]) (rest := [.long x1, .long ((Int32.toInt64 p1) * x1)]) C hM (kM_lt hk0 (by decide)) (cM_8 hk0) rfl (c_X8_of l L a0 hk0 p0 (4 : Int32) I1 _ h) k_X8_of gw_789 rfl hl.1 rfl (Nat.le_of_ble_eq_true rfl) ⟨⟨rfl, rfl⟩, Nat.le_of_ble_eq_true rfl, Nat.le_of_ble_eq_true rfl⟩ ⟨Nat.zero_le _, Nat.zero_le _⟩ dX8_led_20) (fun r2 I2 H locs h hM => ?_)
  refine lv_i2l hx hb dX8_led_23 rfl ?_
  refine lv_ladd hx hb dX8_led_24 ?_
  refine lv_ldiv hx hb dX8_led_25 h.1 ?_
  replace h := h.2
  refine lv_l2i hx hb dX8_led_26 rfl ?_
  exact gq_iret C hM h dX8_led_27
theorem k_X8_led : gx_kV yX8_led cX8_led 5 (some .int) 2 := ⟨⟨gw_834, gw_67, by decide, by decide, by decide +kernel⟩, gw_833, gw_32⟩
abbrev rm_X8_ofGauge : Room := { frames := 1, cells := 0, slots := 0, locals := 22 }
set_option maxHeartbeats 4000000 in
set_option maxRecDepth 100000 in
theorem c_X8_ofGauge (l : Launch) (L : gx_L) (a0 : Nat) (hk0 : kM a0 = 8) (p0 : Int32) (p1 : Int32) (p2 : Int32) (I : gx_MM) (Q : Int32 → gx_MM → Prop) (h : wp_X8_ofGauge a0 p0 p1 p2 I Q) : Met l yX8_ofGauge (gx_w yX8_ofGauge cX8_ofGauge 4 (some .int)) rm_X8_ofGauge (va_Pc [.ref (gx_ad L a0), .int p0, .int p1, .int p2] (gx_U L 7 (cellM L I))) (va_Qi Q (fun I' t => gx_U L 7 (cellM L I') t) (gx_A L)) 0 0 (gx_A L) := by
  refine gq_enter (by decide) (Nat.le_of_ble_eq_true rfl) (fun p e s m below meth c ls C hM hl => ?_)
  have C : gx_C L 7 p s m _ meth c RX8 cX8_ofGauge 4 (some .int) := C
  have hl : lv_has ls 4 [(0, .ref (gx_ad L a0)), (1, .int p0), (2, .int p1), (3, .int p2)] := hl
  have hx := C.1
  have hb := C.2.1
  unfold wp_X8_ofGauge at h
  refine lv_aload_n hx hb dX8_ofGauge_0 rfl (lv_at hl 0 rfl) ?_
  refine lv_iload_n hx hb dX8_ofGauge_1 rfl (lv_at hl 1 rfl) ?_
  refine lv_bipush (v := (9 : Int32)) hx hb dX8_ofGauge_2 (by decide) ?_
  refine lv_iconst (v := (3 : Int32)) hx hb dX8_ofGauge_4 (by decide) ?_
  refine lv_iload_n hx hb dX8_ofGauge_5 rfl (lv_at hl 2 rfl) ?_
  refine lv_imul hx hb dX8_ofGauge_6 ?_
  refine lv_iadd hx hb dX8_ofGauge_7 ?_
  refine lv_iload_n hx hb dX8_ofGauge_8 rfl (lv_at hl 3 rfl) ?_
  refine lv_iadd hx hb dX8_ofGauge_9 ?_
  refine gq_backi C hM (gq_runV (As := [.int p0, .int (((9 : Int32) + ((3 : Int32) * p1)) + p2)]) (rest := []) C hM (kM_lt hk0 (by decide)) (cM_8 hk0) rfl (c_X8_of l L a0 hk0 p0 (((9 : Int32) + ((3 : Int32) * p1)) + p2) I _ h) k_X8_of gw_789 rfl hl.1 rfl (Nat.le_of_ble_eq_true rfl) ⟨⟨rfl, rfl⟩, Nat.le_of_ble_eq_true rfl, Nat.le_of_ble_eq_true rfl⟩ ⟨Nat.zero_le _, Nat.zero_le _⟩ dX8_ofGauge_10) (fun r1 I1 H locs h hM => ?_)
  exact gq_iret C hM h dX8_ofGauge_13
theorem k_X8_ofGauge : gx_kV yX8_ofGauge cX8_ofGauge 4 (some .int) 3 := ⟨⟨gw_830, gw_67, by decide, by decide, by decide +kernel⟩, gw_829, gw_31⟩
abbrev rm_X8_shuntValue : Room := { frames := 1, cells := 0, slots := 0, locals := 22 }
set_option maxHeartbeats 4000000 in
set_option maxRecDepth 100000 in
theorem c_X8_shuntValue (l : Launch) (L : gx_L) (a0 : Nat) (hk0 : kM a0 = 8) (p0 : Int32) (I : gx_MM) (Q : Int32 → gx_MM → Prop) (h : wp_X8_shuntValue a0 p0 I Q) : Met l yX8_shuntValue (gx_w yX8_shuntValue cX8_shuntValue 2 (some .int)) rm_X8_shuntValue (va_Pc [.ref (gx_ad L a0), .int p0] (gx_U L 7 (cellM L I))) (va_Qi Q (fun I' t => gx_U L 7 (cellM L I') t) (gx_A L)) 0 0 (gx_A L) := by
  refine gq_enter (by decide) (Nat.le_of_ble_eq_true rfl) (fun p e s m below meth c ls C hM hl => ?_)
  have C : gx_C L 7 p s m _ meth c RX8 cX8_shuntValue 2 (some .int) := C
  have hl : lv_has ls 2 [(0, .ref (gx_ad L a0)), (1, .int p0)] := hl
  have hx := C.1
  have hb := C.2.1
  unfold wp_X8_shuntValue at h
  refine lv_aload_n hx hb dX8_shuntValue_0 rfl (lv_at hl 0 rfl) ?_
  refine lv_iload_n hx hb dX8_shuntValue_1 rfl (lv_at hl 1 rfl) ?_
  refine lv_iconst (v := (2 : Int32)) hx hb dX8_shuntValue_2 (by decide) ?_
  refine gq_backi C hM (gq_runV (As := [.int p0, .int (2 : Int32)]) (rest := []) C hM (kM_lt hk0 (by decide)) (cM_8 hk0) rfl (c_X8_of l L a0 hk0 p0 (2 : Int32) I _ h) k_X8_of gw_789 rfl hl.1 rfl (Nat.le_of_ble_eq_true rfl) ⟨⟨rfl, rfl⟩, Nat.le_of_ble_eq_true rfl, Nat.le_of_ble_eq_true rfl⟩ ⟨Nat.zero_le _, Nat.zero_le _⟩ dX8_shuntValue_3) (fun r1 I1 H locs h hM => ?_)
  refine gq_ldc (v := (1000000 : Int32)) C gw_844 dX8_shuntValue_6 ?_
  refine lv_imul hx hb dX8_shuntValue_8 ?_
  refine lv_aload_n hx hb dX8_shuntValue_9 rfl (lv_at hl 0 rfl) ?_
  refine lv_iload_n hx hb dX8_shuntValue_10 rfl (lv_at hl 1 rfl) ?_
  refine lv_iconst (v := (2 : Int32)) hx hb dX8_shuntValue_11 (by decide) ?_
  refine gq_backi C hM (gq_runV (As := [.int p0, .int (2 : Int32)]) (rest := [.int (r1 * (1000000 : Int32))]) C hM (kM_lt hk0 (by decide)) (cM_8 hk0) rfl (c_X8_of l L a0 hk0 p0 (2 : Int32) I1 _ h) k_X8_of gw_789 rfl hl.1 rfl (Nat.le_of_ble_eq_true rfl) ⟨⟨rfl, rfl⟩, Nat.le_of_ble_eq_true rfl, Nat.le_of_ble_eq_true rfl⟩ ⟨Nat.zero_le _, Nat.zero_le _⟩ dX8_shuntValue_12) (fun r2 I2 H locs h hM => ?_)
  refine lv_sipush (v := (1000 : Int32)) hx hb dX8_shuntValue_15 (by decide) ?_
  refine lv_aload_n hx hb dX8_shuntValue_18 rfl (lv_at hl 0 rfl) ?_
  refine gX8_0 C hM hk0 gw_719 dX8_shuntValue_19 ?_
  refine lv_iconst (v := (3 : Int32)) hx hb dX8_shuntValue_22 (by decide) ?_
  refine gialdM C hM (kM_8_0 hk0) h.1 dX8_shuntValue_23 ?_
  replace h := h.2
  refine lv_imul hx hb dX8_shuntValue_24 ?_
  refine lv_iadd hx hb dX8_shuntValue_25 ?_
  refine lv_idiv hx hb dX8_shuntValue_26 h.1 ?_
  replace h := h.2
  exact gq_iret C hM h dX8_shuntValue_27
theorem k_X8_shuntValue : gx_kV yX8_shuntValue cX8_shuntValue 2 (some .int) 1 := ⟨⟨gw_843, gw_67, by decide, by decide, by decide +kernel⟩, gw_842, gw_34⟩
abbrev rm_X8_strainOf : Room := { frames := 1, cells := 0, slots := 0, locals := 22 }
set_option maxHeartbeats 4000000 in
set_option maxRecDepth 100000 in
theorem c_X8_strainOf (l : Launch) (L : gx_L) (a0 : Nat) (hk0 : kM a0 = 8) (p0 : Int32) (p1 : Int32) (I : gx_MM) (Q : Int32 → gx_MM → Prop) (h : wp_X8_strainOf a0 p0 p1 I Q) : Met l yX8_strainOf (gx_w yX8_strainOf cX8_strainOf 8 (some .int)) rm_X8_strainOf (va_Pc [.ref (gx_ad L a0), .int p0, .int p1] (gx_U L 7 (cellM L I))) (va_Qi Q (fun I' t => gx_U L 7 (cellM L I') t) (gx_A L)) 0 0 (gx_A L) := by
  refine gq_enter (by decide) (Nat.le_of_ble_eq_true rfl) (fun p e s m below meth c ls C hM hl => ?_)
  have C : gx_C L 7 p s m _ meth c RX8 cX8_strainOf 8 (some .int) := C
  have hl : lv_has ls 8 [(0, .ref (gx_ad L a0)), (1, .int p0), (2, .int p1)] := hl
  have hx := C.1
  have hb := C.2.1
  unfold wp_X8_strainOf at h
  refine lv_aload_n hx hb dX8_strainOf_0 rfl (lv_at hl 0 rfl) ?_
  refine lv_iload_n hx hb dX8_strainOf_1 rfl (lv_at hl 1 rfl) ?_
  refine lv_iconst (v := (5 : Int32)) hx hb dX8_strainOf_2 (by decide) ?_
  refine gq_backi C hM (gq_runV (As := [.int p0, .int (5 : Int32)]) (rest := []) C hM (kM_lt hk0 (by decide)) (cM_8 hk0) rfl (c_X8_of l L a0 hk0 p0 (5 : Int32) I _ h) k_X8_of gw_789 rfl hl.1 rfl (Nat.le_of_ble_eq_true rfl) ⟨⟨rfl, rfl⟩, Nat.le_of_ble_eq_true rfl, Nat.le_of_ble_eq_true rfl⟩ ⟨Nat.zero_le _, Nat.zero_le _⟩ dX8_strainOf_3) (fun r1 I1 H locs h hM => ?_)
  refine lv_istore_n (lv' := [(3, .int r1), (0, .ref (gx_ad L a0)), (1, .int p0), (2, .int p1)]) hx hb dX8_strainOf_6 rfl hl (by decide) rfl (fun ls hl => ?_)
  refine lv_aload_n hx hb dX8_strainOf_7 rfl (lv_at hl 1 rfl) ?_
  refine lv_iload_n hx hb dX8_strainOf_8 rfl (lv_at hl 2 rfl) ?_
  refine lv_bipush (v := (6 : Int32)) hx hb dX8_strainOf_9 (by decide) ?_
  refine gq_backi C hM (gq_runV (As := [.int p0, .int (6 : Int32)]) (rest := []) C hM (kM_lt hk0 (by decide)) (cM_8 hk0) rfl (c_X8_of l L a0 hk0 p0 (6 : Int32) I1 _ h) k_X8_of gw_789 rfl hl.1 rfl (Nat.le_of_ble_eq_true rfl) ⟨⟨rfl, rfl⟩, Nat.le_of_ble_eq_true rfl, Nat.le_of_ble_eq_true rfl⟩ ⟨Nat.zero_le _, Nat.zero_le _⟩ dX8_strainOf_11) (fun r2 I2 H locs h hM => ?_)
  refine lv_istore (lv' := [(4, .int r2), (3, .int r1), (0, .ref (gx_ad L a0)), (1, .int p0), (2, .int p1)]) hx hb dX8_strainOf_14 hl (by decide) rfl (fun ls hl => ?_)
  refine lv_aload_n hx hb dX8_strainOf_16 rfl (lv_at hl 2 rfl) ?_
  refine lv_iload_n hx hb dX8_strainOf_17 rfl (lv_at hl 3 rfl) ?_
  refine lv_bipush (v := (7 : Int32)) hx hb dX8_strainOf_18 (by decide) ?_
  refine gq_backi C hM (gq_runV (As := [.int p0, .int (7 : Int32)]) (rest := []) C hM (kM_lt hk0 (by decide)) (cM_8 hk0) rfl (c_X8_of l L a0 hk0 p0 (7 : Int32) I2 _ h) k_X8_of gw_789 rfl hl.1 rfl (Nat.le_of_ble_eq_true rfl) ⟨⟨rfl, rfl⟩, Nat.le_of_ble_eq_true rfl, Nat.le_of_ble_eq_true rfl⟩ ⟨Nat.zero_le _, Nat.zero_le _⟩ dX8_strainOf_20) (fun r3 I3 H locs h hM => ?_)
  refine lv_istore (lv' := [(5, .int r3), (4, .int r2), (3, .int r1), (0, .ref (gx_ad L a0)), (1, .int p0), (2, .int p1)]) hx hb dX8_strainOf_23 hl (by decide) rfl (fun ls hl => ?_)
  refine lv_iload_n hx hb dX8_strainOf_25 rfl (lv_at hl 5 rfl) ?_
  refine lv_if_ne (tgt := 31) hx hb dX8_strainOf_26 (by decide) (fun hc => ?_) (fun hc => ?_)
  · replace h := h.2 hc
    refine lv_aload_n hx hb dX8_strainOf_31 rfl (lv_at hl 3 rfl) ?_
    refine lv_iload_n hx hb dX8_strainOf_32 rfl (lv_at hl 4 rfl) ?_
    refine lv_iconst (v := (1 : Int32)) hx hb dX8_strainOf_33 (by decide) ?_
    refine gq_backi C hM (gq_runV (As := [.int p0, .int (1 : Int32)]) (rest := []) C hM (kM_lt hk0 (by decide)) (cM_8 hk0) rfl (c_X8_of l L a0 hk0 p0 (1 : Int32) I3 _ h) k_X8_of gw_789 rfl hl.1 rfl (Nat.le_of_ble_eq_true rfl) ⟨⟨rfl, rfl⟩, Nat.le_of_ble_eq_true rfl, Nat.le_of_ble_eq_true rfl⟩ ⟨Nat.zero_le _, Nat.zero_le _⟩ dX8_strainOf_34) (fun r4 I4 H locs h hM => ?_)
    refine lv_if_ne (tgt := 60) hx hb dX8_strainOf_37 (by decide) (fun hc => ?_) (fun hc => ?_)
    · replace h := h.2 hc
      refine lv_iload_n hx hb dX8_strainOf_60 rfl (lv_at hl 2 rfl) ?_
      refine lv_iconst (v := (3 : Int32)) hx hb dX8_strainOf_61 (by decide) ?_
      refine lv_iload hx hb dX8_strainOf_62 (lv_at hl 1 rfl) ?_
      refine lv_imul hx hb dX8_strainOf_64 ?_
      refine lv_iadd hx hb dX8_strainOf_65 ?_
      refine lv_iconst (v := (4 : Int32)) hx hb dX8_strainOf_66 (by decide) ?_
      refine lv_idiv hx hb dX8_strainOf_67 (by decide) ?_
      refine lv_topi (fun x1 ex1 => ?_)
      replace h := h x1 ex1
      refine lv_istore (lv' := [(6, .int x1), (5, .int r3), (4, .int r2), (3, .int r1), (0, .ref (gx_ad L a0)), (1, .int p0), (2, .int p1)]) hx hb dX8_strainOf_68 hl (by decide) rfl (fun ls hl => ?_)
      refine lv_iload hx hb dX8_strainOf_70 (lv_at hl 1 rfl) ?_
      refine lv_sipush (v := (433 : Int32)) hx hb dX8_strainOf_72 (by decide) ?_
      refine lv_imul hx hb dX8_strainOf_75 ?_
      refine lv_sipush (v := (1000 : Int32)) hx hb dX8_strainOf_76 (by decide) ?_
      refine lv_idiv hx hb dX8_strainOf_79 (by decide) ?_
      refine lv_topi (fun x2 ex2 => ?_)
      replace h := h x2 ex2
      refine lv_istore (lv' := [(7, .int x2), (6, .int x1), (5, .int r3), (4, .int r2), (3, .int r1), (0, .ref (gx_ad L a0)), (1, .int p0), (2, .int p1)]) hx hb dX8_strainOf_80 hl (by decide) rfl (fun ls hl => ?_)
      refine lv_iload_n hx hb dX8_strainOf_82 rfl (lv_at hl 7 rfl) ?_
      refine lv_iconst (v := (1 : Int32)) hx hb dX8_strainOf_83 (by decide) ?_
      refine lv_icmp_ne (tgt := 95) hx hb dX8_strainOf_84 (by decide) (fun hc => ?_) (fun hc => ?_)
      · replace h := h.2 hc
        refine lv_iload hx hb dX8_strainOf_95 (lv_at hl 1 rfl) ?_
        refine lv_iload hx hb dX8_strainOf_97 (lv_at hl 0 rfl) ?_
        refine lv_isub hx hb dX8_strainOf_99 ?_
        exact gq_iret C hM h dX8_strainOf_100
      · replace h := h.1 hc
        refine lv_iload hx hb dX8_strainOf_87 (lv_at hl 1 rfl) ?_
        refine lv_iload hx hb dX8_strainOf_89 (lv_at hl 0 rfl) ?_
        refine lv_iadd hx hb dX8_strainOf_91 ?_
        refine lv_goto (tgt := 100) hx hb dX8_strainOf_92 (by decide) ?_
        exact gq_iret C hM h dX8_strainOf_100
    · replace h := h.1 hc
      refine lv_iload_n hx hb dX8_strainOf_40 rfl (lv_at hl 5 rfl) ?_
      refine lv_iconst (v := (1 : Int32)) hx hb dX8_strainOf_41 (by decide) ?_
      refine lv_icmp_ne (tgt := 57) hx hb dX8_strainOf_42 (by decide) (fun hc => ?_) (fun hc => ?_)
      · replace h := h.2 hc
        refine lv_iload hx hb dX8_strainOf_57 (lv_at hl 1 rfl) ?_
        exact gq_iret C hM h dX8_strainOf_59
      · replace h := h.1 hc
        refine lv_iload_n hx hb dX8_strainOf_45 rfl (lv_at hl 2 rfl) ?_
        refine lv_iload hx hb dX8_strainOf_46 (lv_at hl 1 rfl) ?_
        refine lv_iadd hx hb dX8_strainOf_48 ?_
        refine lv_iload hx hb dX8_strainOf_49 (lv_at hl 0 rfl) ?_
        refine lv_iadd hx hb dX8_strainOf_51 ?_
        refine lv_iconst (v := (2 : Int32)) hx hb dX8_strainOf_52 (by decide) ?_
        refine lv_idiv hx hb dX8_strainOf_53 (by decide) ?_
        refine lv_goto (tgt := 59) hx hb dX8_strainOf_54 (by decide) ?_
        exact gq_iret C hM h dX8_strainOf_59
  · replace h := h.1 hc
    refine lv_iload_n hx hb dX8_strainOf_29 rfl (lv_at hl 2 rfl) ?_
    exact gq_iret C hM h dX8_strainOf_30
theorem k_X8_strainOf : gx_kV yX8_strainOf cX8_strainOf 8 (some .int) 2 := ⟨⟨gw_839, gw_67, by decide, by decide, by decide +kernel⟩, gw_838, gw_33⟩
abbrev rm_X8_signalOf : Room := { frames := 2, cells := 0, slots := 0, locals := 49 }
set_option maxHeartbeats 4000000 in
set_option maxRecDepth 100000 in
theorem tj_X8_signalOf_57 (C : gx_C L 7 p s m args meth c RX8 cX8_signalOf 5 (some .int)) {Q : Int32 → gx_MM → Prop} : ∀ (v0 : Nat) (v1 : Int32) (v2 : Int32) (u0 : Int32) (u1 : Int32) (hv0 : kM v0 = 8) (I : gx_MM) (H : Heap) (locs : List Loc) (ls : Array Slot), gx_S L 7 (cellM L I) s.heap H locs → lv_has ls 5 [(0, .ref (gx_ad L v0)), (1, .int v1), (2, .int v2)] → wj_X8_signalOf_57 Q v0 v1 v2 u0 u1 I → W p l e rm_X8_signalOf s m args below meth c H locs 0 0 (MQ below (va_Qi Q (fun I' t => gx_U L 7 (cellM L I') t) (gx_A L)) args s 0 0 (gx_A L)) (F0 m 57 ls [.int u0, .int u1]) := by
  have hx := C.1
  have hb := C.2.1
  intro v0 v1 v2 u0 u1 hv0 I H locs ls hM hl h
  unfold wj_X8_signalOf_57 at h
  refine lv_iadd hx hb dX8_signalOf_57 ?_
  refine lv_topi (fun x1 ex1 => ?_)
  replace h := h x1 ex1
  refine lv_istore (lv' := [(4, .int x1), (0, .ref (gx_ad L v0)), (1, .int v1), (2, .int v2)]) hx hb dX8_signalOf_58 hl (by decide) rfl (fun ls hl => ?_)
  refine lv_iload hx hb dX8_signalOf_60 (lv_at hl 0 rfl) ?_
  refine lv_aload_n hx hb dX8_signalOf_62 rfl (lv_at hl 1 rfl) ?_
  refine lv_iload_n hx hb dX8_signalOf_63 rfl (lv_at hl 2 rfl) ?_
  refine lv_iload_n hx hb dX8_signalOf_64 rfl (lv_at hl 3 rfl) ?_
  refine lv_iconst (v := (1 : Int32)) hx hb dX8_signalOf_65 (by decide) ?_
  refine gq_backi C hM (gq_runV (As := [.int v1, .int v2, .int (1 : Int32)]) (rest := [.int x1]) C hM (kM_lt hv0 (by decide)) (cM_8 hv0) rfl (c_X8_ofGauge l L v0 hv0 v1 v2 (1 : Int32) I _ h) k_X8_ofGauge gw_827 rfl hl.1 rfl (Nat.le_of_ble_eq_true rfl) ⟨⟨rfl, rfl⟩, Nat.le_of_ble_eq_true rfl, Nat.le_of_ble_eq_true rfl⟩ ⟨Nat.zero_le _, Nat.zero_le _⟩ dX8_signalOf_66) (fun r1 I1 H locs h hM => ?_)
  refine lv_isub hx hb dX8_signalOf_69 ?_
  exact gq_iret C hM h dX8_signalOf_70
set_option maxHeartbeats 4000000 in
set_option maxRecDepth 100000 in
theorem c_X8_signalOf (l : Launch) (L : gx_L) (a0 : Nat) (hk0 : kM a0 = 8) (p0 : Int32) (p1 : Int32) (p2 : Int32) (I : gx_MM) (Q : Int32 → gx_MM → Prop) (h : wp_X8_signalOf a0 p0 p1 p2 I Q) : Met l yX8_signalOf (gx_w yX8_signalOf cX8_signalOf 5 (some .int)) rm_X8_signalOf (va_Pc [.ref (gx_ad L a0), .int p0, .int p1, .int p2] (gx_U L 7 (cellM L I))) (va_Qi Q (fun I' t => gx_U L 7 (cellM L I') t) (gx_A L)) 0 0 (gx_A L) := by
  refine gq_enter (by decide) (Nat.le_of_ble_eq_true rfl) (fun p e s m below meth c ls C hM hl => ?_)
  have C : gx_C L 7 p s m _ meth c RX8 cX8_signalOf 5 (some .int) := C
  have hl : lv_has ls 5 [(0, .ref (gx_ad L a0)), (1, .int p0), (2, .int p1), (3, .int p2)] := hl
  have hx := C.1
  have hb := C.2.1
  unfold wp_X8_signalOf at h
  refine lv_aload_n hx hb dX8_signalOf_0 rfl (lv_at hl 0 rfl) ?_
  refine lv_iload_n hx hb dX8_signalOf_1 rfl (lv_at hl 1 rfl) ?_
  refine lv_aload_n hx hb dX8_signalOf_2 rfl (lv_at hl 0 rfl) ?_
  refine lv_iload_n hx hb dX8_signalOf_3 rfl (lv_at hl 1 rfl) ?_
  refine lv_iload_n hx hb dX8_signalOf_4 rfl (lv_at hl 2 rfl) ?_
  refine lv_iconst (v := (0 : Int32)) hx hb dX8_signalOf_5 (by decide) ?_
  refine gq_backi C hM (gq_runV (As := [.int p0, .int p1, .int (0 : Int32)]) (rest := [.int p0, .ref (gx_ad L a0)]) C hM (kM_lt hk0 (by decide)) (cM_8 hk0) rfl (c_X8_ofGauge l L a0 hk0 p0 p1 (0 : Int32) I _ h) k_X8_ofGauge gw_827 rfl hl.1 rfl (Nat.le_of_ble_eq_true rfl) ⟨⟨rfl, rfl⟩, Nat.le_of_ble_eq_true rfl, Nat.le_of_ble_eq_true rfl⟩ ⟨Nat.zero_le _, Nat.zero_le _⟩ dX8_signalOf_6) (fun r1 I1 H locs h hM => ?_)
  refine gq_backi C hM (gq_runV (As := [.int p0, .int r1]) (rest := []) C hM (kM_lt hk0 (by decide)) (cM_8 hk0) rfl (c_X8_led l L a0 hk0 p0 r1 I1 _ h) k_X8_led gw_831 rfl hl.1 rfl (Nat.le_of_ble_eq_true rfl) ⟨⟨rfl, rfl⟩, Nat.le_of_ble_eq_true rfl, Nat.le_of_ble_eq_true rfl⟩ ⟨Nat.zero_le _, Nat.zero_le _⟩ dX8_signalOf_9) (fun r2 I2 H locs h hM => ?_)
  refine lv_aload_n hx hb dX8_signalOf_12 rfl (lv_at hl 0 rfl) ?_
  refine lv_iload_n hx hb dX8_signalOf_13 rfl (lv_at hl 1 rfl) ?_
  refine lv_aload_n hx hb dX8_signalOf_14 rfl (lv_at hl 0 rfl) ?_
  refine lv_iload_n hx hb dX8_signalOf_15 rfl (lv_at hl 1 rfl) ?_
  refine lv_iload_n hx hb dX8_signalOf_16 rfl (lv_at hl 2 rfl) ?_
  refine gq_backi C hM (gq_runV (As := [.int p0, .int p1]) (rest := [.int p0, .ref (gx_ad L a0), .int r2]) C hM (kM_lt hk0 (by decide)) (cM_8 hk0) rfl (c_X8_strainOf l L a0 hk0 p0 p1 I2 _ h) k_X8_strainOf gw_836 rfl hl.1 rfl (Nat.le_of_ble_eq_true rfl) ⟨⟨rfl, rfl⟩, Nat.le_of_ble_eq_true rfl, Nat.le_of_ble_eq_true rfl⟩ ⟨Nat.zero_le _, Nat.zero_le _⟩ dX8_signalOf_17) (fun r3 I3 H locs h hM => ?_)
  refine lv_aload_n hx hb dX8_signalOf_20 rfl (lv_at hl 0 rfl) ?_
  refine lv_iload_n hx hb dX8_signalOf_21 rfl (lv_at hl 1 rfl) ?_
  refine lv_iconst (v := (3 : Int32)) hx hb dX8_signalOf_22 (by decide) ?_
  refine gq_backi C hM (gq_runV (As := [.int p0, .int (3 : Int32)]) (rest := [.int r3, .int p0, .ref (gx_ad L a0), .int r2]) C hM (kM_lt hk0 (by decide)) (cM_8 hk0) rfl (c_X8_of l L a0 hk0 p0 (3 : Int32) I3 _ h) k_X8_of gw_789 rfl hl.1 rfl (Nat.le_of_ble_eq_true rfl) ⟨⟨rfl, rfl⟩, Nat.le_of_ble_eq_true rfl, Nat.le_of_ble_eq_true rfl⟩ ⟨Nat.zero_le _, Nat.zero_le _⟩ dX8_signalOf_23) (fun r4 I4 H locs h hM => ?_)
  refine lv_imul hx hb dX8_signalOf_26 ?_
  refine lv_bipush (v := (100 : Int32)) hx hb dX8_signalOf_27 (by decide) ?_
  refine lv_idiv hx hb dX8_signalOf_29 (by decide) ?_
  refine gq_backi C hM (gq_runV (As := [.int p0, .int ((r3 * r4) / (100 : Int32))]) (rest := [.int r2]) C hM (kM_lt hk0 (by decide)) (cM_8 hk0) rfl (c_X8_led l L a0 hk0 p0 ((r3 * r4) / (100 : Int32)) I4 _ h) k_X8_led gw_831 rfl hl.1 rfl (Nat.le_of_ble_eq_true rfl) ⟨⟨rfl, rfl⟩, Nat.le_of_ble_eq_true rfl, Nat.le_of_ble_eq_true rfl⟩ ⟨Nat.zero_le _, Nat.zero_le _⟩ dX8_signalOf_30) (fun r5 I5 H locs h hM => ?_)
  refine lv_iadd hx hb dX8_signalOf_33 ?_
  refine lv_topi (fun x1 ex1 => ?_)
  replace h := h x1 ex1
  refine lv_istore (lv' := [(4, .int x1), (0, .ref (gx_ad L a0)), (1, .int p0), (2, .int p1), (3, .int p2)]) hx hb dX8_signalOf_34 hl (by decide) rfl (fun ls hl => ?_)
  refine lv_iload hx hb dX8_signalOf_36 (lv_at hl 0 rfl) ?_
  refine lv_iload_n hx hb dX8_signalOf_38 rfl (lv_at hl 4 rfl) ?_
  refine lv_iconst (v := (1 : Int32)) hx hb dX8_signalOf_39 (by decide) ?_
  refine lv_icmp_ne (tgt := 56) hx hb dX8_signalOf_40 (by decide) (fun hc => ?_) (fun hc => ?_)
  · replace h := h.2 hc
    refine lv_iconst (v := (0 : Int32)) hx hb dX8_signalOf_56 (by decide) ?_
    exact tj_X8_signalOf_57 C a0 p0 p1 (0 : Int32) x1 (hk0) I5 _ _ _ hM (lv_sub hl [1, 2, 3] rfl) h
  · replace h := h.1 hc
    refine lv_aload_n hx hb dX8_signalOf_43 rfl (lv_at hl 1 rfl) ?_
    refine lv_iload_n hx hb dX8_signalOf_44 rfl (lv_at hl 2 rfl) ?_
    refine lv_aload_n hx hb dX8_signalOf_45 rfl (lv_at hl 1 rfl) ?_
    refine lv_iload_n hx hb dX8_signalOf_46 rfl (lv_at hl 2 rfl) ?_
    refine gq_backi C hM (gq_runV (As := [.int p0]) (rest := [.int p0, .ref (gx_ad L a0), .int x1]) C hM (kM_lt hk0 (by decide)) (cM_8 hk0) rfl (c_X8_shuntValue l L a0 hk0 p0 I5 _ h) k_X8_shuntValue gw_840 rfl hl.1 rfl (Nat.le_of_ble_eq_true rfl) ⟨⟨rfl, rfl⟩, Nat.le_of_ble_eq_true rfl, Nat.le_of_ble_eq_true rfl⟩ ⟨Nat.zero_le _, Nat.zero_le _⟩ dX8_signalOf_47) (fun r6 I6 H locs h hM => ?_)
    refine gq_backi C hM (gq_runV (As := [.int p0, .int r6]) (rest := [.int x1]) C hM (kM_lt hk0 (by decide)) (cM_8 hk0) rfl (c_X8_led l L a0 hk0 p0 r6 I6 _ h) k_X8_led gw_831 rfl hl.1 rfl (Nat.le_of_ble_eq_true rfl) ⟨⟨rfl, rfl⟩, Nat.le_of_ble_eq_true rfl, Nat.le_of_ble_eq_true rfl⟩ ⟨Nat.zero_le _, Nat.zero_le _⟩ dX8_signalOf_50) (fun r7 I7 H locs h hM => ?_)
    refine lv_goto (tgt := 57) hx hb dX8_signalOf_53 (by decide) ?_
    exact tj_X8_signalOf_57 C a0 p0 p1 r7 x1 (hk0) I7 _ _ _ hM (lv_sub hl [1, 2, 3] rfl) h
theorem k_X8_signalOf : gx_kV yX8_signalOf cX8_signalOf 5 (some .int) 3 := ⟨⟨gw_826, gw_67, by decide, by decide, by decide +kernel⟩, gw_825, gw_30⟩
abbrev rm_X8_size : Room := { frames := 0, cells := 0, slots := 0, locals := 0 }
set_option maxHeartbeats 4000000 in
set_option maxRecDepth 100000 in
theorem c_X8_size (l : Launch) (L : gx_L) (p0 : Int32) (I : gx_MM) (Q : Int32 → gx_MM → Prop) (h : wp_X8_size p0 I Q) : Met l yX8_size (gx_w yX8_size cX8_size 1 (some .int)) rm_X8_size (va_Pc [.int p0] (gx_U L 7 (cellM L I))) (va_Qi Q (fun I' t => gx_U L 7 (cellM L I') t) (gx_A L)) 0 0 (gx_A L) := by
  refine gq_enter (by decide) (Nat.le_of_ble_eq_true rfl) (fun p e s m below meth c ls C hM hl => ?_)
  have C : gx_C L 7 p s m _ meth c RX8 cX8_size 1 (some .int) := C
  have hl : lv_has ls 1 [(0, .int p0)] := hl
  have hx := C.1
  have hb := C.2.1
  unfold wp_X8_size at h
  refine lv_iload_n hx hb dX8_size_0 rfl (lv_at hl 0 rfl) ?_
  refine lv_if_ge (tgt := 9) hx hb dX8_size_1 (by decide) (fun hc => ?_) (fun hc => ?_)
  · replace h := h.1 hc
    refine lv_iload_n hx hb dX8_size_9 rfl (lv_at hl 0 rfl) ?_
    exact gq_iret C hM h dX8_size_10
  · replace h := h.2 hc
    refine lv_iload_n hx hb dX8_size_4 rfl (lv_at hl 0 rfl) ?_
    refine lv_ineg hx hb dX8_size_5 ?_
    refine lv_goto (tgt := 10) hx hb dX8_size_6 (by decide) ?_
    exact gq_iret C hM h dX8_size_10
theorem k_X8_size : gx_kS yX8_size cX8_size 1 (some .int) 1 := ⟨⟨gw_899, gw_67, by decide, by decide, by decide +kernel⟩, gw_898⟩
abbrev rm_X8_isOver : Room := { frames := 3, cells := 0, slots := 0, locals := 73 }
set_option maxHeartbeats 4000000 in
set_option maxRecDepth 100000 in
theorem c_X8_isOver (l : Launch) (L : gx_L) (a0 : Nat) (hk0 : kM a0 = 8) (p0 : Int32) (p1 : Int32) (p2 : Int32) (I : gx_MM) (Q : Int32 → gx_MM → Prop) (h : wp_X8_isOver a0 p0 p1 p2 I Q) : Met l yX8_isOver (gx_w yX8_isOver cX8_isOver 4 (some .boolean)) rm_X8_isOver (va_Pc [.ref (gx_ad L a0), .int p0, .int p1, .int p2] (gx_U L 7 (cellM L I))) (va_Qi (fun r I' => r &&& 1 = r ∧ Q r I') (fun I' t => gx_U L 7 (cellM L I') t) (gx_A L)) 0 0 (gx_A L) := by
  refine gq_enter (by decide) (Nat.le_of_ble_eq_true rfl) (fun p e s m below meth c ls C hM hl => ?_)
  have C : gx_C L 7 p s m _ meth c RX8 cX8_isOver 4 (some .boolean) := C
  have hl : lv_has ls 4 [(0, .ref (gx_ad L a0)), (1, .int p0), (2, .int p1), (3, .int p2)] := hl
  have hx := C.1
  have hb := C.2.1
  unfold wp_X8_isOver at h
  refine lv_aload_n hx hb dX8_isOver_0 rfl (lv_at hl 0 rfl) ?_
  refine lv_iload_n hx hb dX8_isOver_1 rfl (lv_at hl 1 rfl) ?_
  refine lv_iload_n hx hb dX8_isOver_2 rfl (lv_at hl 2 rfl) ?_
  refine lv_iload_n hx hb dX8_isOver_3 rfl (lv_at hl 3 rfl) ?_
  refine gq_backi C hM (gq_runV (As := [.int p0, .int p1, .int p2]) (rest := []) C hM (kM_lt hk0 (by decide)) (cM_8 hk0) rfl (c_X8_signalOf l L a0 hk0 p0 p1 p2 I _ h) k_X8_signalOf gw_823 rfl hl.1 rfl (Nat.le_of_ble_eq_true rfl) ⟨⟨rfl, rfl⟩, Nat.le_of_ble_eq_true rfl, Nat.le_of_ble_eq_true rfl⟩ ⟨Nat.zero_le _, Nat.zero_le _⟩ dX8_isOver_4) (fun r1 I1 H locs h hM => ?_)
  refine gq_backi C hM (gq_runS (As := [.int r1]) (rest := []) C hM (c_X8_size l L r1 I1 _ h) k_X8_size gw_897 rfl hl.1 rfl (Nat.le_of_ble_eq_true rfl) ⟨⟨rfl, rfl⟩, Nat.le_of_ble_eq_true rfl, Nat.le_of_ble_eq_true rfl⟩ ⟨Nat.zero_le _, Nat.zero_le _⟩ dX8_isOver_7) (fun r2 I2 H locs h hM => ?_)
  refine lv_sipush (v := (30000 : Int32)) hx hb dX8_isOver_10 (by decide) ?_
  refine lv_icmp_le (tgt := 20) hx hb dX8_isOver_13 (by decide) (fun hc => ?_) (fun hc => ?_)
  · replace h := h.1 hc
    refine lv_iconst (v := (0 : Int32)) hx hb dX8_isOver_20 (by decide) ?_
    exact gq_zret C hM ⟨rfl, h⟩ (rfl) dX8_isOver_21
  · replace h := h.2 hc
    refine lv_iconst (v := (1 : Int32)) hx hb dX8_isOver_16 (by decide) ?_
    refine lv_goto (tgt := 21) hx hb dX8_isOver_17 (by decide) ?_
    exact gq_zret C hM ⟨rfl, h⟩ (rfl) dX8_isOver_21
theorem k_X8_isOver : gx_kV yX8_isOver cX8_isOver 4 (some .boolean) 3 := ⟨⟨gw_915, gw_67, by decide, by decide, by decide +kernel⟩, gw_914, gw_44⟩
abbrev rm_X8_overloaded : Room := { frames := 4, cells := 0, slots := 0, locals := 96 }
set_option maxHeartbeats 4000000 in
set_option maxRecDepth 100000 in
theorem tj_X8_overloaded_31 (C : gx_C L 7 p s m args meth c RX8 cX8_overloaded 4 (some .int)) {Q : Int32 → gx_MM → Prop} {K4 : Nat → Int32 → Int32 → Int32 → gx_MM → Prop} (hK4 : ∀ (v0 : Nat) (v1 : Int32) (v2 : Int32) (v3 : Int32) (hv0 : kM v0 = 8) (I : gx_MM) (H : Heap) (locs : List Loc) (ls : Array Slot), gx_S L 7 (cellM L I) s.heap H locs → lv_has ls 4 [(0, .ref (gx_ad L v0)), (1, .int v1), (2, .int v2), (3, .int v3)] → K4 v0 v1 v2 v3 I → W p l e rm_X8_overloaded s m args below meth c H locs 0 0 (MQ below (va_Qi Q (fun I' t => gx_U L 7 (cellM L I') t) (gx_A L)) args s 0 0 (gx_A L)) (F0 m 4 ls [])) : ∀ (v0 : Nat) (v1 : Int32) (v3 : Int32) (u0 : Int32) (u1 : Int32) (hv0 : kM v0 = 8) (I : gx_MM) (H : Heap) (locs : List Loc) (ls : Array Slot), gx_S L 7 (cellM L I) s.heap H locs → lv_has ls 4 [(0, .ref (gx_ad L v0)), (1, .int v1), (3, .int v3)] → wj_X8_overloaded_31 Q K4 v0 v1 v3 u0 u1 I → W p l e rm_X8_overloaded s m args below meth c H locs 0 0 (MQ below (va_Qi Q (fun I' t => gx_U L 7 (cellM L I') t) (gx_A L)) args s 0 0 (gx_A L)) (F0 m 31 ls [.int u0, .int u1]) := by
  have hx := C.1
  have hb := C.2.1
  intro v0 v1 v3 u0 u1 hv0 I H locs ls hM hl h
  unfold wj_X8_overloaded_31 at h
  refine lv_iadd hx hb dX8_overloaded_31 ?_
  refine lv_topi (fun x1 ex1 => ?_)
  replace h := h x1 ex1
  refine lv_istore_n (lv' := [(2, .int x1), (0, .ref (gx_ad L v0)), (1, .int v1), (3, .int v3)]) hx hb dX8_overloaded_32 rfl hl (by decide) rfl (fun ls hl => ?_)
  obtain ⟨x2, ex2⟩ : ∃ z : Int32, z = v3 + (1 : Int32) := ⟨_, rfl⟩
  replace h := h x2 ex2
  refine lv_iinc (v := x2) (lv' := [(3, .int x2), (2, .int x1), (0, .ref (gx_ad L v0)), (1, .int v1)]) hx hb dX8_overloaded_33 hl (k := 3) rfl (by rw [ex2]; rfl) (by decide) rfl (fun ls hl => ?_)
  refine lv_goto (tgt := 4) hx hb dX8_overloaded_36 (by decide) ?_
  exact hK4 v0 v1 x1 x2 (hv0) I _ _ _ hM (lv_sub hl [2, 3, 1, 0] rfl) h
set_option maxHeartbeats 4000000 in
set_option maxRecDepth 100000 in
theorem tl_X8_overloaded_4 (C : gx_C L 7 p s m args meth c RX8 cX8_overloaded 4 (some .int)) {Q : Int32 → gx_MM → Prop} : ∀ (fu : Nat) (v0 : Nat) (v1 : Int32) (v2 : Int32) (v3 : Int32) (hv0 : kM v0 = 8) (I : gx_MM) (H : Heap) (locs : List Loc) (ls : Array Slot), gx_S L 7 (cellM L I) s.heap H locs → lv_has ls 4 [(0, .ref (gx_ad L v0)), (1, .int v1), (2, .int v2), (3, .int v3)] → wl_X8_overloaded_4 Q fu v0 v1 v2 v3 I → W p l e rm_X8_overloaded s m args below meth c H locs 0 0 (MQ below (va_Qi Q (fun I' t => gx_U L 7 (cellM L I') t) (gx_A L)) args s 0 0 (gx_A L)) (F0 m 4 ls []) := by
  have hx := C.1
  have hb := C.2.1
  intro fu
  induction fu with
  | zero => intros; rename_i h; exact False.elim h
  | succ fu ih =>
    intro v0 v1 v2 v3 hv0 I H locs ls hM hl h
    rw [wl_X8_overloaded_4] at h
    refine lv_iload_n hx hb dX8_overloaded_4 rfl (lv_at hl 3 rfl) ?_
    refine lv_iconst (v := (3 : Int32)) hx hb dX8_overloaded_5 (by decide) ?_
    refine lv_icmp_ge (tgt := 39) hx hb dX8_overloaded_6 (by decide) (fun hc => ?_) (fun hc => ?_)
    · replace h := h.1 hc
      refine lv_iload_n hx hb dX8_overloaded_39 rfl (lv_at hl 2 rfl) ?_
      exact gq_iret C hM h dX8_overloaded_40
    · replace h := h.2 hc
      refine lv_iload_n hx hb dX8_overloaded_9 rfl (lv_at hl 2 rfl) ?_
      refine lv_aload_n hx hb dX8_overloaded_10 rfl (lv_at hl 0 rfl) ?_
      refine lv_iload_n hx hb dX8_overloaded_11 rfl (lv_at hl 1 rfl) ?_
      refine lv_iload_n hx hb dX8_overloaded_12 rfl (lv_at hl 3 rfl) ?_
      refine lv_aload_n hx hb dX8_overloaded_13 rfl (lv_at hl 0 rfl) ?_
      refine lv_iload_n hx hb dX8_overloaded_14 rfl (lv_at hl 1 rfl) ?_
      refine lv_bipush (v := (8 : Int32)) hx hb dX8_overloaded_15 (by decide) ?_
      refine gq_backi C hM (gq_runV (As := [.int v1, .int (8 : Int32)]) (rest := [.int v3, .int v1, .ref (gx_ad L v0), .int v2]) C hM (kM_lt hv0 (by decide)) (cM_8 hv0) rfl (c_X8_of l L v0 hv0 v1 (8 : Int32) I _ h) k_X8_of gw_789 rfl hl.1 rfl (Nat.le_of_ble_eq_true rfl) ⟨⟨rfl, rfl⟩, Nat.le_of_ble_eq_true rfl, Nat.le_of_ble_eq_true rfl⟩ ⟨Nat.zero_le _, Nat.zero_le _⟩ dX8_overloaded_17) (fun r1 I1 H locs h hM => ?_)
      refine gq_backi C hM (gq_runV (As := [.int v1, .int v3, .int r1]) (rest := [.int v2]) C hM (kM_lt hv0 (by decide)) (cM_8 hv0) rfl (c_X8_isOver l L v0 hv0 v1 v3 r1 I1 _ h) k_X8_isOver gw_912 rfl hl.1 rfl (Nat.le_of_ble_eq_true rfl) ⟨⟨rfl, rfl⟩, Nat.le_of_ble_eq_true rfl, Nat.le_of_ble_eq_true rfl⟩ ⟨Nat.zero_le _, Nat.zero_le _⟩ dX8_overloaded_20) (fun r2 I2 H locs h hM => ?_)
      obtain ⟨hz1, h⟩ := h
      refine lv_if_eq (tgt := 30) hx hb dX8_overloaded_23 (by decide) (fun hc => ?_) (fun hc => ?_)
      · replace h := h.1 hc
        refine lv_iconst (v := (0 : Int32)) hx hb dX8_overloaded_30 (by decide) ?_
        exact tj_X8_overloaded_31 C ih v0 v1 v3 (0 : Int32) v2 (hv0) I2 _ _ _ hM (lv_sub hl [0, 1, 3] rfl) h
      · replace h := h.2 hc
        refine lv_iconst (v := (1 : Int32)) hx hb dX8_overloaded_26 (by decide) ?_
        refine lv_goto (tgt := 31) hx hb dX8_overloaded_27 (by decide) ?_
        exact tj_X8_overloaded_31 C ih v0 v1 v3 (1 : Int32) v2 (hv0) I2 _ _ _ hM (lv_sub hl [0, 1, 3] rfl) h
set_option maxHeartbeats 4000000 in
set_option maxRecDepth 100000 in
theorem c_X8_overloaded (l : Launch) (L : gx_L) (a0 : Nat) (hk0 : kM a0 = 8) (p0 : Int32) (I : gx_MM) (Q : Int32 → gx_MM → Prop) (h : wp_X8_overloaded a0 p0 I Q) : Met l yX8_overloaded (gx_w yX8_overloaded cX8_overloaded 4 (some .int)) rm_X8_overloaded (va_Pc [.ref (gx_ad L a0), .int p0] (gx_U L 7 (cellM L I))) (va_Qi Q (fun I' t => gx_U L 7 (cellM L I') t) (gx_A L)) 0 0 (gx_A L) := by
  refine gq_enter (by decide) (Nat.le_of_ble_eq_true rfl) (fun p e s m below meth c ls C hM hl => ?_)
  have C : gx_C L 7 p s m _ meth c RX8 cX8_overloaded 4 (some .int) := C
  have hl : lv_has ls 4 [(0, .ref (gx_ad L a0)), (1, .int p0)] := hl
  have hx := C.1
  have hb := C.2.1
  unfold wp_X8_overloaded at h
  refine lv_iconst (v := (0 : Int32)) hx hb dX8_overloaded_0 (by decide) ?_
  refine lv_istore_n (lv' := [(2, .int (0 : Int32)), (0, .ref (gx_ad L a0)), (1, .int p0)]) hx hb dX8_overloaded_1 rfl hl (by decide) rfl (fun ls hl => ?_)
  refine lv_iconst (v := (0 : Int32)) hx hb dX8_overloaded_2 (by decide) ?_
  refine lv_istore_n (lv' := [(3, .int (0 : Int32)), (2, .int (0 : Int32)), (0, .ref (gx_ad L a0)), (1, .int p0)]) hx hb dX8_overloaded_3 rfl hl (by decide) rfl (fun ls hl => ?_)
  obtain ⟨fu, h⟩ := h
  exact tl_X8_overloaded_4 C fu a0 p0 (0 : Int32) (0 : Int32) (hk0) I _ _ _ hM (lv_sub hl [2, 3, 1, 0] rfl) h
theorem k_X8_overloaded : gx_kV yX8_overloaded cX8_overloaded 4 (some .int) 1 := ⟨⟨gw_911, gw_67, by decide, by decide, by decide +kernel⟩, gw_910, gw_43⟩
abbrev rm_X8_readingBy : Room := { frames := 3, cells := 0, slots := 0, locals := 73 }
set_option maxHeartbeats 4000000 in
set_option maxRecDepth 100000 in
theorem c_X8_readingBy (l : Launch) (L : gx_L) (a0 : Nat) (hk0 : kM a0 = 8) (p0 : Int32) (p1 : Int32) (p2 : Int32) (I : gx_MM) (Q : Int32 → gx_MM → Prop) (h : wp_X8_readingBy a0 p0 p1 p2 I Q) : Met l yX8_readingBy (gx_w yX8_readingBy cX8_readingBy 5 (some .int)) rm_X8_readingBy (va_Pc [.ref (gx_ad L a0), .int p0, .int p1, .int p2] (gx_U L 7 (cellM L I))) (va_Qi Q (fun I' t => gx_U L 7 (cellM L I') t) (gx_A L)) 0 0 (gx_A L) := by
  refine gq_enter (by decide) (Nat.le_of_ble_eq_true rfl) (fun p e s m below meth c ls C hM hl => ?_)
  have C : gx_C L 7 p s m _ meth c RX8 cX8_readingBy 5 (some .int) := C
  have hl : lv_has ls 5 [(0, .ref (gx_ad L a0)), (1, .int p0), (2, .int p1), (3, .int p2)] := hl
  have hx := C.1
  have hb := C.2.1
  unfold wp_X8_readingBy at h
  refine lv_aload_n hx hb dX8_readingBy_0 rfl (lv_at hl 0 rfl) ?_
  refine lv_iload_n hx hb dX8_readingBy_1 rfl (lv_at hl 1 rfl) ?_
  refine lv_iload_n hx hb dX8_readingBy_2 rfl (lv_at hl 2 rfl) ?_
  refine lv_iload_n hx hb dX8_readingBy_3 rfl (lv_at hl 3 rfl) ?_
  refine gq_backi C hM (gq_runV (As := [.int p0, .int p1, .int p2]) (rest := []) C hM (kM_lt hk0 (by decide)) (cM_8 hk0) rfl (c_X8_signalOf l L a0 hk0 p0 p1 p2 I _ h) k_X8_signalOf gw_823 rfl hl.1 rfl (Nat.le_of_ble_eq_true rfl) ⟨⟨rfl, rfl⟩, Nat.le_of_ble_eq_true rfl, Nat.le_of_ble_eq_true rfl⟩ ⟨Nat.zero_le _, Nat.zero_le _⟩ dX8_readingBy_4) (fun r1 I1 H locs h hM => ?_)
  refine lv_istore (lv' := [(4, .int r1), (0, .ref (gx_ad L a0)), (1, .int p0), (2, .int p1), (3, .int p2)]) hx hb dX8_readingBy_7 hl (by decide) rfl (fun ls hl => ?_)
  refine lv_iload hx hb dX8_readingBy_9 (lv_at hl 0 rfl) ?_
  refine lv_sipush (v := (-30000 : Int32)) hx hb dX8_readingBy_11 (by decide) ?_
  refine lv_icmp_ge (tgt := 23) hx hb dX8_readingBy_14 (by decide) (fun hc => ?_) (fun hc => ?_)
  · replace h := h.1 hc
    refine lv_iload hx hb dX8_readingBy_23 (lv_at hl 0 rfl) ?_
    refine lv_sipush (v := (30000 : Int32)) hx hb dX8_readingBy_25 (by decide) ?_
    refine lv_icmp_le (tgt := 37) hx hb dX8_readingBy_28 (by decide) (fun hc => ?_) (fun hc => ?_)
    · replace h := h.1 hc
      refine lv_iload hx hb dX8_readingBy_37 (lv_at hl 0 rfl) ?_
      exact gq_iret C hM h dX8_readingBy_39
    · replace h := h.2 hc
      refine lv_sipush (v := (30000 : Int32)) hx hb dX8_readingBy_31 (by decide) ?_
      refine lv_goto (tgt := 39) hx hb dX8_readingBy_34 (by decide) ?_
      exact gq_iret C hM h dX8_readingBy_39
  · replace h := h.2 hc
    refine lv_sipush (v := (-30000 : Int32)) hx hb dX8_readingBy_17 (by decide) ?_
    refine lv_goto (tgt := 39) hx hb dX8_readingBy_20 (by decide) ?_
    exact gq_iret C hM h dX8_readingBy_39
theorem k_X8_readingBy : gx_kV yX8_readingBy cX8_readingBy 5 (some .int) 3 := ⟨⟨gw_822, gw_67, by decide, by decide, by decide +kernel⟩, gw_821, gw_29⟩
abbrev rm_X8_stepOf : Room := { frames := 4, cells := 0, slots := 0, locals := 97 }
set_option maxHeartbeats 4000000 in
set_option maxRecDepth 100000 in
theorem c_X8_stepOf (l : Launch) (L : gx_L) (a0 : Nat) (hk0 : kM a0 = 8) (p0 : Int32) (p1 : Int32) (I : gx_MM) (Q : Int32 → gx_MM → Prop) (h : wp_X8_stepOf a0 p0 p1 I Q) : Met l yX8_stepOf (gx_w yX8_stepOf cX8_stepOf 3 (some .int)) rm_X8_stepOf (va_Pc [.ref (gx_ad L a0), .int p0, .int p1] (gx_U L 7 (cellM L I))) (va_Qi Q (fun I' t => gx_U L 7 (cellM L I') t) (gx_A L)) 0 0 (gx_A L) := by
  refine gq_enter (by decide) (Nat.le_of_ble_eq_true rfl) (fun p e s m below meth c ls C hM hl => ?_)
  have C : gx_C L 7 p s m _ meth c RX8 cX8_stepOf 3 (some .int) := C
  have hl : lv_has ls 3 [(0, .ref (gx_ad L a0)), (1, .int p0), (2, .int p1)] := hl
  have hx := C.1
  have hb := C.2.1
  unfold wp_X8_stepOf at h
  refine lv_aload_n hx hb dX8_stepOf_0 rfl (lv_at hl 0 rfl) ?_
  refine lv_iload_n hx hb dX8_stepOf_1 rfl (lv_at hl 1 rfl) ?_
  refine lv_iload_n hx hb dX8_stepOf_2 rfl (lv_at hl 2 rfl) ?_
  refine lv_iconst (v := (1 : Int32)) hx hb dX8_stepOf_3 (by decide) ?_
  refine gq_backi C hM (gq_runV (As := [.int p0, .int p1, .int (1 : Int32)]) (rest := []) C hM (kM_lt hk0 (by decide)) (cM_8 hk0) rfl (c_X8_readingBy l L a0 hk0 p0 p1 (1 : Int32) I _ h) k_X8_readingBy gw_819 rfl hl.1 rfl (Nat.le_of_ble_eq_true rfl) ⟨⟨rfl, rfl⟩, Nat.le_of_ble_eq_true rfl, Nat.le_of_ble_eq_true rfl⟩ ⟨Nat.zero_le _, Nat.zero_le _⟩ dX8_stepOf_4) (fun r1 I1 H locs h hM => ?_)
  refine lv_aload_n hx hb dX8_stepOf_7 rfl (lv_at hl 0 rfl) ?_
  refine lv_iload_n hx hb dX8_stepOf_8 rfl (lv_at hl 1 rfl) ?_
  refine lv_iload_n hx hb dX8_stepOf_9 rfl (lv_at hl 2 rfl) ?_
  refine lv_iconst (v := (0 : Int32)) hx hb dX8_stepOf_10 (by decide) ?_
  refine gq_backi C hM (gq_runV (As := [.int p0, .int p1, .int (0 : Int32)]) (rest := [.int r1]) C hM (kM_lt hk0 (by decide)) (cM_8 hk0) rfl (c_X8_readingBy l L a0 hk0 p0 p1 (0 : Int32) I1 _ h) k_X8_readingBy gw_819 rfl hl.1 rfl (Nat.le_of_ble_eq_true rfl) ⟨⟨rfl, rfl⟩, Nat.le_of_ble_eq_true rfl, Nat.le_of_ble_eq_true rfl⟩ ⟨Nat.zero_le _, Nat.zero_le _⟩ dX8_stepOf_11) (fun r2 I2 H locs h hM => ?_)
  refine lv_isub hx hb dX8_stepOf_14 ?_
  exact gq_iret C hM h dX8_stepOf_15
theorem k_X8_stepOf : gx_kV yX8_stepOf cX8_stepOf 3 (some .int) 2 := ⟨⟨gw_923, gw_67, by decide, by decide, by decide +kernel⟩, gw_922, gw_46⟩
abbrev rm_X8_zeroDue : Room := { frames := 3, cells := 0, slots := 0, locals := 73 }
set_option maxHeartbeats 4000000 in
set_option maxRecDepth 100000 in
theorem c_X8_zeroDue (l : Launch) (L : gx_L) (a0 : Nat) (hk0 : kM a0 = 8) (p0 : Int32) (p1 : Int32) (I : gx_MM) (Q : Int32 → gx_MM → Prop) (h : wp_X8_zeroDue a0 p0 p1 I Q) : Met l yX8_zeroDue (gx_w yX8_zeroDue cX8_zeroDue 3 (some .int)) rm_X8_zeroDue (va_Pc [.ref (gx_ad L a0), .int p0, .int p1] (gx_U L 7 (cellM L I))) (va_Qi Q (fun I' t => gx_U L 7 (cellM L I') t) (gx_A L)) 0 0 (gx_A L) := by
  refine gq_enter (by decide) (Nat.le_of_ble_eq_true rfl) (fun p e s m below meth c ls C hM hl => ?_)
  have C : gx_C L 7 p s m _ meth c RX8 cX8_zeroDue 3 (some .int) := C
  have hl : lv_has ls 3 [(0, .ref (gx_ad L a0)), (1, .int p0), (2, .int p1)] := hl
  have hx := C.1
  have hb := C.2.1
  unfold wp_X8_zeroDue at h
  refine lv_aload_n hx hb dX8_zeroDue_0 rfl (lv_at hl 0 rfl) ?_
  refine lv_iload_n hx hb dX8_zeroDue_1 rfl (lv_at hl 1 rfl) ?_
  refine lv_iload_n hx hb dX8_zeroDue_2 rfl (lv_at hl 2 rfl) ?_
  refine lv_aload_n hx hb dX8_zeroDue_3 rfl (lv_at hl 0 rfl) ?_
  refine lv_iload_n hx hb dX8_zeroDue_4 rfl (lv_at hl 1 rfl) ?_
  refine lv_bipush (v := (8 : Int32)) hx hb dX8_zeroDue_5 (by decide) ?_
  refine gq_backi C hM (gq_runV (As := [.int p0, .int (8 : Int32)]) (rest := [.int p1, .int p0, .ref (gx_ad L a0)]) C hM (kM_lt hk0 (by decide)) (cM_8 hk0) rfl (c_X8_of l L a0 hk0 p0 (8 : Int32) I _ h) k_X8_of gw_789 rfl hl.1 rfl (Nat.le_of_ble_eq_true rfl) ⟨⟨rfl, rfl⟩, Nat.le_of_ble_eq_true rfl, Nat.le_of_ble_eq_true rfl⟩ ⟨Nat.zero_le _, Nat.zero_le _⟩ dX8_zeroDue_7) (fun r1 I1 H locs h hM => ?_)
  refine gq_backi C hM (gq_runV (As := [.int p0, .int p1, .int r1]) (rest := []) C hM (kM_lt hk0 (by decide)) (cM_8 hk0) rfl (c_X8_signalOf l L a0 hk0 p0 p1 r1 I1 _ h) k_X8_signalOf gw_823 rfl hl.1 rfl (Nat.le_of_ble_eq_true rfl) ⟨⟨rfl, rfl⟩, Nat.le_of_ble_eq_true rfl, Nat.le_of_ble_eq_true rfl⟩ ⟨Nat.zero_le _, Nat.zero_le _⟩ dX8_zeroDue_10) (fun r2 I2 H locs h hM => ?_)
  refine lv_aload_n hx hb dX8_zeroDue_13 rfl (lv_at hl 0 rfl) ?_
  refine lv_iload_n hx hb dX8_zeroDue_14 rfl (lv_at hl 1 rfl) ?_
  refine lv_iload_n hx hb dX8_zeroDue_15 rfl (lv_at hl 2 rfl) ?_
  refine lv_iconst (v := (1 : Int32)) hx hb dX8_zeroDue_16 (by decide) ?_
  refine gq_backi C hM (gq_runV (As := [.int p0, .int p1, .int (1 : Int32)]) (rest := [.int r2]) C hM (kM_lt hk0 (by decide)) (cM_8 hk0) rfl (c_X8_ofGauge l L a0 hk0 p0 p1 (1 : Int32) I2 _ h) k_X8_ofGauge gw_827 rfl hl.1 rfl (Nat.le_of_ble_eq_true rfl) ⟨⟨rfl, rfl⟩, Nat.le_of_ble_eq_true rfl, Nat.le_of_ble_eq_true rfl⟩ ⟨Nat.zero_le _, Nat.zero_le _⟩ dX8_zeroDue_17) (fun r3 I3 H locs h hM => ?_)
  refine lv_iadd hx hb dX8_zeroDue_20 ?_
  exact gq_iret C hM h dX8_zeroDue_21
theorem k_X8_zeroDue : gx_kV yX8_zeroDue cX8_zeroDue 3 (some .int) 2 := ⟨⟨gw_919, gw_67, by decide, by decide, by decide +kernel⟩, gw_918, gw_45⟩
end
