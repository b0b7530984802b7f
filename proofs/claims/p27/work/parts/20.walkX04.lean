section
variable {p : Program} {l : Launch} {e : Env} {s : State} {m : MethodId} {args : Array Value} {below : List Frame} {meth : Method} {c : Code} {L : gx_L}
abbrev rm_X7_setOffset : Room := { frames := 4, cells := 0, slots := 0, locals := 90 }
set_option maxHeartbeats 4000000 in
set_option maxRecDepth 100000 in
theorem c_X7_setOffset (l : Launch) (L : gx_L) (a0 : Nat) (hk0 : kX a0 = 7) (p0 : Int32) (p1 : Int32) (p2 : Int32) (I : gx_M) (Q : Int32 → gx_M → Prop) (h : wp_X7_setOffset a0 p0 p1 p2 I Q) : Met l yX7_setOffset (gx_w yX7_setOffset cX7_setOffset 6 (some .int)) rm_X7_setOffset (va_Pc [.ref (gx_ad L a0), .int p0, .int p1, .int p2] (gx_U L 282 (cellX L I))) (va_Qi Q (fun I' t => gx_U L 282 (cellX L I') t) (gx_A L)) 0 0 (gx_A L) := by
  refine gq_enter (by decide) (Nat.le_of_ble_eq_true rfl) (fun p e s m below meth c ls C hM hl => ?_)
  have C : gx_C L 282 p s m _ meth c RX7 cX7_setOffset 6 (some .int) := C
  have hl : lv_has ls 6 [(0, .ref (gx_ad L a0)), (1, .int p0), (2, .int p1), (3, .int p2)] := hl
  have hx := C.1
  have hb := C.2.1
  unfold wp_X7_setOffset at h
  refine lv_aload_n hx hb dX7_setOffset_0 rfl (lv_at hl 0 rfl) ?_
  refine gX7_0 C hM hk0 gw_306 dX7_setOffset_1 ?_
  refine lv_iload_n hx hb dX7_setOffset_4 rfl (lv_at hl 1 rfl) ?_
  refine gq_backe C hM (gq_runV (As := [.int p0]) (rest := []) C hM (kX_lt (kX_7_0 hk0) (by decide)) (cX_6 (kX_7_0 hk0)) rfl (c_X6_find l L (a0 + 1) (kX_7_0 hk0) p0 I _ h) k_X6_find gw_387 rfl hl.1 rfl (Nat.le_of_ble_eq_true rfl) ⟨⟨rfl, rfl⟩, Nat.le_of_ble_eq_true rfl, Nat.le_of_ble_eq_true rfl⟩ ⟨Nat.zero_le _, Nat.zero_le _⟩ dX7_setOffset_5) (fun r1 I1 H locs h hM => ?_)
  obtain ⟨hk1, h⟩ := h
  rcases r1 with _ | b1
  · replace h := h.1 rfl
    refine W.eq (g2 := F0 m 8 ls [.null]) rfl ?_
    refine lv_astoreN (lv' := [(4, .null), (0, .ref (gx_ad L a0)), (1, .int p0), (2, .int p1), (3, .int p2)]) hx hb dX7_setOffset_8 hl (by decide) rfl (fun ls hl => ?_)
    refine lv_aloadN hx hb dX7_setOffset_10 (lv_at hl 0 rfl) ?_
    refine lv_ifnullN (tgt := 29) hx hb dX7_setOffset_12 (by decide) ?_
    refine gq_ldc (v := (-1000001 : Int32)) C gw_388 dX7_setOffset_29 ?_
    exact gq_iret C hM h dX7_setOffset_31
  · have hk := hk1 b1 rfl
    replace h := h.2 b1 rfl hk
    have hk2 := hk
    refine W.eq (g2 := F0 m 8 ls [.ref (gx_ad L b1)]) rfl ?_
    refine lv_astore (lv' := [(4, .ref (gx_ad L b1)), (0, .ref (gx_ad L a0)), (1, .int p0), (2, .int p1), (3, .int p2)]) hx hb dX7_setOffset_8 hl (by decide) rfl (fun ls hl => ?_)
    refine lv_aload hx hb dX7_setOffset_10 (lv_at hl 0 rfl) ?_
    refine lv_ifnull hx hb dX7_setOffset_12 ?_
    refine lv_iload_n hx hb dX7_setOffset_15 rfl (lv_at hl 3 rfl) ?_
    refine lv_if_lt (tgt := 29) hx hb dX7_setOffset_16 (by decide) (fun hc => ?_) (fun hc => ?_)
    · replace h := h.1 hc
      refine gq_ldc (v := (-1000001 : Int32)) C gw_388 dX7_setOffset_29 ?_
      exact gq_iret C hM h dX7_setOffset_31
    · replace h := h.2 hc
      refine lv_iload_n hx hb dX7_setOffset_19 rfl (lv_at hl 3 rfl) ?_
      refine lv_aload hx hb dX7_setOffset_20 (lv_at hl 0 rfl) ?_
      refine gX4_9 C hM hk2 gw_102 dX7_setOffset_22 ?_
      refine galenX_20 C hM (kX_4_9 hk2) dX7_setOffset_25 ?_
      refine lv_icmp_lt (tgt := 32) hx hb dX7_setOffset_26 (by decide) (fun hc => ?_) (fun hc => ?_)
      · replace h := h.1 hc
        refine lv_iload_n hx hb dX7_setOffset_32 rfl (lv_at hl 4 rfl) ?_
        refine lv_sipush (v := (9999 : Int32)) hx hb dX7_setOffset_33 (by decide) ?_
        refine gq_backi C hM (gq_runS (As := [.int p2, .int (9999 : Int32)]) (rest := []) C hM (c_X7_isAround0 l L p2 (9999 : Int32) I1 _ h) k_X7_isAround0 gw_510 rfl hl.1 rfl (Nat.le_of_ble_eq_true rfl) ⟨⟨rfl, rfl⟩, Nat.le_of_ble_eq_true rfl, Nat.le_of_ble_eq_true rfl⟩ ⟨Nat.zero_le _, Nat.zero_le _⟩ dX7_setOffset_36) (fun r2 I2 H locs h hM => ?_)
        obtain ⟨hz1, h⟩ := h
        refine lv_if_ne (tgt := 45) hx hb dX7_setOffset_39 (by decide) (fun hc => ?_) (fun hc => ?_)
        · replace h := h.2 hc
          refine lv_aload hx hb dX7_setOffset_45 (lv_at hl 0 rfl) ?_
          refine gX4_9 C hM hk2 gw_102 dX7_setOffset_47 ?_
          refine lv_iload_n hx hb dX7_setOffset_50 rfl (lv_at hl 3 rfl) ?_
          refine gialdX C hM (kX_4_9 hk2) h.1 dX7_setOffset_51 ?_
          replace h := h.2
          refine lv_topi (fun x1 ex1 => ?_)
          replace h := h x1 ex1
          refine lv_istore (lv' := [(5, .int x1), (4, .ref (gx_ad L b1)), (0, .ref (gx_ad L a0)), (1, .int p0), (2, .int p1), (3, .int p2)]) hx hb dX7_setOffset_52 hl (by decide) rfl (fun ls hl => ?_)
          refine lv_iload hx hb dX7_setOffset_54 (lv_at hl 0 rfl) ?_
          refine lv_iload_n hx hb dX7_setOffset_56 rfl (lv_at hl 5 rfl) ?_
          refine lv_icmp_ne (tgt := 63) hx hb dX7_setOffset_57 (by decide) (fun hc => ?_) (fun hc => ?_)
          · replace h := h.2 hc
            refine lv_aload_n hx hb dX7_setOffset_63 rfl (lv_at hl 2 rfl) ?_
            refine gX7_3 C hM hk0 gw_309 dX7_setOffset_64 ?_
            refine lv_aload_n hx hb dX7_setOffset_67 rfl (lv_at hl 2 rfl) ?_
            refine gX7_0 C hM hk0 gw_306 dX7_setOffset_68 ?_
            refine gq_backv C hM (gq_runV (As := [.ref (gx_ad L (a0 + 1))]) (rest := []) C hM (kX_lt (kX_7_3 hk0) (by decide)) (cX_0 (kX_7_3 hk0)) rfl (c_X0_add l L (a0 + 77) (kX_7_3 hk0) (a0 + 1) (kX_7_0 hk0) I2 _ h) k_X0_add gw_356 rfl hl.1 rfl (Nat.le_of_ble_eq_true rfl) ⟨⟨rfl, rfl⟩, Nat.le_of_ble_eq_true rfl, Nat.le_of_ble_eq_true rfl⟩ ⟨Nat.zero_le _, Nat.zero_le _⟩ dX7_setOffset_71) (fun I3 H locs h hM => ?_)
            refine lv_aload hx hb dX7_setOffset_74 (lv_at hl 1 rfl) ?_
            refine gX4_9 C hM hk2 gw_102 dX7_setOffset_76 ?_
            refine lv_iload_n hx hb dX7_setOffset_79 rfl (lv_at hl 4 rfl) ?_
            refine lv_iload_n hx hb dX7_setOffset_80 rfl (lv_at hl 5 rfl) ?_
            have hi := h.1
            replace h := h.2
            obtain ⟨I4, eI4⟩ : ∃ z : gx_M, z = up I3 (b1 + 1) p1.toNatClampNeg p2 := ⟨_, rfl⟩
            replace h := h I4 eI4
            refine giastX C hM (kX_4_9 hk2) hi eI4 dX7_setOffset_81 (fun H locs hM => ?_)
            refine lv_iload hx hb dX7_setOffset_82 (lv_at hl 0 rfl) ?_
            exact gq_iret C hM h dX7_setOffset_84
          · replace h := h.1 hc
            refine gq_ldc (v := (-1000004 : Int32)) C gw_399 dX7_setOffset_60 ?_
            exact gq_iret C hM h dX7_setOffset_62
        · replace h := h.1 hc
          refine gq_ldc (v := (-1000002 : Int32)) C gw_338 dX7_setOffset_42 ?_
          exact gq_iret C hM h dX7_setOffset_44
      · replace h := h.2 hc
        refine gq_ldc (v := (-1000001 : Int32)) C gw_388 dX7_setOffset_29 ?_
        exact gq_iret C hM h dX7_setOffset_31
theorem k_X7_setOffset : gx_kV yX7_setOffset cX7_setOffset 6 (some .int) 3 := ⟨⟨gw_696, gw_22, by decide, by decide, by decide +kernel⟩, gw_694, gw_695⟩
abbrev rm_X7_setShunt : Room := { frames := 5, cells := 0, slots := 0, locals := 110 }
set_option maxHeartbeats 4000000 in
set_option maxRecDepth 100000 in
theorem c_X7_setShunt (l : Launch) (L : gx_L) (a0 : Nat) (hk0 : kX a0 = 7) (p0 : Int32) (p1 : Int32) (I : gx_M) (Q : Int32 → gx_M → Prop) (h : wp_X7_setShunt a0 p0 p1 I Q) : Met l yX7_setShunt (gx_w yX7_setShunt cX7_setShunt 4 (some .int)) rm_X7_setShunt (va_Pc [.ref (gx_ad L a0), .int p0, .int p1] (gx_U L 282 (cellX L I))) (va_Qi Q (fun I' t => gx_U L 282 (cellX L I') t) (gx_A L)) 0 0 (gx_A L) := by
  refine gq_enter (by decide) (Nat.le_of_ble_eq_true rfl) (fun p e s m below meth c ls C hM hl => ?_)
  have C : gx_C L 282 p s m _ meth c RX7 cX7_setShunt 4 (some .int) := C
  have hl : lv_has ls 4 [(0, .ref (gx_ad L a0)), (1, .int p0), (2, .int p1)] := hl
  have hx := C.1
  have hb := C.2.1
  unfold wp_X7_setShunt at h
  refine lv_aload_n hx hb dX7_setShunt_0 rfl (lv_at hl 0 rfl) ?_
  refine gX7_0 C hM hk0 gw_306 dX7_setShunt_1 ?_
  refine lv_iload_n hx hb dX7_setShunt_4 rfl (lv_at hl 1 rfl) ?_
  refine gq_backe C hM (gq_runV (As := [.int p0]) (rest := []) C hM (kX_lt (kX_7_0 hk0) (by decide)) (cX_6 (kX_7_0 hk0)) rfl (c_X6_find l L (a0 + 1) (kX_7_0 hk0) p0 I _ h) k_X6_find gw_387 rfl hl.1 rfl (Nat.le_of_ble_eq_true rfl) ⟨⟨rfl, rfl⟩, Nat.le_of_ble_eq_true rfl, Nat.le_of_ble_eq_true rfl⟩ ⟨Nat.zero_le _, Nat.zero_le _⟩ dX7_setShunt_5) (fun r1 I1 H locs h hM => ?_)
  obtain ⟨hk1, h⟩ := h
  rcases r1 with _ | b1
  · replace h := h.1 rfl
    refine W.eq (g2 := F0 m 8 ls [.null]) rfl ?_
    refine lv_astore_nN (lv' := [(3, .null), (0, .ref (gx_ad L a0)), (1, .int p0), (2, .int p1)]) hx hb dX7_setShunt_8 rfl hl (by decide) rfl (fun ls hl => ?_)
    refine lv_aload_nN hx hb dX7_setShunt_9 rfl (lv_at hl 0 rfl) ?_
    refine lv_ifnonnullN hx hb dX7_setShunt_10 ?_
    refine gq_ldc (v := (-1000001 : Int32)) C gw_388 dX7_setShunt_13 ?_
    exact gq_iret C hM h dX7_setShunt_15
  · have hk := hk1 b1 rfl
    replace h := h.2 b1 rfl hk
    have hk2 := hk
    refine W.eq (g2 := F0 m 8 ls [.ref (gx_ad L b1)]) rfl ?_
    refine lv_astore_n (lv' := [(3, .ref (gx_ad L b1)), (0, .ref (gx_ad L a0)), (1, .int p0), (2, .int p1)]) hx hb dX7_setShunt_8 rfl hl (by decide) rfl (fun ls hl => ?_)
    refine lv_aload_n hx hb dX7_setShunt_9 rfl (lv_at hl 0 rfl) ?_
    refine lv_ifnonnull (tgt := 16) hx hb dX7_setShunt_10 (by decide) ?_
    refine lv_aload_n hx hb dX7_setShunt_16 rfl (lv_at hl 0 rfl) ?_
    refine gX4_8 C hM hk2 gw_99 dX7_setShunt_17 ?_
    refine lv_iload_n hx hb dX7_setShunt_20 rfl (lv_at hl 3 rfl) ?_
    refine lv_icmp_ne (tgt := 27) hx hb dX7_setShunt_21 (by decide) (fun hc => ?_) (fun hc => ?_)
    · replace h := h.2 hc
      refine lv_aload_n hx hb dX7_setShunt_27 rfl (lv_at hl 1 rfl) ?_
      refine gX7_3 C hM hk0 gw_309 dX7_setShunt_28 ?_
      refine lv_aload_n hx hb dX7_setShunt_31 rfl (lv_at hl 1 rfl) ?_
      refine gX7_0 C hM hk0 gw_306 dX7_setShunt_32 ?_
      refine gq_backv C hM (gq_runV (As := [.ref (gx_ad L (a0 + 1))]) (rest := []) C hM (kX_lt (kX_7_3 hk0) (by decide)) (cX_0 (kX_7_3 hk0)) rfl (c_X0_add l L (a0 + 77) (kX_7_3 hk0) (a0 + 1) (kX_7_0 hk0) I1 _ h) k_X0_add gw_356 rfl hl.1 rfl (Nat.le_of_ble_eq_true rfl) ⟨⟨rfl, rfl⟩, Nat.le_of_ble_eq_true rfl, Nat.le_of_ble_eq_true rfl⟩ ⟨Nat.zero_le _, Nat.zero_le _⟩ dX7_setShunt_35) (fun I2 H locs h hM => ?_)
      refine lv_aload_n hx hb dX7_setShunt_38 rfl (lv_at hl 0 rfl) ?_
      refine lv_iload_n hx hb dX7_setShunt_39 rfl (lv_at hl 3 rfl) ?_
      have hz := h.1
      replace h := h.2
      obtain ⟨I3, eI3⟩ : ∃ z : gx_M, z = up I2 b1 8 p1 := ⟨_, rfl⟩
      replace h := h I3 eI3
      refine pX4_8 C hM hk2 hz eI3 gw_99 dX7_setShunt_40 (fun H locs hM => ?_)
      refine lv_aload_n hx hb dX7_setShunt_43 rfl (lv_at hl 1 rfl) ?_
      refine gX7_7 C hM hk0 gw_313 dX7_setShunt_44 ?_
      refine lv_aload_n hx hb dX7_setShunt_47 rfl (lv_at hl 0 rfl) ?_
      refine lv_aload_n hx hb dX7_setShunt_48 rfl (lv_at hl 1 rfl) ?_
      refine gX7_0 C hM hk0 gw_306 dX7_setShunt_49 ?_
      refine gX6_4 C hM (kX_7_0 hk0) gw_145 dX7_setShunt_52 ?_
      refine gq_backv C hM (gq_runV (As := [.ref (gx_ad L b1), .int (I3 (a0 + 1) 4)]) (rest := []) C hM (kX_lt (kX_7_7 hk0) (by decide)) (cX_2 (kX_7_7 hk0)) rfl (c_X2_take l L (a0 + 275) (kX_7_7 hk0) b1 hk2 (I3 (a0 + 1) 4) I3 _ h) k_X2_take gw_444 rfl hl.1 rfl (Nat.le_of_ble_eq_true rfl) ⟨⟨rfl, rfl⟩, Nat.le_of_ble_eq_true rfl, Nat.le_of_ble_eq_true rfl⟩ ⟨Nat.zero_le _, Nat.zero_le _⟩ dX7_setShunt_55) (fun I4 H locs h hM => ?_)
      refine lv_aload_n hx hb dX7_setShunt_58 rfl (lv_at hl 1 rfl) ?_
      refine gX7_7 C hM hk0 gw_313 dX7_setShunt_59 ?_
      refine gX2_2 C hM (kX_7_7 hk0) gw_251 dX7_setShunt_62 ?_
      refine lv_iconst (v := (0 : Int32)) hx hb dX7_setShunt_65 (by decide) ?_
      refine gialdX C hM (kX_2_2 (kX_7_7 hk0)) h.1 dX7_setShunt_66 ?_
      replace h := h.2
      exact gq_iret C hM h dX7_setShunt_67
    · replace h := h.1 hc
      refine gq_ldc (v := (-1000004 : Int32)) C gw_399 dX7_setShunt_24 ?_
      exact gq_iret C hM h dX7_setShunt_26
theorem k_X7_setShunt : gx_kV yX7_setShunt cX7_setShunt 4 (some .int) 2 := ⟨⟨gw_700, gw_22, by decide, by decide, by decide +kernel⟩, gw_698, gw_699⟩
abbrev rm_X7_setSize : Room := { frames := 4, cells := 0, slots := 0, locals := 90 }
set_option maxHeartbeats 4000000 in
set_option maxRecDepth 100000 in
theorem c_X7_setSize (l : Launch) (L : gx_L) (a0 : Nat) (hk0 : kX a0 = 7) (p0 : Int32) (I : gx_M) (Q : Int32 → gx_M → Prop) (h : wp_X7_setSize a0 p0 I Q) : Met l yX7_setSize (gx_w yX7_setSize cX7_setSize 3 (some .int)) rm_X7_setSize (va_Pc [.ref (gx_ad L a0), .int p0] (gx_U L 282 (cellX L I))) (va_Qi Q (fun I' t => gx_U L 282 (cellX L I') t) (gx_A L)) 0 0 (gx_A L) := by
  refine gq_enter (by decide) (Nat.le_of_ble_eq_true rfl) (fun p e s m below meth c ls C hM hl => ?_)
  have C : gx_C L 282 p s m _ meth c RX7 cX7_setSize 3 (some .int) := C
  have hl : lv_has ls 3 [(0, .ref (gx_ad L a0)), (1, .int p0)] := hl
  have hx := C.1
  have hb := C.2.1
  unfold wp_X7_setSize at h
  refine lv_iload_n hx hb dX7_setSize_0 rfl (lv_at hl 1 rfl) ?_
  refine lv_bipush (v := (20 : Int32)) hx hb dX7_setSize_1 (by decide) ?_
  refine lv_sipush (v := (500 : Int32)) hx hb dX7_setSize_3 (by decide) ?_
  refine gq_backi C hM (gq_runS (As := [.int p0, .int (20 : Int32), .int (500 : Int32)]) (rest := []) C hM (c_X7_isWithin l L p0 (20 : Int32) (500 : Int32) I _ h) k_X7_isWithin gw_335 rfl hl.1 rfl (Nat.le_of_ble_eq_true rfl) ⟨⟨rfl, rfl⟩, Nat.le_of_ble_eq_true rfl, Nat.le_of_ble_eq_true rfl⟩ ⟨Nat.zero_le _, Nat.zero_le _⟩ dX7_setSize_6) (fun r1 I1 H locs h hM => ?_)
  obtain ⟨hz1, h⟩ := h
  refine lv_if_ne (tgt := 15) hx hb dX7_setSize_9 (by decide) (fun hc => ?_) (fun hc => ?_)
  · replace h := h.2 hc
    refine lv_aload_n hx hb dX7_setSize_15 rfl (lv_at hl 0 rfl) ?_
    refine gX7_0 C hM hk0 gw_306 dX7_setSize_16 ?_
    refine gX6_4 C hM (kX_7_0 hk0) gw_145 dX7_setSize_19 ?_
    refine lv_topi (fun x1 ex1 => ?_)
    replace h := h x1 ex1
    refine lv_istore_n (lv' := [(2, .int x1), (0, .ref (gx_ad L a0)), (1, .int p0)]) hx hb dX7_setSize_22 rfl hl (by decide) rfl (fun ls hl => ?_)
    refine lv_iload_n hx hb dX7_setSize_23 rfl (lv_at hl 0 rfl) ?_
    refine lv_iload_n hx hb dX7_setSize_24 rfl (lv_at hl 2 rfl) ?_
    refine lv_icmp_ne (tgt := 31) hx hb dX7_setSize_25 (by decide) (fun hc => ?_) (fun hc => ?_)
    · replace h := h.2 hc
      refine lv_aload_n hx hb dX7_setSize_31 rfl (lv_at hl 1 rfl) ?_
      refine gX7_3 C hM hk0 gw_309 dX7_setSize_32 ?_
      refine lv_aload_n hx hb dX7_setSize_35 rfl (lv_at hl 1 rfl) ?_
      refine gX7_0 C hM hk0 gw_306 dX7_setSize_36 ?_
      refine gq_backv C hM (gq_runV (As := [.ref (gx_ad L (a0 + 1))]) (rest := []) C hM (kX_lt (kX_7_3 hk0) (by decide)) (cX_0 (kX_7_3 hk0)) rfl (c_X0_add l L (a0 + 77) (kX_7_3 hk0) (a0 + 1) (kX_7_0 hk0) I1 _ h) k_X0_add gw_356 rfl hl.1 rfl (Nat.le_of_ble_eq_true rfl) ⟨⟨rfl, rfl⟩, Nat.le_of_ble_eq_true rfl, Nat.le_of_ble_eq_true rfl⟩ ⟨Nat.zero_le _, Nat.zero_le _⟩ dX7_setSize_39) (fun I2 H locs h hM => ?_)
      refine lv_aload_n hx hb dX7_setSize_42 rfl (lv_at hl 1 rfl) ?_
      refine gX7_0 C hM hk0 gw_306 dX7_setSize_43 ?_
      refine lv_iload_n hx hb dX7_setSize_46 rfl (lv_at hl 2 rfl) ?_
      obtain ⟨I3, eI3⟩ : ∃ z : gx_M, z = up I2 (a0 + 1) 4 p0 := ⟨_, rfl⟩
      replace h := h I3 eI3
      refine pX6_4 C hM (kX_7_0 hk0) eI3 gw_145 dX7_setSize_47 (fun H locs hM => ?_)
      refine lv_iload_n hx hb dX7_setSize_50 rfl (lv_at hl 0 rfl) ?_
      exact gq_iret C hM h dX7_setSize_51
    · replace h := h.1 hc
      refine gq_ldc (v := (-1000004 : Int32)) C gw_399 dX7_setSize_28 ?_
      exact gq_iret C hM h dX7_setSize_30
  · replace h := h.1 hc
    refine gq_ldc (v := (-1000002 : Int32)) C gw_338 dX7_setSize_12 ?_
    exact gq_iret C hM h dX7_setSize_14
theorem k_X7_setSize : gx_kV yX7_setSize cX7_setSize 3 (some .int) 1 := ⟨⟨gw_704, gw_22, by decide, by decide, by decide +kernel⟩, gw_702, gw_703⟩
abbrev rm_X2_holdReadings : Room := { frames := 1, cells := 0, slots := 0, locals := 26 }
set_option maxHeartbeats 4000000 in
set_option maxRecDepth 100000 in
theorem c_X2_holdReadings (l : Launch) (L : gx_L) (a0 : Nat) (hk0 : kX a0 = 2) (I : gx_M) (Q : gx_M → Prop) (h : wp_X2_holdReadings a0 I Q) : Met l yX2_holdReadings (gx_w yX2_holdReadings cX2_holdReadings 1 none) rm_X2_holdReadings (va_Pc [.ref (gx_ad L a0)] (gx_U L 282 (cellX L I))) (va_Qv Q (fun I' t => gx_U L 282 (cellX L I') t) (gx_A L)) 0 0 (gx_A L) := by
  refine gq_enter (by decide) (Nat.le_of_ble_eq_true rfl) (fun p e s m below meth c ls C hM hl => ?_)
  have C : gx_C L 282 p s m _ meth c RX2 cX2_holdReadings 1 none := C
  have hl : lv_has ls 1 [(0, .ref (gx_ad L a0))] := hl
  have hx := C.1
  have hb := C.2.1
  unfold wp_X2_holdReadings at h
  refine lv_aload_n hx hb dX2_holdReadings_0 rfl (lv_at hl 0 rfl) ?_
  refine gX2_2 C hM hk0 gw_250 dX2_holdReadings_1 ?_
  refine lv_iconst (v := (0 : Int32)) hx hb dX2_holdReadings_4 (by decide) ?_
  refine lv_aload_n hx hb dX2_holdReadings_5 rfl (lv_at hl 0 rfl) ?_
  refine gX2_3 C hM hk0 gw_252 dX2_holdReadings_6 ?_
  refine lv_iconst (v := (0 : Int32)) hx hb dX2_holdReadings_9 (by decide) ?_
  refine lv_iconst (v := (3 : Int32)) hx hb dX2_holdReadings_10 (by decide) ?_
  have hi := h.1
  replace h := h.2
  obtain ⟨I1, eI1⟩ : ∃ z : gx_M, z = upr I (a0 + 4) (va_cpy (I (a0 + 3)) (I (a0 + 4)) (0 : Int32).toNatClampNeg (0 : Int32).toNatClampNeg (3 : Int32).toNatClampNeg) := ⟨_, rfl⟩
  replace h := h I1 eI1
  refine gcopyX C hM (kX_2_2 hk0) (kX_2_3 hk0) gw_684 hl.1 hi eI1 (Nat.le_of_ble_eq_true rfl) (Nat.le_of_ble_eq_true rfl) dX2_holdReadings_11 (fun H locs hM => ?_)
  exact gq_vret C hM h dX2_holdReadings_14
theorem k_X2_holdReadings : gx_kV yX2_holdReadings cX2_holdReadings 1 none 0 := ⟨⟨gw_683, gw_30, by decide, by decide, by decide +kernel⟩, gw_681, gw_682⟩
abbrev rm_X2_readingsChanged : Room := { frames := 0, cells := 0, slots := 0, locals := 0 }
set_option maxHeartbeats 4000000 in
set_option maxRecDepth 100000 in
theorem tj_X2_readingsChanged_27 (C : gx_C L 282 p s m args meth c RX2 cX2_readingsChanged 3 (some .int)) {Q : Int32 → gx_M → Prop} {K4 : Nat → Int32 → Int32 → gx_M → Prop} (hK4 : ∀ (v0 : Nat) (v1 : Int32) (v2 : Int32) (hv0 : kX v0 = 2) (I : gx_M) (H : Heap) (locs : List Loc) (ls : Array Slot), gx_S L 282 (cellX L I) s.heap H locs → lv_has ls 3 [(0, .ref (gx_ad L v0)), (1, .int v1), (2, .int v2)] → K4 v0 v1 v2 I → W p l e rm_X2_readingsChanged s m args below meth c H locs 0 0 (MQ below (va_Qi Q (fun I' t => gx_U L 282 (cellX L I') t) (gx_A L)) args s 0 0 (gx_A L)) (F0 m 4 ls [])) : ∀ (v0 : Nat) (v1 : Int32) (v2 : Int32) (hv0 : kX v0 = 2) (I : gx_M) (H : Heap) (locs : List Loc) (ls : Array Slot), gx_S L 282 (cellX L I) s.heap H locs → lv_has ls 3 [(0, .ref (gx_ad L v0)), (1, .int v1), (2, .int v2)] → wj_X2_readingsChanged_27 Q K4 v0 v1 v2 I → W p l e rm_X2_readingsChanged s m args below meth c H locs 0 0 (MQ below (va_Qi Q (fun I' t => gx_U L 282 (cellX L I') t) (gx_A L)) args s 0 0 (gx_A L)) (F0 m 27 ls []) := by
  have hx := C.1
  have hb := C.2.1
  intro v0 v1 v2 hv0 I H locs ls hM hl h
  unfold wj_X2_readingsChanged_27 at h
  obtain ⟨x1, ex1⟩ : ∃ z : Int32, z = v2 + (1 : Int32) := ⟨_, rfl⟩
  replace h := h x1 ex1
  refine lv_iinc (v := x1) (lv' := [(2, .int x1), (0, .ref (gx_ad L v0)), (1, .int v1)]) hx hb dX2_readingsChanged_27 hl (k := 2) rfl (by rw [ex1]; rfl) (by decide) rfl (fun ls hl => ?_)
  refine lv_goto (tgt := 4) hx hb dX2_readingsChanged_30 (by decide) ?_
  exact hK4 v0 v1 x1 (hv0) I _ _ _ hM (lv_sub hl [1, 2, 0] rfl) h
set_option maxHeartbeats 4000000 in
set_option maxRecDepth 100000 in
theorem tl_X2_readingsChanged_4 (C : gx_C L 282 p s m args meth c RX2 cX2_readingsChanged 3 (some .int)) {Q : Int32 → gx_M → Prop} : ∀ (fu : Nat) (v0 : Nat) (v1 : Int32) (v2 : Int32) (hv0 : kX v0 = 2) (I : gx_M) (H : Heap) (locs : List Loc) (ls : Array Slot), gx_S L 282 (cellX L I) s.heap H locs → lv_has ls 3 [(0, .ref (gx_ad L v0)), (1, .int v1), (2, .int v2)] → wl_X2_readingsChanged_4 Q fu v0 v1 v2 I → W p l e rm_X2_readingsChanged s m args below meth c H locs 0 0 (MQ below (va_Qi Q (fun I' t => gx_U L 282 (cellX L I') t) (gx_A L)) args s 0 0 (gx_A L)) (F0 m 4 ls []) := by
  have hx := C.1
  have hb := C.2.1
  intro fu
  induction fu with
  | zero => intros; rename_i h; exact False.elim h
  | succ fu ih =>
    intro v0 v1 v2 hv0 I H locs ls hM hl h
    rw [wl_X2_readingsChanged_4] at h
    refine lv_iload_n hx hb dX2_readingsChanged_4 rfl (lv_at hl 2 rfl) ?_
    refine lv_iconst (v := (3 : Int32)) hx hb dX2_readingsChanged_5 (by decide) ?_
    refine lv_icmp_ge (tgt := 33) hx hb dX2_readingsChanged_6 (by decide) (fun hc => ?_) (fun hc => ?_)
    · replace h := h.1 hc
      refine lv_iload_n hx hb dX2_readingsChanged_33 rfl (lv_at hl 1 rfl) ?_
      exact gq_iret C hM h dX2_readingsChanged_34
    · replace h := h.2 hc
      refine lv_aload_n hx hb dX2_readingsChanged_9 rfl (lv_at hl 0 rfl) ?_
      refine gX2_2 C hM hv0 gw_250 dX2_readingsChanged_10 ?_
      refine lv_iload_n hx hb dX2_readingsChanged_13 rfl (lv_at hl 2 rfl) ?_
      refine gialdX C hM (kX_2_2 hv0) h.1 dX2_readingsChanged_14 ?_
      replace h := h.2
      refine lv_aload_n hx hb dX2_readingsChanged_15 rfl (lv_at hl 0 rfl) ?_
      refine gX2_3 C hM hv0 gw_252 dX2_readingsChanged_16 ?_
      refine lv_iload_n hx hb dX2_readingsChanged_19 rfl (lv_at hl 2 rfl) ?_
      refine gialdX C hM (kX_2_3 hv0) h.1 dX2_readingsChanged_20 ?_
      replace h := h.2
      refine lv_icmp_eq (tgt := 27) hx hb dX2_readingsChanged_21 (by decide) (fun hc => ?_) (fun hc => ?_)
      · replace h := h.1 hc
        exact tj_X2_readingsChanged_27 C ih v0 v1 v2 (hv0) I _ _ _ hM (lv_sub hl [0, 1, 2] rfl) h
      · replace h := h.2 hc
        obtain ⟨x1, ex1⟩ : ∃ z : Int32, z = v1 + (1 : Int32) := ⟨_, rfl⟩
        replace h := h x1 ex1
        refine lv_iinc (v := x1) (lv' := [(1, .int x1), (0, .ref (gx_ad L v0)), (2, .int v2)]) hx hb dX2_readingsChanged_24 hl (k := 1) rfl (by rw [ex1]; rfl) (by decide) rfl (fun ls hl => ?_)
        exact tj_X2_readingsChanged_27 C ih v0 x1 v2 (hv0) I _ _ _ hM (lv_sub hl [1, 0, 2] rfl) h
set_option maxHeartbeats 4000000 in
set_option maxRecDepth 100000 in
theorem c_X2_readingsChanged (l : Launch) (L : gx_L) (a0 : Nat) (hk0 : kX a0 = 2) (I : gx_M) (Q : Int32 → gx_M → Prop) (h : wp_X2_readingsChanged a0 I Q) : Met l yX2_readingsChanged (gx_w yX2_readingsChanged cX2_readingsChanged 3 (some .int)) rm_X2_readingsChanged (va_Pc [.ref (gx_ad L a0)] (gx_U L 282 (cellX L I))) (va_Qi Q (fun I' t => gx_U L 282 (cellX L I') t) (gx_A L)) 0 0 (gx_A L) := by
  refine gq_enter (by decide) (Nat.le_of_ble_eq_true rfl) (fun p e s m below meth c ls C hM hl => ?_)
  have C : gx_C L 282 p s m _ meth c RX2 cX2_readingsChanged 3 (some .int) := C
  have hl : lv_has ls 3 [(0, .ref (gx_ad L a0))] := hl
  have hx := C.1
  have hb := C.2.1
  unfold wp_X2_readingsChanged at h
  refine lv_iconst (v := (0 : Int32)) hx hb dX2_readingsChanged_0 (by decide) ?_
  refine lv_istore_n (lv' := [(1, .int (0 : Int32)), (0, .ref (gx_ad L a0))]) hx hb dX2_readingsChanged_1 rfl hl (by decide) rfl (fun ls hl => ?_)
  refine lv_iconst (v := (0 : Int32)) hx hb dX2_readingsChanged_2 (by decide) ?_
  refine lv_istore_n (lv' := [(2, .int (0 : Int32)), (1, .int (0 : Int32)), (0, .ref (gx_ad L a0))]) hx hb dX2_readingsChanged_3 rfl hl (by decide) rfl (fun ls hl => ?_)
  obtain ⟨fv, h⟩ := h
  exact tl_X2_readingsChanged_4 C fv a0 (0 : Int32) (0 : Int32) (hk0) I _ _ _ hM (lv_sub hl [2, 1, 0] rfl) h
theorem k_X2_readingsChanged : gx_kV yX2_readingsChanged cX2_readingsChanged 3 (some .int) 0 := ⟨⟨gw_688, gw_30, by decide, by decide, by decide +kernel⟩, gw_686, gw_687⟩
abbrev rm_X7_setStrain : Room := { frames := 5, cells := 0, slots := 0, locals := 110 }
set_option maxHeartbeats 4000000 in
set_option maxRecDepth 100000 in
theorem tj_X7_setStrain_83 (C : gx_C L 282 p s m args meth c RX7 cX7_setStrain 6 (some .int)) {Q : Int32 → gx_M → Prop} : ∀ (v0 : Nat) (v2 : Int32) (v3 : Int32) (v4 : Int32) (v5 : Nat) (hv0 : kX v0 = 7) (hv5 : kX v5 = 4) (I : gx_M) (H : Heap) (locs : List Loc) (ls : Array Slot), gx_S L 282 (cellX L I) s.heap H locs → lv_has ls 6 [(0, .ref (gx_ad L v0)), (2, .int v2), (3, .int v3), (4, .int v4), (5, .ref (gx_ad L v5))] → wj_X7_setStrain_83 Q v0 v2 v3 v4 v5 I → W p l e rm_X7_setStrain s m args below meth c H locs 0 0 (MQ below (va_Qi Q (fun I' t => gx_U L 282 (cellX L I') t) (gx_A L)) args s 0 0 (gx_A L)) (F0 m 83 ls []) := by
  have hx := C.1
  have hb := C.2.1
  intro v0 v2 v3 v4 v5 hv0 hv5 I H locs ls hM hl h
  unfold wj_X7_setStrain_83 at h
  refine lv_aload_n hx hb dX7_setStrain_83 rfl (lv_at hl 0 rfl) ?_
  refine gX7_3 C hM hv0 gw_309 dX7_setStrain_84 ?_
  refine lv_aload_n hx hb dX7_setStrain_87 rfl (lv_at hl 0 rfl) ?_
  refine gX7_0 C hM hv0 gw_306 dX7_setStrain_88 ?_
  refine gq_backv C hM (gq_runV (As := [.ref (gx_ad L (v0 + 1))]) (rest := []) C hM (kX_lt (kX_7_3 hv0) (by decide)) (cX_0 (kX_7_3 hv0)) rfl (c_X0_add l L (v0 + 77) (kX_7_3 hv0) (v0 + 1) (kX_7_0 hv0) I _ h) k_X0_add gw_356 rfl hl.1 rfl (Nat.le_of_ble_eq_true rfl) ⟨⟨rfl, rfl⟩, Nat.le_of_ble_eq_true rfl, Nat.le_of_ble_eq_true rfl⟩ ⟨Nat.zero_le _, Nat.zero_le _⟩ dX7_setStrain_91) (fun I1 H locs h hM => ?_)
  refine lv_aload_n hx hb dX7_setStrain_94 rfl (lv_at hl 0 rfl) ?_
  refine gX7_7 C hM hv0 gw_313 dX7_setStrain_95 ?_
  refine lv_aload hx hb dX7_setStrain_98 (lv_at hl 4 rfl) ?_
  refine lv_aload_n hx hb dX7_setStrain_100 rfl (lv_at hl 0 rfl) ?_
  refine gX7_0 C hM hv0 gw_306 dX7_setStrain_101 ?_
  refine gX6_4 C hM (kX_7_0 hv0) gw_145 dX7_setStrain_104 ?_
  refine gq_backv C hM (gq_runV (As := [.ref (gx_ad L v5), .int (I1 (v0 + 1) 4)]) (rest := []) C hM (kX_lt (kX_7_7 hv0) (by decide)) (cX_2 (kX_7_7 hv0)) rfl (c_X2_take l L (v0 + 275) (kX_7_7 hv0) v5 hv5 (I1 (v0 + 1) 4) I1 _ h) k_X2_take gw_444 rfl hl.1 rfl (Nat.le_of_ble_eq_true rfl) ⟨⟨rfl, rfl⟩, Nat.le_of_ble_eq_true rfl, Nat.le_of_ble_eq_true rfl⟩ ⟨Nat.zero_le _, Nat.zero_le _⟩ dX7_setStrain_107) (fun I2 H locs h hM => ?_)
  refine lv_aload_n hx hb dX7_setStrain_110 rfl (lv_at hl 0 rfl) ?_
  refine gX7_7 C hM hv0 gw_313 dX7_setStrain_111 ?_
  refine gq_backv C hM (gq_runV (As := []) (rest := []) C hM (kX_lt (kX_7_7 hv0) (by decide)) (cX_2 (kX_7_7 hv0)) rfl (c_X2_holdReadings l L (v0 + 275) (kX_7_7 hv0) I2 _ h) k_X2_holdReadings gw_680 rfl hl.1 rfl (Nat.le_of_ble_eq_true rfl) ⟨⟨rfl, rfl⟩, Nat.le_of_ble_eq_true rfl, Nat.le_of_ble_eq_true rfl⟩ ⟨Nat.zero_le _, Nat.zero_le _⟩ dX7_setStrain_114) (fun I3 H locs h hM => ?_)
  refine lv_aload hx hb dX7_setStrain_117 (lv_at hl 4 rfl) ?_
  refine lv_iload_n hx hb dX7_setStrain_119 rfl (lv_at hl 1 rfl) ?_
  obtain ⟨I4, eI4⟩ : ∃ z : gx_M, z = up I3 v5 5 v2 := ⟨_, rfl⟩
  replace h := h I4 eI4
  refine pX4_5 C hM hv5 eI4 gw_90 dX7_setStrain_120 (fun H locs hM => ?_)
  refine lv_aload hx hb dX7_setStrain_123 (lv_at hl 4 rfl) ?_
  refine lv_iload_n hx hb dX7_setStrain_125 rfl (lv_at hl 2 rfl) ?_
  obtain ⟨I5, eI5⟩ : ∃ z : gx_M, z = up I4 v5 6 v3 := ⟨_, rfl⟩
  replace h := h I5 eI5
  refine pX4_6 C hM hv5 eI5 gw_93 dX7_setStrain_126 (fun H locs hM => ?_)
  refine lv_aload hx hb dX7_setStrain_129 (lv_at hl 4 rfl) ?_
  refine lv_iload hx hb dX7_setStrain_131 (lv_at hl 3 rfl) ?_
  obtain ⟨I6, eI6⟩ : ∃ z : gx_M, z = up I5 v5 7 v4 := ⟨_, rfl⟩
  replace h := h I6 eI6
  refine pX4_7 C hM hv5 eI6 gw_96 dX7_setStrain_133 (fun H locs hM => ?_)
  refine lv_aload_n hx hb dX7_setStrain_136 rfl (lv_at hl 0 rfl) ?_
  refine gX7_7 C hM hv0 gw_313 dX7_setStrain_137 ?_
  refine lv_aload hx hb dX7_setStrain_140 (lv_at hl 4 rfl) ?_
  refine lv_aload_n hx hb dX7_setStrain_142 rfl (lv_at hl 0 rfl) ?_
  refine gX7_0 C hM hv0 gw_306 dX7_setStrain_143 ?_
  refine gX6_4 C hM (kX_7_0 hv0) gw_145 dX7_setStrain_146 ?_
  refine gq_backv C hM (gq_runV (As := [.ref (gx_ad L v5), .int (I6 (v0 + 1) 4)]) (rest := []) C hM (kX_lt (kX_7_7 hv0) (by decide)) (cX_2 (kX_7_7 hv0)) rfl (c_X2_take l L (v0 + 275) (kX_7_7 hv0) v5 hv5 (I6 (v0 + 1) 4) I6 _ h) k_X2_take gw_444 rfl hl.1 rfl (Nat.le_of_ble_eq_true rfl) ⟨⟨rfl, rfl⟩, Nat.le_of_ble_eq_true rfl, Nat.le_of_ble_eq_true rfl⟩ ⟨Nat.zero_le _, Nat.zero_le _⟩ dX7_setStrain_149) (fun I7 H locs h hM => ?_)
  refine lv_aload_n hx hb dX7_setStrain_152 rfl (lv_at hl 0 rfl) ?_
  refine gX7_7 C hM hv0 gw_313 dX7_setStrain_153 ?_
  refine gq_backi C hM (gq_runV (As := []) (rest := []) C hM (kX_lt (kX_7_7 hv0) (by decide)) (cX_2 (kX_7_7 hv0)) rfl (c_X2_readingsChanged l L (v0 + 275) (kX_7_7 hv0) I7 _ h) k_X2_readingsChanged gw_685 rfl hl.1 rfl (Nat.le_of_ble_eq_true rfl) ⟨⟨rfl, rfl⟩, Nat.le_of_ble_eq_true rfl, Nat.le_of_ble_eq_true rfl⟩ ⟨Nat.zero_le _, Nat.zero_le _⟩ dX7_setStrain_156) (fun r1 I8 H locs h hM => ?_)
  exact gq_iret C hM h dX7_setStrain_159
set_option maxHeartbeats 4000000 in
set_option maxRecDepth 100000 in
theorem c_X7_setStrain (l : Launch) (L : gx_L) (a0 : Nat) (hk0 : kX a0 = 7) (p0 : Int32) (p1 : Int32) (p2 : Int32) (p3 : Int32) (I : gx_M) (Q : Int32 → gx_M → Prop) (h : wp_X7_setStrain a0 p0 p1 p2 p3 I Q) : Met l yX7_setStrain (gx_w yX7_setStrain cX7_setStrain 6 (some .int)) rm_X7_setStrain (va_Pc [.ref (gx_ad L a0), .int p0, .int p1, .int p2, .int p3] (gx_U L 282 (cellX L I))) (va_Qi Q (fun I' t => gx_U L 282 (cellX L I') t) (gx_A L)) 0 0 (gx_A L) := by
  refine gq_enter (by decide) (Nat.le_of_ble_eq_true rfl) (fun p e s m below meth c ls C hM hl => ?_)
  have C : gx_C L 282 p s m _ meth c RX7 cX7_setStrain 6 (some .int) := C
  have hl : lv_has ls 6 [(0, .ref (gx_ad L a0)), (1, .int p0), (2, .int p1), (3, .int p2), (4, .int p3)] := hl
  have hx := C.1
  have hb := C.2.1
  unfold wp_X7_setStrain at h
  refine lv_aload_n hx hb dX7_setStrain_0 rfl (lv_at hl 0 rfl) ?_
  refine gX7_0 C hM hk0 gw_306 dX7_setStrain_1 ?_
  refine lv_iload_n hx hb dX7_setStrain_4 rfl (lv_at hl 1 rfl) ?_
  refine gq_backe C hM (gq_runV (As := [.int p0]) (rest := []) C hM (kX_lt (kX_7_0 hk0) (by decide)) (cX_6 (kX_7_0 hk0)) rfl (c_X6_find l L (a0 + 1) (kX_7_0 hk0) p0 I _ h) k_X6_find gw_387 rfl hl.1 rfl (Nat.le_of_ble_eq_true rfl) ⟨⟨rfl, rfl⟩, Nat.le_of_ble_eq_true rfl, Nat.le_of_ble_eq_true rfl⟩ ⟨Nat.zero_le _, Nat.zero_le _⟩ dX7_setStrain_5) (fun r1 I1 H locs h hM => ?_)
  obtain ⟨hk1, h⟩ := h
  rcases r1 with _ | b1
  · replace h := h.1 rfl
    refine W.eq (g2 := F0 m 8 ls [.null]) rfl ?_
    refine lv_astoreN (lv' := [(5, .null), (0, .ref (gx_ad L a0)), (1, .int p0), (2, .int p1), (3, .int p2), (4, .int p3)]) hx hb dX7_setStrain_8 hl (by decide) rfl (fun ls hl => ?_)
    refine lv_aloadN hx hb dX7_setStrain_10 (lv_at hl 0 rfl) ?_
    refine lv_ifnonnullN hx hb dX7_setStrain_12 ?_
    refine gq_ldc (v := (-1000001 : Int32)) C gw_388 dX7_setStrain_15 ?_
    exact gq_iret C hM h dX7_setStrain_17
  · have hk := hk1 b1 rfl
    replace h := h.2 b1 rfl hk
    have hk2 := hk
    refine W.eq (g2 := F0 m 8 ls [.ref (gx_ad L b1)]) rfl ?_
    refine lv_astore (lv' := [(5, .ref (gx_ad L b1)), (0, .ref (gx_ad L a0)), (1, .int p0), (2, .int p1), (3, .int p2), (4, .int p3)]) hx hb dX7_setStrain_8 hl (by decide) rfl (fun ls hl => ?_)
    refine lv_aload hx hb dX7_setStrain_10 (lv_at hl 0 rfl) ?_
    refine lv_ifnonnull (tgt := 18) hx hb dX7_setStrain_12 (by decide) ?_
    refine lv_iload_n hx hb dX7_setStrain_18 rfl (lv_at hl 3 rfl) ?_
    refine lv_sipush (v := (5000 : Int32)) hx hb dX7_setStrain_19 (by decide) ?_
    refine gq_backi C hM (gq_runS (As := [.int p1, .int (5000 : Int32)]) (rest := []) C hM (c_X7_isAround0 l L p1 (5000 : Int32) I1 _ h) k_X7_isAround0 gw_510 rfl hl.1 rfl (Nat.le_of_ble_eq_true rfl) ⟨⟨rfl, rfl⟩, Nat.le_of_ble_eq_true rfl, Nat.le_of_ble_eq_true rfl⟩ ⟨Nat.zero_le _, Nat.zero_le _⟩ dX7_setStrain_22) (fun r2 I2 H locs h hM => ?_)
    obtain ⟨hz1, h⟩ := h
    refine lv_if_eq (tgt := 49) hx hb dX7_setStrain_25 (by decide) (fun hc => ?_) (fun hc => ?_)
    · replace h := h.1 hc
      refine gq_ldc (v := (-1000002 : Int32)) C gw_338 dX7_setStrain_49 ?_
      exact gq_iret C hM h dX7_setStrain_51
    · replace h := h.2 hc
      refine lv_iload_n hx hb dX7_setStrain_28 rfl (lv_at hl 4 rfl) ?_
      refine lv_sipush (v := (5000 : Int32)) hx hb dX7_setStrain_29 (by decide) ?_
      refine gq_backi C hM (gq_runS (As := [.int p2, .int (5000 : Int32)]) (rest := []) C hM (c_X7_isAround0 l L p2 (5000 : Int32) I2 _ h) k_X7_isAround0 gw_510 rfl hl.1 rfl (Nat.le_of_ble_eq_true rfl) ⟨⟨rfl, rfl⟩, Nat.le_of_ble_eq_true rfl, Nat.le_of_ble_eq_true rfl⟩ ⟨Nat.zero_le _, Nat.zero_le _⟩ dX7_setStrain_32) (fun r3 I3 H locs h hM => ?_)
      obtain ⟨hz2, h⟩ := h
      refine lv_if_eq (tgt := 49) hx hb dX7_setStrain_35 (by decide) (fun hc => ?_) (fun hc => ?_)
      · replace h := h.1 hc
        refine gq_ldc (v := (-1000002 : Int32)) C gw_338 dX7_setStrain_49 ?_
        exact gq_iret C hM h dX7_setStrain_51
      · replace h := h.2 hc
        refine lv_iload hx hb dX7_setStrain_38 (lv_at hl 5 rfl) ?_
        refine lv_sipush (v := (5000 : Int32)) hx hb dX7_setStrain_40 (by decide) ?_
        refine gq_backi C hM (gq_runS (As := [.int p3, .int (5000 : Int32)]) (rest := []) C hM (c_X7_isAround0 l L p3 (5000 : Int32) I3 _ h) k_X7_isAround0 gw_510 rfl hl.1 rfl (Nat.le_of_ble_eq_true rfl) ⟨⟨rfl, rfl⟩, Nat.le_of_ble_eq_true rfl, Nat.le_of_ble_eq_true rfl⟩ ⟨Nat.zero_le _, Nat.zero_le _⟩ dX7_setStrain_43) (fun r4 I4 H locs h hM => ?_)
        obtain ⟨hz3, h⟩ := h
        refine lv_if_ne (tgt := 52) hx hb dX7_setStrain_46 (by decide) (fun hc => ?_) (fun hc => ?_)
        · replace h := h.2 hc
          refine lv_aload hx hb dX7_setStrain_52 (lv_at hl 0 rfl) ?_
          refine gX4_5 C hM hk2 gw_90 dX7_setStrain_54 ?_
          refine lv_iload_n hx hb dX7_setStrain_57 rfl (lv_at hl 3 rfl) ?_
          refine lv_icmp_ne (tgt := 83) hx hb dX7_setStrain_58 (by decide) (fun hc => ?_) (fun hc => ?_)
          · replace h := h.2 hc
            exact tj_X7_setStrain_83 C a0 p1 p2 p3 b1 (hk0) (hk2) I4 _ _ _ hM (lv_sub hl [1, 3, 4, 5, 0] rfl) h
          · replace h := h.1 hc
            refine lv_aload hx hb dX7_setStrain_61 (lv_at hl 0 rfl) ?_
            refine gX4_6 C hM hk2 gw_93 dX7_setStrain_63 ?_
            refine lv_iload_n hx hb dX7_setStrain_66 rfl (lv_at hl 4 rfl) ?_
            refine lv_icmp_ne (tgt := 83) hx hb dX7_setStrain_67 (by decide) (fun hc => ?_) (fun hc => ?_)
            · replace h := h.2 hc
              exact tj_X7_setStrain_83 C a0 p1 p2 p3 b1 (hk0) (hk2) I4 _ _ _ hM (lv_sub hl [1, 3, 4, 5, 0] rfl) h
            · replace h := h.1 hc
              refine lv_aload hx hb dX7_setStrain_70 (lv_at hl 0 rfl) ?_
              refine gX4_7 C hM hk2 gw_96 dX7_setStrain_72 ?_
              refine lv_iload hx hb dX7_setStrain_75 (lv_at hl 5 rfl) ?_
              refine lv_icmp_ne (tgt := 83) hx hb dX7_setStrain_77 (by decide) (fun hc => ?_) (fun hc => ?_)
              · replace h := h.2 hc
                exact tj_X7_setStrain_83 C a0 p1 p2 p3 b1 (hk0) (hk2) I4 _ _ _ hM (lv_sub hl [1, 3, 4, 5, 0] rfl) h
              · replace h := h.1 hc
                refine gq_ldc (v := (-1000004 : Int32)) C gw_399 dX7_setStrain_80 ?_
                exact gq_iret C hM h dX7_setStrain_82
        · replace h := h.1 hc
          refine gq_ldc (v := (-1000002 : Int32)) C gw_338 dX7_setStrain_49 ?_
          exact gq_iret C hM h dX7_setStrain_51
theorem k_X7_setStrain : gx_kV yX7_setStrain cX7_setStrain 6 (some .int) 4 := ⟨⟨gw_679, gw_22, by decide, by decide, by decide +kernel⟩, gw_677, gw_678⟩
abbrev rm_X7_pull : Room := { frames := 5, cells := 0, slots := 0, locals := 110 }
set_option maxHeartbeats 4000000 in
set_option maxRecDepth 100000 in
theorem c_X7_pull (l : Launch) (L : gx_L) (a0 : Nat) (hk0 : kX a0 = 7) (p0 : Int32) (p1 : Int32) (I : gx_M) (Q : Int32 → gx_M → Prop) (h : wp_X7_pull a0 p0 p1 I Q) : Met l yX7_pull (gx_w yX7_pull cX7_pull 4 (some .int)) rm_X7_pull (va_Pc [.ref (gx_ad L a0), .int p0, .int p1] (gx_U L 282 (cellX L I))) (va_Qi Q (fun I' t => gx_U L 282 (cellX L I') t) (gx_A L)) 0 0 (gx_A L) := by
  refine gq_enter (by decide) (Nat.le_of_ble_eq_true rfl) (fun p e s m below meth c ls C hM hl => ?_)
  have C : gx_C L 282 p s m _ meth c RX7 cX7_pull 4 (some .int) := C
  have hl : lv_has ls 4 [(0, .ref (gx_ad L a0)), (1, .int p0), (2, .int p1)] := hl
  have hx := C.1
  have hb := C.2.1
  unfold wp_X7_pull at h
  refine lv_aload_n hx hb dX7_pull_0 rfl (lv_at hl 0 rfl) ?_
  refine gX7_0 C hM hk0 gw_306 dX7_pull_1 ?_
  refine lv_iload_n hx hb dX7_pull_4 rfl (lv_at hl 1 rfl) ?_
  refine gq_backe C hM (gq_runV (As := [.int p0]) (rest := []) C hM (kX_lt (kX_7_0 hk0) (by decide)) (cX_6 (kX_7_0 hk0)) rfl (c_X6_find l L (a0 + 1) (kX_7_0 hk0) p0 I _ h) k_X6_find gw_387 rfl hl.1 rfl (Nat.le_of_ble_eq_true rfl) ⟨⟨rfl, rfl⟩, Nat.le_of_ble_eq_true rfl, Nat.le_of_ble_eq_true rfl⟩ ⟨Nat.zero_le _, Nat.zero_le _⟩ dX7_pull_5) (fun r1 I1 H locs h hM => ?_)
  obtain ⟨hk1, h⟩ := h
  rcases r1 with _ | b1
  · replace h := h.1 rfl
    refine W.eq (g2 := F0 m 8 ls [.null]) rfl ?_
    refine lv_astore_nN (lv' := [(3, .null), (0, .ref (gx_ad L a0)), (1, .int p0), (2, .int p1)]) hx hb dX7_pull_8 rfl hl (by decide) rfl (fun ls hl => ?_)
    refine lv_aload_nN hx hb dX7_pull_9 rfl (lv_at hl 0 rfl) ?_
    refine lv_ifnonnullN hx hb dX7_pull_10 ?_
    refine gq_ldc (v := (-1000001 : Int32)) C gw_388 dX7_pull_13 ?_
    exact gq_iret C hM h dX7_pull_15
  · have hk := hk1 b1 rfl
    replace h := h.2 b1 rfl hk
    have hk2 := hk
    refine W.eq (g2 := F0 m 8 ls [.ref (gx_ad L b1)]) rfl ?_
    refine lv_astore_n (lv' := [(3, .ref (gx_ad L b1)), (0, .ref (gx_ad L a0)), (1, .int p0), (2, .int p1)]) hx hb dX7_pull_8 rfl hl (by decide) rfl (fun ls hl => ?_)
    refine lv_aload_n hx hb dX7_pull_9 rfl (lv_at hl 0 rfl) ?_
    refine lv_ifnonnull (tgt := 16) hx hb dX7_pull_10 (by decide) ?_
    refine lv_iload_n hx hb dX7_pull_16 rfl (lv_at hl 3 rfl) ?_
    refine lv_iconst (v := (0 : Int32)) hx hb dX7_pull_17 (by decide) ?_
    refine lv_bipush (v := (23 : Int32)) hx hb dX7_pull_18 (by decide) ?_
    refine gq_backi C hM (gq_runS (As := [.int p1, .int (0 : Int32), .int (23 : Int32)]) (rest := []) C hM (c_X7_isWithin l L p1 (0 : Int32) (23 : Int32) I1 _ h) k_X7_isWithin gw_335 rfl hl.1 rfl (Nat.le_of_ble_eq_true rfl) ⟨⟨rfl, rfl⟩, Nat.le_of_ble_eq_true rfl, Nat.le_of_ble_eq_true rfl⟩ ⟨Nat.zero_le _, Nat.zero_le _⟩ dX7_pull_20) (fun r2 I2 H locs h hM => ?_)
    obtain ⟨hz1, h⟩ := h
    refine lv_if_ne (tgt := 29) hx hb dX7_pull_23 (by decide) (fun hc => ?_) (fun hc => ?_)
    · replace h := h.2 hc
      refine lv_aload_n hx hb dX7_pull_29 rfl (lv_at hl 1 rfl) ?_
      refine gX7_7 C hM hk0 gw_313 dX7_pull_30 ?_
      refine lv_aload_n hx hb dX7_pull_33 rfl (lv_at hl 0 rfl) ?_
      refine lv_aload_n hx hb dX7_pull_34 rfl (lv_at hl 1 rfl) ?_
      refine gX7_0 C hM hk0 gw_306 dX7_pull_35 ?_
      refine gX6_4 C hM (kX_7_0 hk0) gw_145 dX7_pull_38 ?_
      refine gq_backv C hM (gq_runV (As := [.ref (gx_ad L b1), .int (I2 (a0 + 1) 4)]) (rest := []) C hM (kX_lt (kX_7_7 hk0) (by decide)) (cX_2 (kX_7_7 hk0)) rfl (c_X2_take l L (a0 + 275) (kX_7_7 hk0) b1 hk2 (I2 (a0 + 1) 4) I2 _ h) k_X2_take gw_444 rfl hl.1 rfl (Nat.le_of_ble_eq_true rfl) ⟨⟨rfl, rfl⟩, Nat.le_of_ble_eq_true rfl, Nat.le_of_ble_eq_true rfl⟩ ⟨Nat.zero_le _, Nat.zero_le _⟩ dX7_pull_41) (fun I3 H locs h hM => ?_)
      refine lv_aload_n hx hb dX7_pull_44 rfl (lv_at hl 1 rfl) ?_
      refine gX7_7 C hM hk0 gw_313 dX7_pull_45 ?_
      refine lv_iload_n hx hb dX7_pull_48 rfl (lv_at hl 3 rfl) ?_
      refine gq_backl C hM (gq_runV (As := [.int p1]) (rest := []) C hM (kX_lt (kX_7_7 hk0) (by decide)) (cX_2 (kX_7_7 hk0)) rfl (c_X2_pullTo l L (a0 + 275) (kX_7_7 hk0) p1 I3 _ h) k_X2_pullTo gw_645 rfl hl.1 rfl (Nat.le_of_ble_eq_true rfl) ⟨⟨rfl, rfl⟩, Nat.le_of_ble_eq_true rfl, Nat.le_of_ble_eq_true rfl⟩ ⟨Nat.zero_le _, Nat.zero_le _⟩ dX7_pull_49) (fun r3 I4 H locs h hM => ?_)
      refine gq_ldc2 (v := (20000 : Int64)) C gw_646 dX7_pull_52 ?_
      refine lv_ldiv hx hb dX7_pull_55 (by decide) ?_
      refine lv_l2i hx hb dX7_pull_56 rfl ?_
      exact gq_iret C hM h dX7_pull_57
    · replace h := h.1 hc
      refine gq_ldc (v := (-1000002 : Int32)) C gw_338 dX7_pull_26 ?_
      exact gq_iret C hM h dX7_pull_28
theorem k_X7_pull : gx_kV yX7_pull cX7_pull 4 (some .int) 2 := ⟨⟨gw_644, gw_22, by decide, by decide, by decide +kernel⟩, gw_642, gw_643⟩
abbrev rm_X5_drop : Room := { frames := 1, cells := 0, slots := 0, locals := 26 }
set_option maxHeartbeats 4000000 in
set_option maxRecDepth 100000 in
theorem c_X5_drop (l : Launch) (L : gx_L) (a0 : Nat) (hk0 : kX a0 = 5) (p0 : Int32) (I : gx_M) (Q : gx_M → Prop) (h : wp_X5_drop a0 p0 I Q) : Met l yX5_drop (gx_w yX5_drop cX5_drop 3 none) rm_X5_drop (va_Pc [.ref (gx_ad L a0), .int p0] (gx_U L 282 (cellX L I))) (va_Qv Q (fun I' t => gx_U L 282 (cellX L I') t) (gx_A L)) 0 0 (gx_A L) := by
  refine gq_enter (by decide) (Nat.le_of_ble_eq_true rfl) (fun p e s m below meth c ls C hM hl => ?_)
  have C : gx_C L 282 p s m _ meth c RX5 cX5_drop 3 none := C
  have hl : lv_has ls 3 [(0, .ref (gx_ad L a0)), (1, .int p0)] := hl
  have hx := C.1
  have hb := C.2.1
  unfold wp_X5_drop at h
  refine lv_iload_n hx hb dX5_drop_0 rfl (lv_at hl 1 rfl) ?_
  refine lv_if_lt (tgt := 12) hx hb dX5_drop_1 (by decide) (fun hc => ?_) (fun hc => ?_)
  · replace h := h.1 hc
    exact gq_vret C hM h dX5_drop_12
  · replace h := h.2 hc
    refine lv_iload_n hx hb dX5_drop_4 rfl (lv_at hl 1 rfl) ?_
    refine lv_aload_n hx hb dX5_drop_5 rfl (lv_at hl 0 rfl) ?_
    refine gX5_1 C hM hk0 gw_58 dX5_drop_6 ?_
    refine lv_icmp_lt (tgt := 13) hx hb dX5_drop_9 (by decide) (fun hc => ?_) (fun hc => ?_)
    · replace h := h.1 hc
      refine lv_iload_n hx hb dX5_drop_13 rfl (lv_at hl 1 rfl) ?_
      refine lv_iconst (v := (1 : Int32)) hx hb dX5_drop_14 (by decide) ?_
      refine lv_iadd hx hb dX5_drop_15 ?_
      refine lv_iconst (v := (4 : Int32)) hx hb dX5_drop_16 (by decide) ?_
      refine lv_imul hx hb dX5_drop_17 ?_
      refine lv_topi (fun x1 ex1 => ?_)
      replace h := h x1 ex1
      refine lv_istore_n (lv' := [(2, .int x1), (0, .ref (gx_ad L a0)), (1, .int p0)]) hx hb dX5_drop_18 rfl hl (by decide) rfl (fun ls hl => ?_)
      refine lv_aload_n hx hb dX5_drop_19 rfl (lv_at hl 1 rfl) ?_
      refine gX5_0 C hM hk0 gw_57 dX5_drop_20 ?_
      refine lv_iload_n hx hb dX5_drop_23 rfl (lv_at hl 0 rfl) ?_
      refine lv_aload_n hx hb dX5_drop_24 rfl (lv_at hl 1 rfl) ?_
      refine gX5_0 C hM hk0 gw_57 dX5_drop_25 ?_
      refine lv_iload_n hx hb dX5_drop_28 rfl (lv_at hl 2 rfl) ?_
      refine lv_iconst (v := (4 : Int32)) hx hb dX5_drop_29 (by decide) ?_
      refine lv_imul hx hb dX5_drop_30 ?_
      refine lv_aload_n hx hb dX5_drop_31 rfl (lv_at hl 1 rfl) ?_
      refine gX5_1 C hM hk0 gw_58 dX5_drop_32 ?_
      refine lv_iconst (v := (4 : Int32)) hx hb dX5_drop_35 (by decide) ?_
      refine lv_imul hx hb dX5_drop_36 ?_
      refine lv_iload_n hx hb dX5_drop_37 rfl (lv_at hl 0 rfl) ?_
      refine lv_isub hx hb dX5_drop_38 ?_
      have hi := h.1
      replace h := h.2
      obtain ⟨I1, eI1⟩ : ∃ z : gx_M, z = upr I (a0 + 1) (va_cpy (I (a0 + 1)) (I (a0 + 1)) x1.toNatClampNeg (p0 * (4 : Int32)).toNatClampNeg (((I a0 1) * (4 : Int32)) - x1).toNatClampNeg) := ⟨_, rfl⟩
      replace h := h I1 eI1
      refine gcopyX C hM (kX_5_0 hk0) (kX_5_0 hk0) gw_376 hl.1 hi eI1 (Nat.le_of_ble_eq_true rfl) (Nat.le_of_ble_eq_true rfl) dX5_drop_39 (fun H locs hM => ?_)
      refine lv_aload_n hx hb dX5_drop_42 rfl (lv_at hl 1 rfl) ?_
      refine lv_dup hx hb dX5_drop_43 rfl ?_
      refine gX5_1 C hM hk0 gw_58 dX5_drop_44 ?_
      refine lv_iconst (v := (1 : Int32)) hx hb dX5_drop_47 (by decide) ?_
      refine lv_isub hx hb dX5_drop_48 ?_
      obtain ⟨I2, eI2⟩ : ∃ z : gx_M, z = up I1 a0 1 ((I1 a0 1) - (1 : Int32)) := ⟨_, rfl⟩
      replace h := h I2 eI2
      refine pX5_1 C hM hk0 eI2 gw_58 dX5_drop_49 (fun H locs hM => ?_)
      exact gq_vret C hM h dX5_drop_52
    · replace h := h.2 hc
      exact gq_vret C hM h dX5_drop_12
theorem k_X5_drop : gx_kV yX5_drop cX5_drop 3 none 1 := ⟨⟨gw_407, gw_24, by decide, by decide, by decide +kernel⟩, gw_405, gw_406⟩
abbrev rm_X6_goTo : Room := { frames := 1, cells := 0, slots := 0, locals := 21 }
set_option maxHeartbeats 4000000 in
set_option maxRecDepth 100000 in
theorem c_X6_goTo (l : Launch) (L : gx_L) (a0 : Nat) (hk0 : kX a0 = 6) (p0 : Int32) (I : gx_M) (Q : gx_M → Prop) (h : wp_X6_goTo a0 p0 I Q) : Met l yX6_goTo (gx_w yX6_goTo cX6_goTo 2 none) rm_X6_goTo (va_Pc [.ref (gx_ad L a0), .int p0] (gx_U L 282 (cellX L I))) (va_Qv Q (fun I' t => gx_U L 282 (cellX L I') t) (gx_A L)) 0 0 (gx_A L) := by
  refine gq_enter (by decide) (Nat.le_of_ble_eq_true rfl) (fun p e s m below meth c ls C hM hl => ?_)
  have C : gx_C L 282 p s m _ meth c RX6 cX6_goTo 2 none := C
  have hl : lv_has ls 2 [(0, .ref (gx_ad L a0)), (1, .int p0)] := hl
  have hx := C.1
  have hb := C.2.1
  unfold wp_X6_goTo at h
  refine lv_aload_n hx hb dX6_goTo_0 rfl (lv_at hl 0 rfl) ?_
  refine lv_dup hx hb dX6_goTo_1 rfl ?_
  refine gX6_6 C hM hk0 gw_149 dX6_goTo_2 ?_
  refine lv_iload_n hx hb dX6_goTo_5 rfl (lv_at hl 1 rfl) ?_
  refine lv_aload_n hx hb dX6_goTo_6 rfl (lv_at hl 0 rfl) ?_
  refine gX6_5 C hM hk0 gw_147 dX6_goTo_7 ?_
  refine lv_isub hx hb dX6_goTo_10 ?_
  refine gq_abs C hl.1 gw_443 gw_431 gw_25 gw_432 (Nat.le_of_ble_eq_true rfl) (Nat.le_of_ble_eq_true rfl) (Nat.zero_le _) (Nat.zero_le _) dX6_goTo_11 ?_
  refine lv_iadd hx hb dX6_goTo_14 ?_
  obtain ⟨I1, eI1⟩ : ∃ z : gx_M, z = up I a0 6 ((I a0 6) + (if 0 ≤ (p0 - (I a0 5)) then (p0 - (I a0 5)) else 0 - (p0 - (I a0 5)))) := ⟨_, rfl⟩
  replace h := h I1 eI1
  refine pX6_6 C hM hk0 eI1 gw_149 dX6_goTo_15 (fun H locs hM => ?_)
  refine lv_aload_n hx hb dX6_goTo_18 rfl (lv_at hl 0 rfl) ?_
  refine lv_iload_n hx hb dX6_goTo_19 rfl (lv_at hl 1 rfl) ?_
  obtain ⟨I2, eI2⟩ : ∃ z : gx_M, z = up I1 a0 5 p0 := ⟨_, rfl⟩
  replace h := h I2 eI2
  refine pX6_5 C hM hk0 eI2 gw_147 dX6_goTo_20 (fun H locs hM => ?_)
  exact gq_vret C hM h dX6_goTo_23
theorem k_X6_goTo : gx_kV yX6_goTo cX6_goTo 2 none 1 := ⟨⟨gw_442, gw_23, by decide, by decide, by decide +kernel⟩, gw_440, gw_441⟩
abbrev rm_X6_leaveRecord : Room := { frames := 2, cells := 0, slots := 0, locals := 48 }
set_option maxHeartbeats 4000000 in
set_option maxRecDepth 100000 in
theorem tj_X6_leaveRecord_20 (C : gx_C L 282 p s m args meth c RX6 cX6_leaveRecord 5 none) {Q : gx_M → Prop} : ∀ (v0 : Nat) (v1 : Int32) (v2 : Int32) (v3 : Int32) (v4 : Int32) (hv0 : kX v0 = 6) (I : gx_M) (H : Heap) (locs : List Loc) (ls : Array Slot), gx_S L 282 (cellX L I) s.heap H locs → lv_has ls 5 [(0, .ref (gx_ad L v0)), (1, .int v1), (2, .int v2), (3, .int v3), (4, .int v4)] → wj_X6_leaveRecord_20 Q v0 v1 v2 v3 v4 I → W p l e rm_X6_leaveRecord s m args below meth c H locs 0 0 (MQ below (va_Qv Q (fun I' t => gx_U L 282 (cellX L I') t) (gx_A L)) args s 0 0 (gx_A L)) (F0 m 20 ls []) := by
  have hx := C.1
  have hb := C.2.1
  intro v0 v1 v2 v3 v4 hv0 I H locs ls hM hl h
  unfold wj_X6_leaveRecord_20 at h
  refine lv_aload_n hx hb dX6_leaveRecord_20 rfl (lv_at hl 0 rfl) ?_
  refine gX6_2 C hM hv0 gw_140 dX6_leaveRecord_21 ?_
  refine lv_iload_n hx hb dX6_leaveRecord_24 rfl (lv_at hl 1 rfl) ?_
  refine lv_iload_n hx hb dX6_leaveRecord_25 rfl (lv_at hl 2 rfl) ?_
  refine lv_iload_n hx hb dX6_leaveRecord_26 rfl (lv_at hl 3 rfl) ?_
  refine lv_iload hx hb dX6_leaveRecord_27 (lv_at hl 4 rfl) ?_
  refine gq_backv C hM (gq_runV (As := [.int v1, .int v2, .int v3, .int v4]) (rest := []) C hM (kX_lt (kX_6_2 hv0) (by decide)) (cX_5 (kX_6_2 hv0)) rfl (c_X5_add l L (v0 + 4) (kX_6_2 hv0) v1 v2 v3 v4 I _ h) k_X5_add gw_533 rfl hl.1 rfl (Nat.le_of_ble_eq_true rfl) ⟨⟨rfl, rfl⟩, Nat.le_of_ble_eq_true rfl, Nat.le_of_ble_eq_true rfl⟩ ⟨Nat.zero_le _, Nat.zero_le _⟩ dX6_leaveRecord_29) (fun I1 H locs h hM => ?_)
  exact gq_vret C hM h dX6_leaveRecord_32
set_option maxHeartbeats 4000000 in
set_option maxRecDepth 100000 in
theorem c_X6_leaveRecord (l : Launch) (L : gx_L) (a0 : Nat) (hk0 : kX a0 = 6) (p0 : Int32) (p1 : Int32) (p2 : Int32) (p3 : Int32) (I : gx_M) (Q : gx_M → Prop) (h : wp_X6_leaveRecord a0 p0 p1 p2 p3 I Q) : Met l yX6_leaveRecord (gx_w yX6_leaveRecord cX6_leaveRecord 5 none) rm_X6_leaveRecord (va_Pc [.ref (gx_ad L a0), .int p0, .int p1, .int p2, .int p3] (gx_U L 282 (cellX L I))) (va_Qv Q (fun I' t => gx_U L 282 (cellX L I') t) (gx_A L)) 0 0 (gx_A L) := by
  refine gq_enter (by decide) (Nat.le_of_ble_eq_true rfl) (fun p e s m below meth c ls C hM hl => ?_)
  have C : gx_C L 282 p s m _ meth c RX6 cX6_leaveRecord 5 none := C
  have hl : lv_has ls 5 [(0, .ref (gx_ad L a0)), (1, .int p0), (2, .int p1), (3, .int p2), (4, .int p3)] := hl
  have hx := C.1
  have hb := C.2.1
  unfold wp_X6_leaveRecord at h
  refine lv_aload_n hx hb dX6_leaveRecord_0 rfl (lv_at hl 0 rfl) ?_
  refine gX6_2 C hM hk0 gw_140 dX6_leaveRecord_1 ?_
  refine gX5_1 C hM (kX_6_2 hk0) gw_61 dX6_leaveRecord_4 ?_
  refine lv_bipush (v := (12 : Int32)) hx hb dX6_leaveRecord_7 (by decide) ?_
  refine lv_icmp_lt (tgt := 20) hx hb dX6_leaveRecord_9 (by decide) (fun hc => ?_) (fun hc => ?_)
  · replace h := h.1 hc
    exact tj_X6_leaveRecord_20 C a0 p0 p1 p2 p3 (hk0) I _ _ _ hM (lv_sub hl [0, 1, 2, 3, 4] rfl) h
  · replace h := h.2 hc
    refine lv_aload_n hx hb dX6_leaveRecord_12 rfl (lv_at hl 0 rfl) ?_
    refine gX6_2 C hM hk0 gw_140 dX6_leaveRecord_13 ?_
    refine lv_iconst (v := (0 : Int32)) hx hb dX6_leaveRecord_16 (by decide) ?_
    refine gq_backv C hM (gq_runV (As := [.int (0 : Int32)]) (rest := []) C hM (kX_lt (kX_6_2 hk0) (by decide)) (cX_5 (kX_6_2 hk0)) rfl (c_X5_drop l L (a0 + 4) (kX_6_2 hk0) (0 : Int32) I _ h) k_X5_drop gw_404 rfl hl.1 rfl (Nat.le_of_ble_eq_true rfl) ⟨⟨rfl, rfl⟩, Nat.le_of_ble_eq_true rfl, Nat.le_of_ble_eq_true rfl⟩ ⟨Nat.zero_le _, Nat.zero_le _⟩ dX6_leaveRecord_17) (fun I1 H locs h hM => ?_)
    exact tj_X6_leaveRecord_20 C a0 p0 p1 p2 p3 (hk0) I1 _ _ _ hM (lv_sub hl [0, 1, 2, 3, 4] rfl) h
theorem k_X6_leaveRecord : gx_kV yX6_leaveRecord cX6_leaveRecord 5 none 4 := ⟨⟨gw_532, gw_23, by decide, by decide, by decide +kernel⟩, gw_530, gw_531⟩
abbrev rm_X7_setGains : Room := { frames := 1, cells := 0, slots := 0, locals := 23 }
set_option maxHeartbeats 4000000 in
set_option maxRecDepth 100000 in
theorem tj_X7_setGains_59 (C : gx_C L 282 p s m args meth c RX7 cX7_setGains 5 (some .int)) {Q : Int32 → gx_M → Prop} {K4 : Nat → Nat → Int32 → Int32 → gx_M → Prop} (hK4 : ∀ (v0 : Nat) (v1 : Nat) (v2 : Int32) (v3 : Int32) (hv0 : kX v0 = 7) (hv1 : kX v1 = 4) (I : gx_M) (H : Heap) (locs : List Loc) (ls : Array Slot), gx_S L 282 (cellX L I) s.heap H locs → lv_has ls 5 [(0, .ref (gx_ad L v0)), (1, .ref (gx_ad L v1)), (2, .int v2), (3, .int v3)] → K4 v0 v1 v2 v3 I → W p l e rm_X7_setGains s m args below meth c H locs 0 0 (MQ below (va_Qi Q (fun I' t => gx_U L 282 (cellX L I') t) (gx_A L)) args s 0 0 (gx_A L)) (F0 m 4 ls [])) : ∀ (v0 : Nat) (v1 : Nat) (v2 : Int32) (v3 : Int32) (hv0 : kX v0 = 7) (hv1 : kX v1 = 4) (I : gx_M) (H : Heap) (locs : List Loc) (ls : Array Slot), gx_S L 282 (cellX L I) s.heap H locs → lv_has ls 5 [(0, .ref (gx_ad L v0)), (1, .ref (gx_ad L v1)), (2, .int v2), (3, .int v3)] → wj_X7_setGains_59 Q K4 v0 v1 v2 v3 I → W p l e rm_X7_setGains s m args below meth c H locs 0 0 (MQ below (va_Qi Q (fun I' t => gx_U L 282 (cellX L I') t) (gx_A L)) args s 0 0 (gx_A L)) (F0 m 59 ls []) := by
  have hx := C.1
  have hb := C.2.1
  intro v0 v1 v2 v3 hv0 hv1 I H locs ls hM hl h
  unfold wj_X7_setGains_59 at h
  obtain ⟨x1, ex1⟩ : ∃ z : Int32, z = v3 + (1 : Int32) := ⟨_, rfl⟩
  replace h := h x1 ex1
  refine lv_iinc (v := x1) (lv' := [(3, .int x1), (0, .ref (gx_ad L v0)), (1, .ref (gx_ad L v1)), (2, .int v2)]) hx hb dX7_setGains_59 hl (k := 3) rfl (by rw [ex1]; rfl) (by decide) rfl (fun ls hl => ?_)
  refine lv_goto (tgt := 4) hx hb dX7_setGains_62 (by decide) ?_
  exact hK4 v0 v1 v2 x1 (hv0) (hv1) I _ _ _ hM (lv_sub hl [1, 2, 3, 0] rfl) h
set_option maxHeartbeats 4000000 in
set_option maxRecDepth 100000 in
theorem tl_X7_setGains_4 (C : gx_C L 282 p s m args meth c RX7 cX7_setGains 5 (some .int)) {Q : Int32 → gx_M → Prop} : ∀ (fu : Nat) (v0 : Nat) (v1 : Nat) (v2 : Int32) (v3 : Int32) (hv0 : kX v0 = 7) (hv1 : kX v1 = 4) (I : gx_M) (H : Heap) (locs : List Loc) (ls : Array Slot), gx_S L 282 (cellX L I) s.heap H locs → lv_has ls 5 [(0, .ref (gx_ad L v0)), (1, .ref (gx_ad L v1)), (2, .int v2), (3, .int v3)] → wl_X7_setGains_4 Q fu v0 v1 v2 v3 I → W p l e rm_X7_setGains s m args below meth c H locs 0 0 (MQ below (va_Qi Q (fun I' t => gx_U L 282 (cellX L I') t) (gx_A L)) args s 0 0 (gx_A L)) (F0 m 4 ls []) := by
  have hx := C.1
  have hb := C.2.1
  intro fu
  induction fu with
  | zero => intros; rename_i h; exact False.elim h
  | succ fu ih =>
    intro v0 v1 v2 v3 hv0 hv1 I H locs ls hM hl h
    rw [wl_X7_setGains_4] at h
    refine lv_iload_n hx hb dX7_setGains_4 rfl (lv_at hl 3 rfl) ?_
    refine lv_iconst (v := (3 : Int32)) hx hb dX7_setGains_5 (by decide) ?_
    refine lv_icmp_ge (tgt := 65) hx hb dX7_setGains_6 (by decide) (fun hc => ?_) (fun hc => ?_)
    · replace h := h.1 hc
      refine lv_iload_n hx hb dX7_setGains_65 rfl (lv_at hl 2 rfl) ?_
      exact gq_iret C hM h dX7_setGains_66
    · replace h := h.2 hc
      refine lv_aload_n hx hb dX7_setGains_9 rfl (lv_at hl 0 rfl) ?_
      refine gX7_7 C hM hv0 gw_313 dX7_setGains_10 ?_
      refine gX2_6 C hM (kX_7_7 hv0) gw_258 dX7_setGains_13 ?_
      refine lv_i2l hx hb dX7_setGains_16 rfl ?_
      refine gq_ldc2 (v := (1000 : Int64)) C gw_527 dX7_setGains_17 ?_
      refine lv_lmul hx hb dX7_setGains_20 ?_
      refine lv_aload_n hx hb dX7_setGains_21 rfl (lv_at hl 0 rfl) ?_
      refine gX7_7 C hM hv0 gw_313 dX7_setGains_22 ?_
      refine gX2_4 C hM (kX_7_7 hv0) gw_254 dX7_setGains_25 ?_
      refine lv_iload_n hx hb dX7_setGains_28 rfl (lv_at hl 3 rfl) ?_
      refine gialdX C hM (kX_2_4 (kX_7_7 hv0)) h.1 dX7_setGains_29 ?_
      replace h := h.2
      refine lv_i2l hx hb dX7_setGains_30 rfl ?_
      refine gq_backl C hM (gq_runS (As := [.long ((Int32.toInt64 (I (v0 + 275) 6)) * (1000 : Int64)), .long (Int32.toInt64 (I ((v0 + 275) + 5) v3.toNatClampNeg))]) (rest := []) C hM (c_X7_quotient l L ((Int32.toInt64 (I (v0 + 275) 6)) * (1000 : Int64)) (Int32.toInt64 (I ((v0 + 275) + 5) v3.toNatClampNeg)) I _ h) k_X7_quotient gw_528 rfl hl.1 rfl (Nat.le_of_ble_eq_true rfl) ⟨⟨rfl, rfl⟩, Nat.le_of_ble_eq_true rfl, Nat.le_of_ble_eq_true rfl⟩ ⟨Nat.zero_le _, Nat.zero_le _⟩ dX7_setGains_31) (fun r1 I1 H locs h hM => ?_)
      refine lv_l2i hx hb dX7_setGains_34 rfl ?_
      refine lv_topi (fun x1 ex1 => ?_)
      replace h := h x1 ex1
      refine lv_istore (lv' := [(4, .int x1), (0, .ref (gx_ad L v0)), (1, .ref (gx_ad L v1)), (2, .int v2), (3, .int v3)]) hx hb dX7_setGains_35 hl (by decide) rfl (fun ls hl => ?_)
      refine lv_iload hx hb dX7_setGains_37 (lv_at hl 0 rfl) ?_
      refine lv_aload_n hx hb dX7_setGains_39 rfl (lv_at hl 2 rfl) ?_
      refine gX4_11 C hM hv1 gw_109 dX7_setGains_40 ?_
      refine lv_iload_n hx hb dX7_setGains_43 rfl (lv_at hl 4 rfl) ?_
      refine gialdX C hM (kX_4_11 hv1) h.1 dX7_setGains_44 ?_
      replace h := h.2
      refine lv_icmp_eq (tgt := 59) hx hb dX7_setGains_45 (by decide) (fun hc => ?_) (fun hc => ?_)
      · replace h := h.1 hc
        exact tj_X7_setGains_59 C ih v0 v1 v2 v3 (hv0) (hv1) I1 _ _ _ hM (lv_sub hl [1, 2, 3, 4] rfl) h
      · replace h := h.2 hc
        refine lv_aload_n hx hb dX7_setGains_48 rfl (lv_at hl 2 rfl) ?_
        refine gX4_11 C hM hv1 gw_109 dX7_setGains_49 ?_
        refine lv_iload_n hx hb dX7_setGains_52 rfl (lv_at hl 4 rfl) ?_
        refine lv_iload hx hb dX7_setGains_53 (lv_at hl 0 rfl) ?_
        have hi := h.1
        replace h := h.2
        obtain ⟨I2, eI2⟩ : ∃ z : gx_M, z = up I1 (v1 + 3) v3.toNatClampNeg x1 := ⟨_, rfl⟩
        replace h := h I2 eI2
        refine giastX C hM (kX_4_11 hv1) hi eI2 dX7_setGains_55 (fun H locs hM => ?_)
        obtain ⟨x2, ex2⟩ : ∃ z : Int32, z = v2 + (1 : Int32) := ⟨_, rfl⟩
        replace h := h x2 ex2
        refine lv_iinc (v := x2) (lv' := [(2, .int x2), (4, .int x1), (0, .ref (gx_ad L v0)), (1, .ref (gx_ad L v1)), (3, .int v3)]) hx hb dX7_setGains_56 hl (k := 3) rfl (by rw [ex2]; rfl) (by decide) rfl (fun ls hl => ?_)
        exact tj_X7_setGains_59 C ih v0 v1 x2 v3 (hv0) (hv1) I2 _ _ _ hM (lv_sub hl [2, 3, 0, 4] rfl) h
set_option maxHeartbeats 4000000 in
set_option maxRecDepth 100000 in
theorem c_X7_setGains (l : Launch) (L : gx_L) (a0 : Nat) (hk0 : kX a0 = 7) (p0 : Nat) (hp0 : kX p0 = 4) (I : gx_M) (Q : Int32 → gx_M → Prop) (h : wp_X7_setGains a0 p0 I Q) : Met l yX7_setGains (gx_w yX7_setGains cX7_setGains 5 (some .int)) rm_X7_setGains (va_Pc [.ref (gx_ad L a0), .ref (gx_ad L p0)] (gx_U L 282 (cellX L I))) (va_Qi Q (fun I' t => gx_U L 282 (cellX L I') t) (gx_A L)) 0 0 (gx_A L) := by
  refine gq_enter (by decide) (Nat.le_of_ble_eq_true rfl) (fun p e s m below meth c ls C hM hl => ?_)
  have C : gx_C L 282 p s m _ meth c RX7 cX7_setGains 5 (some .int) := C
  have hl : lv_has ls 5 [(0, .ref (gx_ad L a0)), (1, .ref (gx_ad L p0))] := hl
  have hx := C.1
  have hb := C.2.1
  unfold wp_X7_setGains at h
  refine lv_iconst (v := (0 : Int32)) hx hb dX7_setGains_0 (by decide) ?_
  refine lv_istore_n (lv' := [(2, .int (0 : Int32)), (0, .ref (gx_ad L a0)), (1, .ref (gx_ad L p0))]) hx hb dX7_setGains_1 rfl hl (by decide) rfl (fun ls hl => ?_)
  refine lv_iconst (v := (0 : Int32)) hx hb dX7_setGains_2 (by decide) ?_
  refine lv_istore_n (lv' := [(3, .int (0 : Int32)), (2, .int (0 : Int32)), (0, .ref (gx_ad L a0)), (1, .ref (gx_ad L p0))]) hx hb dX7_setGains_3 rfl hl (by decide) rfl (fun ls hl => ?_)
  obtain ⟨fv, h⟩ := h
  exact tl_X7_setGains_4 C fv a0 p0 (0 : Int32) (0 : Int32) (hk0) (hp0) I _ _ _ hM (lv_sub hl [2, 3, 1, 0] rfl) h
theorem k_X7_setGains : gx_kV yX7_setGains cX7_setGains 5 (some .int) 1 := ⟨⟨gw_526, gw_22, by decide, by decide, by decide +kernel⟩, gw_525, gw_15⟩
abbrev rm_X7_setZeros : Room := { frames := 0, cells := 0, slots := 0, locals := 0 }
set_option maxHeartbeats 4000000 in
set_option maxRecDepth 100000 in
theorem tj_X7_setZeros_49 (C : gx_C L 282 p s m args meth c RX7 cX7_setZeros 5 (some .int)) {Q : Int32 → gx_M → Prop} {K4 : Nat → Nat → Int32 → Int32 → gx_M → Prop} (hK4 : ∀ (v0 : Nat) (v1 : Nat) (v2 : Int32) (v3 : Int32) (hv0 : kX v0 = 7) (hv1 : kX v1 = 4) (I : gx_M) (H : Heap) (locs : List Loc) (ls : Array Slot), gx_S L 282 (cellX L I) s.heap H locs → lv_has ls 5 [(0, .ref (gx_ad L v0)), (1, .ref (gx_ad L v1)), (2, .int v2), (3, .int v3)] → K4 v0 v1 v2 v3 I → W p l e rm_X7_setZeros s m args below meth c H locs 0 0 (MQ below (va_Qi Q (fun I' t => gx_U L 282 (cellX L I') t) (gx_A L)) args s 0 0 (gx_A L)) (F0 m 4 ls [])) : ∀ (v0 : Nat) (v1 : Nat) (v2 : Int32) (v3 : Int32) (hv0 : kX v0 = 7) (hv1 : kX v1 = 4) (I : gx_M) (H : Heap) (locs : List Loc) (ls : Array Slot), gx_S L 282 (cellX L I) s.heap H locs → lv_has ls 5 [(0, .ref (gx_ad L v0)), (1, .ref (gx_ad L v1)), (2, .int v2), (3, .int v3)] → wj_X7_setZeros_49 Q K4 v0 v1 v2 v3 I → W p l e rm_X7_setZeros s m args below meth c H locs 0 0 (MQ below (va_Qi Q (fun I' t => gx_U L 282 (cellX L I') t) (gx_A L)) args s 0 0 (gx_A L)) (F0 m 49 ls []) := by
  have hx := C.1
  have hb := C.2.1
  intro v0 v1 v2 v3 hv0 hv1 I H locs ls hM hl h
  unfold wj_X7_setZeros_49 at h
  obtain ⟨x1, ex1⟩ : ∃ z : Int32, z = v3 + (1 : Int32) := ⟨_, rfl⟩
  replace h := h x1 ex1
  refine lv_iinc (v := x1) (lv' := [(3, .int x1), (0, .ref (gx_ad L v0)), (1, .ref (gx_ad L v1)), (2, .int v2)]) hx hb dX7_setZeros_49 hl (k := 3) rfl (by rw [ex1]; rfl) (by decide) rfl (fun ls hl => ?_)
  refine lv_goto (tgt := 4) hx hb dX7_setZeros_52 (by decide) ?_
  exact hK4 v0 v1 v2 x1 (hv0) (hv1) I _ _ _ hM (lv_sub hl [1, 2, 3, 0] rfl) h
set_option maxHeartbeats 4000000 in
set_option maxRecDepth 100000 in
theorem tl_X7_setZeros_4 (C : gx_C L 282 p s m args meth c RX7 cX7_setZeros 5 (some .int)) {Q : Int32 → gx_M → Prop} : ∀ (fu : Nat) (v0 : Nat) (v1 : Nat) (v2 : Int32) (v3 : Int32) (hv0 : kX v0 = 7) (hv1 : kX v1 = 4) (I : gx_M) (H : Heap) (locs : List Loc) (ls : Array Slot), gx_S L 282 (cellX L I) s.heap H locs → lv_has ls 5 [(0, .ref (gx_ad L v0)), (1, .ref (gx_ad L v1)), (2, .int v2), (3, .int v3)] → wl_X7_setZeros_4 Q fu v0 v1 v2 v3 I → W p l e rm_X7_setZeros s m args below meth c H locs 0 0 (MQ below (va_Qi Q (fun I' t => gx_U L 282 (cellX L I') t) (gx_A L)) args s 0 0 (gx_A L)) (F0 m 4 ls []) := by
  have hx := C.1
  have hb := C.2.1
  intro fu
  induction fu with
  | zero => intros; rename_i h; exact False.elim h
  | succ fu ih =>
    intro v0 v1 v2 v3 hv0 hv1 I H locs ls hM hl h
    rw [wl_X7_setZeros_4] at h
    refine lv_iload_n hx hb dX7_setZeros_4 rfl (lv_at hl 3 rfl) ?_
    refine lv_iconst (v := (3 : Int32)) hx hb dX7_setZeros_5 (by decide) ?_
    refine lv_icmp_ge (tgt := 55) hx hb dX7_setZeros_6 (by decide) (fun hc => ?_) (fun hc => ?_)
    · replace h := h.1 hc
      refine lv_iload_n hx hb dX7_setZeros_55 rfl (lv_at hl 2 rfl) ?_
      exact gq_iret C hM h dX7_setZeros_56
    · replace h := h.2 hc
      refine lv_aload_n hx hb dX7_setZeros_9 rfl (lv_at hl 1 rfl) ?_
      refine gX4_10 C hM hv1 gw_106 dX7_setZeros_10 ?_
      refine lv_iload_n hx hb dX7_setZeros_13 rfl (lv_at hl 3 rfl) ?_
      refine gialdX C hM (kX_4_10 hv1) h.1 dX7_setZeros_14 ?_
      replace h := h.2
      refine lv_aload_n hx hb dX7_setZeros_15 rfl (lv_at hl 0 rfl) ?_
      refine gX7_7 C hM hv0 gw_313 dX7_setZeros_16 ?_
      refine gX2_1 C hM (kX_7_7 hv0) gw_249 dX7_setZeros_19 ?_
      refine lv_iload_n hx hb dX7_setZeros_22 rfl (lv_at hl 3 rfl) ?_
      refine gialdX C hM (kX_2_1 (kX_7_7 hv0)) h.1 dX7_setZeros_23 ?_
      replace h := h.2
      refine lv_iadd hx hb dX7_setZeros_24 ?_
      refine lv_topi (fun x1 ex1 => ?_)
      replace h := h x1 ex1
      refine lv_istore (lv' := [(4, .int x1), (0, .ref (gx_ad L v0)), (1, .ref (gx_ad L v1)), (2, .int v2), (3, .int v3)]) hx hb dX7_setZeros_25 hl (by decide) rfl (fun ls hl => ?_)
      refine lv_iload hx hb dX7_setZeros_27 (lv_at hl 0 rfl) ?_
      refine lv_aload_n hx hb dX7_setZeros_29 rfl (lv_at hl 2 rfl) ?_
      refine gX4_10 C hM hv1 gw_106 dX7_setZeros_30 ?_
      refine lv_iload_n hx hb dX7_setZeros_33 rfl (lv_at hl 4 rfl) ?_
      refine gialdX C hM (kX_4_10 hv1) h.1 dX7_setZeros_34 ?_
      replace h := h.2
      refine lv_icmp_eq (tgt := 49) hx hb dX7_setZeros_35 (by decide) (fun hc => ?_) (fun hc => ?_)
      · replace h := h.1 hc
        exact tj_X7_setZeros_49 C ih v0 v1 v2 v3 (hv0) (hv1) I _ _ _ hM (lv_sub hl [1, 2, 3, 4] rfl) h
      · replace h := h.2 hc
        refine lv_aload_n hx hb dX7_setZeros_38 rfl (lv_at hl 2 rfl) ?_
        refine gX4_10 C hM hv1 gw_106 dX7_setZeros_39 ?_
        refine lv_iload_n hx hb dX7_setZeros_42 rfl (lv_at hl 4 rfl) ?_
        refine lv_iload hx hb dX7_setZeros_43 (lv_at hl 0 rfl) ?_
        have hi := h.1
        replace h := h.2
        obtain ⟨I1, eI1⟩ : ∃ z : gx_M, z = up I (v1 + 2) v3.toNatClampNeg x1 := ⟨_, rfl⟩
        replace h := h I1 eI1
        refine giastX C hM (kX_4_10 hv1) hi eI1 dX7_setZeros_45 (fun H locs hM => ?_)
        obtain ⟨x2, ex2⟩ : ∃ z : Int32, z = v2 + (1 : Int32) := ⟨_, rfl⟩
        replace h := h x2 ex2
        refine lv_iinc (v := x2) (lv' := [(2, .int x2), (4, .int x1), (0, .ref (gx_ad L v0)), (1, .ref (gx_ad L v1)), (3, .int v3)]) hx hb dX7_setZeros_46 hl (k := 3) rfl (by rw [ex2]; rfl) (by decide) rfl (fun ls hl => ?_)
        exact tj_X7_setZeros_49 C ih v0 v1 x2 v3 (hv0) (hv1) I1 _ _ _ hM (lv_sub hl [2, 3, 0, 4] rfl) h
set_option maxHeartbeats 4000000 in
set_option maxRecDepth 100000 in
theorem c_X7_setZeros (l : Launch) (L : gx_L) (a0 : Nat) (hk0 : kX a0 = 7) (p0 : Nat) (hp0 : kX p0 = 4) (I : gx_M) (Q : Int32 → gx_M → Prop) (h : wp_X7_setZeros a0 p0 I Q) : Met l yX7_setZeros (gx_w yX7_setZeros cX7_setZeros 5 (some .int)) rm_X7_setZeros (va_Pc [.ref (gx_ad L a0), .ref (gx_ad L p0)] (gx_U L 282 (cellX L I))) (va_Qi Q (fun I' t => gx_U L 282 (cellX L I') t) (gx_A L)) 0 0 (gx_A L) := by
  refine gq_enter (by decide) (Nat.le_of_ble_eq_true rfl) (fun p e s m below meth c ls C hM hl => ?_)
  have C : gx_C L 282 p s m _ meth c RX7 cX7_setZeros 5 (some .int) := C
  have hl : lv_has ls 5 [(0, .ref (gx_ad L a0)), (1, .ref (gx_ad L p0))] := hl
  have hx := C.1
  have hb := C.2.1
  unfold wp_X7_setZeros at h
  refine lv_iconst (v := (0 : Int32)) hx hb dX7_setZeros_0 (by decide) ?_
  refine lv_istore_n (lv' := [(2, .int (0 : Int32)), (0, .ref (gx_ad L a0)), (1, .ref (gx_ad L p0))]) hx hb dX7_setZeros_1 rfl hl (by decide) rfl (fun ls hl => ?_)
  refine lv_iconst (v := (0 : Int32)) hx hb dX7_setZeros_2 (by decide) ?_
  refine lv_istore_n (lv' := [(3, .int (0 : Int32)), (2, .int (0 : Int32)), (0, .ref (gx_ad L a0)), (1, .ref (gx_ad L p0))]) hx hb dX7_setZeros_3 rfl hl (by decide) rfl (fun ls hl => ?_)
  obtain ⟨fv, h⟩ := h
  exact tl_X7_setZeros_4 C fv a0 p0 (0 : Int32) (0 : Int32) (hk0) (hp0) I _ _ _ hM (lv_sub hl [2, 3, 1, 0] rfl) h
theorem k_X7_setZeros : gx_kV yX7_setZeros cX7_setZeros 5 (some .int) 1 := ⟨⟨gw_522, gw_22, by decide, by decide, by decide +kernel⟩, gw_521, gw_14⟩
abbrev rm_X7_perform : Room := { frames := 2, cells := 0, slots := 0, locals := 47 }
set_option maxHeartbeats 4000000 in
set_option maxRecDepth 100000 in
theorem c_X7_perform (l : Launch) (L : gx_L) (a0 : Nat) (hk0 : kX a0 = 7) (p0 : Int32) (p1 : Nat) (hp1 : kX p1 = 4) (I : gx_M) (Q : Int32 → gx_M → Prop) (h : wp_X7_perform a0 p0 p1 I Q) : Met l yX7_perform (gx_w yX7_perform cX7_perform 3 (some .int)) rm_X7_perform (va_Pc [.ref (gx_ad L a0), .int p0, .ref (gx_ad L p1)] (gx_U L 282 (cellX L I))) (va_Qi Q (fun I' t => gx_U L 282 (cellX L I') t) (gx_A L)) 0 0 (gx_A L) := by
  refine gq_enter (by decide) (Nat.le_of_ble_eq_true rfl) (fun p e s m below meth c ls C hM hl => ?_)
  have C : gx_C L 282 p s m _ meth c RX7 cX7_perform 3 (some .int) := C
  have hl : lv_has ls 3 [(0, .ref (gx_ad L a0)), (1, .int p0), (2, .ref (gx_ad L p1))] := hl
  have hx := C.1
  have hb := C.2.1
  unfold wp_X7_perform at h
  refine lv_iload_n hx hb dX7_perform_0 rfl (lv_at hl 1 rfl) ?_
  by_cases hs0 : p0 = (0 : Int32)
  · replace h := h.1 hs0
    refine lv_lookup (tgt := 28) hx hb dX7_perform_1 (by decide) (off := 27) (by rw [hs0]; decide) (by decide) ?_
    refine lv_aload_n hx hb dX7_perform_28 rfl (lv_at hl 0 rfl) ?_
    refine gX7_7 C hM hk0 gw_313 dX7_perform_29 ?_
    refine gX2_12 C hM (kX_7_7 hk0) gw_270 dX7_perform_32 ?_
    refine lv_aload_n hx hb dX7_perform_35 rfl (lv_at hl 0 rfl) ?_
    refine gX7_7 C hM hk0 gw_313 dX7_perform_36 ?_
    refine gX2_14 C hM (kX_7_7 hk0) gw_274 dX7_perform_39 ?_
    refine lv_iadd hx hb dX7_perform_42 ?_
    exact gq_iret C hM h dX7_perform_43
  by_cases hs1 : p0 = (1 : Int32)
  · replace h := h.2.1 hs1
    refine lv_lookup (tgt := 44) hx hb dX7_perform_1 (by decide) (off := 43) (by rw [hs1]; decide) (by decide) ?_
    refine lv_aload_n hx hb dX7_perform_44 rfl (lv_at hl 0 rfl) ?_
    refine lv_aload_n hx hb dX7_perform_45 rfl (lv_at hl 2 rfl) ?_
    refine gq_backi C hM (gq_runV (As := [.ref (gx_ad L p1)]) (rest := []) C hM (kX_lt hk0 (by decide)) (cX_7 hk0) rfl (c_X7_setZeros l L a0 hk0 p1 hp1 I _ h) k_X7_setZeros gw_519 rfl hl.1 rfl (Nat.le_of_ble_eq_true rfl) ⟨⟨rfl, rfl⟩, Nat.le_of_ble_eq_true rfl, Nat.le_of_ble_eq_true rfl⟩ ⟨Nat.zero_le _, Nat.zero_le _⟩ dX7_perform_46) (fun r1 I1 H locs h hM => ?_)
    exact gq_iret C hM h dX7_perform_49
  replace h := h.2.2 hs0 hs1
  refine lv_lookup (tgt := 50) hx hb dX7_perform_1 (by decide) (off := 49) (by rw [lv_osw (k := (0 : Int32)) hs0 (by decide)]; rw [lv_osw (k := (1 : Int32)) hs1 (by decide)]; rfl) (by decide) ?_
  refine lv_aload_n hx hb dX7_perform_50 rfl (lv_at hl 0 rfl) ?_
  refine lv_aload_n hx hb dX7_perform_51 rfl (lv_at hl 2 rfl) ?_
  refine gq_backi C hM (gq_runV (As := [.ref (gx_ad L p1)]) (rest := []) C hM (kX_lt hk0 (by decide)) (cX_7 hk0) rfl (c_X7_setGains l L a0 hk0 p1 hp1 I _ h) k_X7_setGains gw_523 rfl hl.1 rfl (Nat.le_of_ble_eq_true rfl) ⟨⟨rfl, rfl⟩, Nat.le_of_ble_eq_true rfl, Nat.le_of_ble_eq_true rfl⟩ ⟨Nat.zero_le _, Nat.zero_le _⟩ dX7_perform_52) (fun r2 I2 H locs h hM => ?_)
  exact gq_iret C hM h dX7_perform_55
theorem k_X7_perform : gx_kV yX7_perform cX7_perform 3 (some .int) 2 := ⟨⟨gw_518, gw_22, by decide, by decide, by decide +kernel⟩, gw_517, gw_13⟩
abbrev rm_X7_reasonAgainstBalance : Room := { frames := 2, cells := 0, slots := 0, locals := 43 }
set_option maxHeartbeats 4000000 in
set_option maxRecDepth 100000 in
theorem tl_X7_reasonAgainstBalance_11 (C : gx_C L 282 p s m args meth c RX7 cX7_reasonAgainstBalance 3 (some .int)) {Q : Int32 → gx_M → Prop} : ∀ (fu : Nat) (v0 : Nat) (v1 : Nat) (v2 : Int32) (hv0 : kX v0 = 7) (hv1 : kX v1 = 4) (I : gx_M) (H : Heap) (locs : List Loc) (ls : Array Slot), gx_S L 282 (cellX L I) s.heap H locs → lv_has ls 3 [(0, .ref (gx_ad L v0)), (1, .ref (gx_ad L v1)), (2, .int v2)] → wl_X7_reasonAgainstBalance_11 Q fu v0 v1 v2 I → W p l e rm_X7_reasonAgainstBalance s m args below meth c H locs 0 0 (MQ below (va_Qi Q (fun I' t => gx_U L 282 (cellX L I') t) (gx_A L)) args s 0 0 (gx_A L)) (F0 m 11 ls []) := by
  have hx := C.1
  have hb := C.2.1
  intro fu
  induction fu with
  | zero => intros; rename_i h; exact False.elim h
  | succ fu ih =>
    intro v0 v1 v2 hv0 hv1 I H locs ls hM hl h
    rw [wl_X7_reasonAgainstBalance_11] at h
    refine lv_iload_n hx hb dX7_reasonAgainstBalance_11 rfl (lv_at hl 2 rfl) ?_
    refine lv_iconst (v := (3 : Int32)) hx hb dX7_reasonAgainstBalance_12 (by decide) ?_
    refine lv_icmp_ge (tgt := 49) hx hb dX7_reasonAgainstBalance_13 (by decide) (fun hc => ?_) (fun hc => ?_)
    · replace h := h.1 hc
      refine lv_iconst (v := (0 : Int32)) hx hb dX7_reasonAgainstBalance_49 (by decide) ?_
      exact gq_iret C hM h dX7_reasonAgainstBalance_50
    · replace h := h.2 hc
      refine lv_aload_n hx hb dX7_reasonAgainstBalance_16 rfl (lv_at hl 1 rfl) ?_
      refine gX4_10 C hM hv1 gw_106 dX7_reasonAgainstBalance_17 ?_
      refine lv_iload_n hx hb dX7_reasonAgainstBalance_20 rfl (lv_at hl 2 rfl) ?_
      refine gialdX C hM (kX_4_10 hv1) h.1 dX7_reasonAgainstBalance_21 ?_
      replace h := h.2
      refine lv_aload_n hx hb dX7_reasonAgainstBalance_22 rfl (lv_at hl 0 rfl) ?_
      refine gX7_7 C hM hv0 gw_313 dX7_reasonAgainstBalance_23 ?_
      refine gX2_1 C hM (kX_7_7 hv0) gw_249 dX7_reasonAgainstBalance_26 ?_
      refine lv_iload_n hx hb dX7_reasonAgainstBalance_29 rfl (lv_at hl 2 rfl) ?_
      refine gialdX C hM (kX_2_1 (kX_7_7 hv0)) h.1 dX7_reasonAgainstBalance_30 ?_
      replace h := h.2
      refine lv_iadd hx hb dX7_reasonAgainstBalance_31 ?_
      refine lv_sipush (v := (15000 : Int32)) hx hb dX7_reasonAgainstBalance_32 (by decide) ?_
      refine gq_backi C hM (gq_runS (As := [.int ((I (v1 + 2) v2.toNatClampNeg) + (I ((v0 + 275) + 2) v2.toNatClampNeg)), .int (15000 : Int32)]) (rest := []) C hM (c_X7_isAround0 l L ((I (v1 + 2) v2.toNatClampNeg) + (I ((v0 + 275) + 2) v2.toNatClampNeg)) (15000 : Int32) I _ h) k_X7_isAround0 gw_510 rfl hl.1 rfl (Nat.le_of_ble_eq_true rfl) ⟨⟨rfl, rfl⟩, Nat.le_of_ble_eq_true rfl, Nat.le_of_ble_eq_true rfl⟩ ⟨Nat.zero_le _, Nat.zero_le _⟩ dX7_reasonAgainstBalance_35) (fun r1 I1 H locs h hM => ?_)
      obtain ⟨hz1, h⟩ := h
      refine lv_if_ne (tgt := 43) hx hb dX7_reasonAgainstBalance_38 (by decide) (fun hc => ?_) (fun hc => ?_)
      · replace h := h.2 hc
        obtain ⟨x1, ex1⟩ : ∃ z : Int32, z = v2 + (1 : Int32) := ⟨_, rfl⟩
        replace h := h x1 ex1
        refine lv_iinc (v := x1) (lv' := [(2, .int x1), (0, .ref (gx_ad L v0)), (1, .ref (gx_ad L v1))]) hx hb dX7_reasonAgainstBalance_43 hl (k := 2) rfl (by rw [ex1]; rfl) (by decide) rfl (fun ls hl => ?_)
        refine lv_goto (tgt := 11) hx hb dX7_reasonAgainstBalance_46 (by decide) ?_
        exact ih v0 v1 x1 (hv0) (hv1) I1 _ _ _ hM (lv_sub hl [1, 2, 0] rfl) h
      · replace h := h.1 hc
        refine lv_iconst (v := (3 : Int32)) hx hb dX7_reasonAgainstBalance_41 (by decide) ?_
        exact gq_iret C hM h dX7_reasonAgainstBalance_42
set_option maxHeartbeats 4000000 in
set_option maxRecDepth 100000 in
theorem c_X7_reasonAgainstBalance (l : Launch) (L : gx_L) (a0 : Nat) (hk0 : kX a0 = 7) (p0 : Nat) (hp0 : kX p0 = 4) (I : gx_M) (Q : Int32 → gx_M → Prop) (h : wp_X7_reasonAgainstBalance a0 p0 I Q) : Met l yX7_reasonAgainstBalance (gx_w yX7_reasonAgainstBalance cX7_reasonAgainstBalance 3 (some .int)) rm_X7_reasonAgainstBalance (va_Pc [.ref (gx_ad L a0), .ref (gx_ad L p0)] (gx_U L 282 (cellX L I))) (va_Qi Q (fun I' t => gx_U L 282 (cellX L I') t) (gx_A L)) 0 0 (gx_A L) := by
  refine gq_enter (by decide) (Nat.le_of_ble_eq_true rfl) (fun p e s m below meth c ls C hM hl => ?_)
  have C : gx_C L 282 p s m _ meth c RX7 cX7_reasonAgainstBalance 3 (some .int) := C
  have hl : lv_has ls 3 [(0, .ref (gx_ad L a0)), (1, .ref (gx_ad L p0))] := hl
  have hx := C.1
  have hb := C.2.1
  unfold wp_X7_reasonAgainstBalance at h
  refine lv_aload_n hx hb dX7_reasonAgainstBalance_0 rfl (lv_at hl 1 rfl) ?_
  refine gX4_8 C hM hp0 gw_99 dX7_reasonAgainstBalance_1 ?_
  refine lv_if_eq (tgt := 9) hx hb dX7_reasonAgainstBalance_4 (by decide) (fun hc => ?_) (fun hc => ?_)
  · replace h := h.1 hc
    refine lv_iconst (v := (0 : Int32)) hx hb dX7_reasonAgainstBalance_9 (by decide) ?_
    refine lv_istore_n (lv' := [(2, .int (0 : Int32)), (0, .ref (gx_ad L a0)), (1, .ref (gx_ad L p0))]) hx hb dX7_reasonAgainstBalance_10 rfl hl (by decide) rfl (fun ls hl => ?_)
    obtain ⟨fv, h⟩ := h
    exact tl_X7_reasonAgainstBalance_11 C fv a0 p0 (0 : Int32) (hk0) (hp0) I _ _ _ hM (lv_sub hl [1, 2, 0] rfl) h
  · replace h := h.2 hc
    refine lv_iconst (v := (4 : Int32)) hx hb dX7_reasonAgainstBalance_7 (by decide) ?_
    exact gq_iret C hM h dX7_reasonAgainstBalance_8
theorem k_X7_reasonAgainstBalance : gx_kV yX7_reasonAgainstBalance cX7_reasonAgainstBalance 3 (some .int) 1 := ⟨⟨gw_509, gw_22, by decide, by decide, by decide +kernel⟩, gw_508, gw_11⟩
abbrev rm_X7_reasonAgainstCheck : Room := { frames := 0, cells := 0, slots := 0, locals := 0 }
set_option maxHeartbeats 4000000 in
set_option maxRecDepth 100000 in
theorem tl_X7_reasonAgainstCheck_14 (C : gx_C L 282 p s m args meth c RX7 cX7_reasonAgainstCheck 2 (some .int)) {Q : Int32 → gx_M → Prop} : ∀ (fu : Nat) (v0 : Nat) (v1 : Int32) (hv0 : kX v0 = 7) (I : gx_M) (H : Heap) (locs : List Loc) (ls : Array Slot), gx_S L 282 (cellX L I) s.heap H locs → lv_has ls 2 [(0, .ref (gx_ad L v0)), (1, .int v1)] → wl_X7_reasonAgainstCheck_14 Q fu v0 v1 I → W p l e rm_X7_reasonAgainstCheck s m args below meth c H locs 0 0 (MQ below (va_Qi Q (fun I' t => gx_U L 282 (cellX L I') t) (gx_A L)) args s 0 0 (gx_A L)) (F0 m 14 ls []) := by
  have hx := C.1
  have hb := C.2.1
  intro fu
  induction fu with
  | zero => intros; rename_i h; exact False.elim h
  | succ fu ih =>
    intro v0 v1 hv0 I H locs ls hM hl h
    rw [wl_X7_reasonAgainstCheck_14] at h
    refine lv_iload_n hx hb dX7_reasonAgainstCheck_14 rfl (lv_at hl 1 rfl) ?_
    refine lv_iconst (v := (3 : Int32)) hx hb dX7_reasonAgainstCheck_15 (by decide) ?_
    refine lv_icmp_ge (tgt := 39) hx hb dX7_reasonAgainstCheck_16 (by decide) (fun hc => ?_) (fun hc => ?_)
    · replace h := h.1 hc
      refine lv_iconst (v := (0 : Int32)) hx hb dX7_reasonAgainstCheck_39 (by decide) ?_
      exact gq_iret C hM h dX7_reasonAgainstCheck_40
    · replace h := h.2 hc
      refine lv_aload_n hx hb dX7_reasonAgainstCheck_19 rfl (lv_at hl 0 rfl) ?_
      refine gX7_7 C hM hv0 gw_313 dX7_reasonAgainstCheck_20 ?_
      refine gX2_4 C hM (kX_7_7 hv0) gw_254 dX7_reasonAgainstCheck_23 ?_
      refine lv_iload_n hx hb dX7_reasonAgainstCheck_26 rfl (lv_at hl 1 rfl) ?_
      refine gialdX C hM (kX_2_4 (kX_7_7 hv0)) h.1 dX7_reasonAgainstCheck_27 ?_
      replace h := h.2
      refine lv_if_ne (tgt := 33) hx hb dX7_reasonAgainstCheck_28 (by decide) (fun hc => ?_) (fun hc => ?_)
      · replace h := h.2 hc
        obtain ⟨x1, ex1⟩ : ∃ z : Int32, z = v1 + (1 : Int32) := ⟨_, rfl⟩
        replace h := h x1 ex1
        refine lv_iinc (v := x1) (lv' := [(1, .int x1), (0, .ref (gx_ad L v0))]) hx hb dX7_reasonAgainstCheck_33 hl (k := 1) rfl (by rw [ex1]; rfl) (by decide) rfl (fun ls hl => ?_)
        refine lv_goto (tgt := 14) hx hb dX7_reasonAgainstCheck_36 (by decide) ?_
        exact ih v0 x1 (hv0) I _ _ _ hM (lv_sub hl [1, 0] rfl) h
      · replace h := h.1 hc
        refine lv_iconst (v := (5 : Int32)) hx hb dX7_reasonAgainstCheck_31 (by decide) ?_
        exact gq_iret C hM h dX7_reasonAgainstCheck_32
set_option maxHeartbeats 4000000 in
set_option maxRecDepth 100000 in
theorem c_X7_reasonAgainstCheck (l : Launch) (L : gx_L) (a0 : Nat) (hk0 : kX a0 = 7) (I : gx_M) (Q : Int32 → gx_M → Prop) (h : wp_X7_reasonAgainstCheck a0 I Q) : Met l yX7_reasonAgainstCheck (gx_w yX7_reasonAgainstCheck cX7_reasonAgainstCheck 2 (some .int)) rm_X7_reasonAgainstCheck (va_Pc [.ref (gx_ad L a0)] (gx_U L 282 (cellX L I))) (va_Qi Q (fun I' t => gx_U L 282 (cellX L I') t) (gx_A L)) 0 0 (gx_A L) := by
  refine gq_enter (by decide) (Nat.le_of_ble_eq_true rfl) (fun p e s m below meth c ls C hM hl => ?_)
  have C : gx_C L 282 p s m _ meth c RX7 cX7_reasonAgainstCheck 2 (some .int) := C
  have hl : lv_has ls 2 [(0, .ref (gx_ad L a0))] := hl
  have hx := C.1
  have hb := C.2.1
  unfold wp_X7_reasonAgainstCheck at h
  refine lv_aload_n hx hb dX7_reasonAgainstCheck_0 rfl (lv_at hl 0 rfl) ?_
  refine gX7_7 C hM hk0 gw_313 dX7_reasonAgainstCheck_1 ?_
  refine gX2_8 C hM (kX_7_7 hk0) gw_262 dX7_reasonAgainstCheck_4 ?_
  refine lv_if_eq (tgt := 12) hx hb dX7_reasonAgainstCheck_7 (by decide) (fun hc => ?_) (fun hc => ?_)
  · replace h := h.1 hc
    refine lv_iconst (v := (0 : Int32)) hx hb dX7_reasonAgainstCheck_12 (by decide) ?_
    refine lv_istore_n (lv' := [(1, .int (0 : Int32)), (0, .ref (gx_ad L a0))]) hx hb dX7_reasonAgainstCheck_13 rfl hl (by decide) rfl (fun ls hl => ?_)
    obtain ⟨fv, h⟩ := h
    exact tl_X7_reasonAgainstCheck_14 C fv a0 (0 : Int32) (hk0) I _ _ _ hM (lv_sub hl [1, 0] rfl) h
  · replace h := h.2 hc
    refine lv_iconst (v := (2 : Int32)) hx hb dX7_reasonAgainstCheck_10 (by decide) ?_
    exact gq_iret C hM h dX7_reasonAgainstCheck_11
theorem k_X7_reasonAgainstCheck : gx_kV yX7_reasonAgainstCheck cX7_reasonAgainstCheck 2 (some .int) 0 := ⟨⟨gw_514, gw_22, by decide, by decide, by decide +kernel⟩, gw_513, gw_12⟩
end
