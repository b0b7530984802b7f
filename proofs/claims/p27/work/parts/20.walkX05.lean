section
variable {p : Program} {l : Launch} {e : Env} {s : State} {m : MethodId} {args : Array Value} {below : List Frame} {meth : Method} {c : Code} {L : gx_L}
abbrev rm_X7_reasonAgainst : Room := { frames := 3, cells := 0, slots := 0, locals := 65 }
set_option maxHeartbeats 4000000 in
set_option maxRecDepth 100000 in
theorem c_X7_reasonAgainst (l : Launch) (L : gx_L) (a0 : Nat) (hk0 : kX a0 = 7) (p0 : Int32) (p1 : Nat) (hp1 : kX p1 = 4) (I : gx_M) (Q : Int32 → gx_M → Prop) (h : wp_X7_reasonAgainst a0 p0 p1 I Q) : Met l yX7_reasonAgainst (gx_w yX7_reasonAgainst cX7_reasonAgainst 3 (some .int)) rm_X7_reasonAgainst (va_Pc [.ref (gx_ad L a0), .int p0, .ref (gx_ad L p1)] (gx_U L 282 (cellX L I))) (va_Qi Q (fun I' t => gx_U L 282 (cellX L I') t) (gx_A L)) 0 0 (gx_A L) := by
  refine gq_enter (by decide) (Nat.le_of_ble_eq_true rfl) (fun p e s m below meth c ls C hM hl => ?_)
  have C : gx_C L 282 p s m _ meth c RX7 cX7_reasonAgainst 3 (some .int) := C
  have hl : lv_has ls 3 [(0, .ref (gx_ad L a0)), (1, .int p0), (2, .ref (gx_ad L p1))] := hl
  have hx := C.1
  have hb := C.2.1
  unfold wp_X7_reasonAgainst at h
  refine lv_iload_n hx hb dX7_reasonAgainst_0 rfl (lv_at hl 1 rfl) ?_
  by_cases hs0 : p0 = (0 : Int32)
  · replace h := h.1 hs0
    refine lv_lookup (tgt := 28) hx hb dX7_reasonAgainst_1 (by decide) (off := 27) (by rw [hs0]; decide) (by decide) ?_
    refine lv_aload_n hx hb dX7_reasonAgainst_28 rfl (lv_at hl 0 rfl) ?_
    refine gX7_7 C hM hk0 gw_313 dX7_reasonAgainst_29 ?_
    refine gX2_7 C hM (kX_7_7 hk0) gw_260 dX7_reasonAgainst_32 ?_
    refine lv_if_le (tgt := 42) hx hb dX7_reasonAgainst_35 (by decide) (fun hc => ?_) (fun hc => ?_)
    · replace h := h.1 hc
      refine lv_iconst (v := (0 : Int32)) hx hb dX7_reasonAgainst_42 (by decide) ?_
      exact gq_iret C hM h dX7_reasonAgainst_43
    · replace h := h.2 hc
      refine lv_iconst (v := (2 : Int32)) hx hb dX7_reasonAgainst_38 (by decide) ?_
      refine lv_goto (tgt := 43) hx hb dX7_reasonAgainst_39 (by decide) ?_
      exact gq_iret C hM h dX7_reasonAgainst_43
  by_cases hs1 : p0 = (1 : Int32)
  · replace h := h.2.1 hs1
    refine lv_lookup (tgt := 44) hx hb dX7_reasonAgainst_1 (by decide) (off := 43) (by rw [hs1]; decide) (by decide) ?_
    refine lv_aload_n hx hb dX7_reasonAgainst_44 rfl (lv_at hl 0 rfl) ?_
    refine lv_aload_n hx hb dX7_reasonAgainst_45 rfl (lv_at hl 2 rfl) ?_
    refine gq_backi C hM (gq_runV (As := [.ref (gx_ad L p1)]) (rest := []) C hM (kX_lt hk0 (by decide)) (cX_7 hk0) rfl (c_X7_reasonAgainstBalance l L a0 hk0 p1 hp1 I _ h) k_X7_reasonAgainstBalance gw_506 rfl hl.1 rfl (Nat.le_of_ble_eq_true rfl) ⟨⟨rfl, rfl⟩, Nat.le_of_ble_eq_true rfl, Nat.le_of_ble_eq_true rfl⟩ ⟨Nat.zero_le _, Nat.zero_le _⟩ dX7_reasonAgainst_46) (fun r1 I1 H locs h hM => ?_)
    exact gq_iret C hM h dX7_reasonAgainst_49
  replace h := h.2.2 hs0 hs1
  refine lv_lookup (tgt := 50) hx hb dX7_reasonAgainst_1 (by decide) (off := 49) (by rw [lv_osw (k := (0 : Int32)) hs0 (by decide)]; rw [lv_osw (k := (1 : Int32)) hs1 (by decide)]; rfl) (by decide) ?_
  refine lv_aload_n hx hb dX7_reasonAgainst_50 rfl (lv_at hl 0 rfl) ?_
  refine gq_backi C hM (gq_runV (As := []) (rest := []) C hM (kX_lt hk0 (by decide)) (cX_7 hk0) rfl (c_X7_reasonAgainstCheck l L a0 hk0 I _ h) k_X7_reasonAgainstCheck gw_511 rfl hl.1 rfl (Nat.le_of_ble_eq_true rfl) ⟨⟨rfl, rfl⟩, Nat.le_of_ble_eq_true rfl, Nat.le_of_ble_eq_true rfl⟩ ⟨Nat.zero_le _, Nat.zero_le _⟩ dX7_reasonAgainst_51) (fun r2 I2 H locs h hM => ?_)
  exact gq_iret C hM h dX7_reasonAgainst_54
theorem k_X7_reasonAgainst : gx_kV yX7_reasonAgainst cX7_reasonAgainst 3 (some .int) 2 := ⟨⟨gw_505, gw_22, by decide, by decide, by decide +kernel⟩, gw_504, gw_10⟩
abbrev rm_X7_doJob : Room := { frames := 5, cells := 0, slots := 0, locals := 110 }
set_option maxHeartbeats 4000000 in
set_option maxRecDepth 100000 in
theorem tj_X7_doJob_130 (C : gx_C L 282 p s m args meth c RX7 cX7_doJob 7 none) {Q : gx_M → Prop} : ∀ (v0 : Nat) (v2 : Int32) (v3 : Int32) (v5 : Int32) (v6 : Int32) (hv0 : kX v0 = 7) (I : gx_M) (H : Heap) (locs : List Loc) (ls : Array Slot), gx_S L 282 (cellX L I) s.heap H locs → lv_has ls 7 [(0, .ref (gx_ad L v0)), (2, .int v2), (3, .int v3), (5, .int v5), (6, .int v6)] → wj_X7_doJob_130 Q v0 v2 v3 v5 v6 I → W p l e rm_X7_doJob s m args below meth c H locs 0 0 (MQ below (va_Qv Q (fun I' t => gx_U L 282 (cellX L I') t) (gx_A L)) args s 0 0 (gx_A L)) (F0 m 130 ls []) := by
  have hx := C.1
  have hb := C.2.1
  intro v0 v2 v3 v5 v6 hv0 I H locs ls hM hl h
  unfold wj_X7_doJob_130 at h
  refine lv_aload_n hx hb dX7_doJob_130 rfl (lv_at hl 0 rfl) ?_
  refine gX7_0 C hM hv0 gw_306 dX7_doJob_131 ?_
  refine lv_dup hx hb dX7_doJob_134 rfl ?_
  refine gX6_8 C hM (kX_7_0 hv0) gw_154 dX7_doJob_135 ?_
  refine lv_iconst (v := (1 : Int32)) hx hb dX7_doJob_138 (by decide) ?_
  refine lv_iadd hx hb dX7_doJob_139 ?_
  obtain ⟨I1, eI1⟩ : ∃ z : gx_M, z = up I (v0 + 1) 8 ((I (v0 + 1) 8) + (1 : Int32)) := ⟨_, rfl⟩
  replace h := h I1 eI1
  refine pX6_8 C hM (kX_7_0 hv0) eI1 gw_154 dX7_doJob_140 (fun H locs hM => ?_)
  refine lv_aload_n hx hb dX7_doJob_143 rfl (lv_at hl 0 rfl) ?_
  refine gX7_0 C hM hv0 gw_306 dX7_doJob_144 ?_
  refine lv_iload_n hx hb dX7_doJob_147 rfl (lv_at hl 1 rfl) ?_
  refine lv_iload_n hx hb dX7_doJob_148 rfl (lv_at hl 2 rfl) ?_
  refine lv_iload hx hb dX7_doJob_149 (lv_at hl 4 rfl) ?_
  refine lv_iload hx hb dX7_doJob_151 (lv_at hl 3 rfl) ?_
  refine gq_backv C hM (gq_runV (As := [.int v2, .int v3, .int v6, .int v5]) (rest := []) C hM (kX_lt (kX_7_0 hv0) (by decide)) (cX_6 (kX_7_0 hv0)) rfl (c_X6_leaveRecord l L (v0 + 1) (kX_7_0 hv0) v2 v3 v6 v5 I1 _ h) k_X6_leaveRecord gw_529 rfl hl.1 rfl (Nat.le_of_ble_eq_true rfl) ⟨⟨rfl, rfl⟩, Nat.le_of_ble_eq_true rfl, Nat.le_of_ble_eq_true rfl⟩ ⟨Nat.zero_le _, Nat.zero_le _⟩ dX7_doJob_153) (fun I2 H locs h hM => ?_)
  exact gq_vret C hM h dX7_doJob_156
set_option maxHeartbeats 4000000 in
set_option maxRecDepth 100000 in
theorem c_X7_doJob (l : Launch) (L : gx_L) (a0 : Nat) (hk0 : kX a0 = 7) (p0 : Int32) (I : gx_M) (Q : gx_M → Prop) (h : wp_X7_doJob a0 p0 I Q) : Met l yX7_doJob (gx_w yX7_doJob cX7_doJob 7 none) rm_X7_doJob (va_Pc [.ref (gx_ad L a0), .int p0] (gx_U L 282 (cellX L I))) (va_Qv Q (fun I' t => gx_U L 282 (cellX L I') t) (gx_A L)) 0 0 (gx_A L) := by
  refine gq_enter (by decide) (Nat.le_of_ble_eq_true rfl) (fun p e s m below meth c ls C hM hl => ?_)
  have C : gx_C L 282 p s m _ meth c RX7 cX7_doJob 7 none := C
  have hl : lv_has ls 7 [(0, .ref (gx_ad L a0)), (1, .int p0)] := hl
  have hx := C.1
  have hb := C.2.1
  unfold wp_X7_doJob at h
  refine lv_aload_n hx hb dX7_doJob_0 rfl (lv_at hl 0 rfl) ?_
  refine gX7_0 C hM hk0 gw_306 dX7_doJob_1 ?_
  refine gX6_1 C hM (kX_7_0 hk0) gw_139 dX7_doJob_4 ?_
  refine lv_iload_n hx hb dX7_doJob_7 rfl (lv_at hl 1 rfl) ?_
  refine lv_iconst (v := (1 : Int32)) hx hb dX7_doJob_8 (by decide) ?_
  refine gq_backi C hM (gq_runV (As := [.int p0, .int (1 : Int32)]) (rest := []) C hM (kX_lt (kX_6_1 (kX_7_0 hk0)) (by decide)) (cX_5 (kX_6_1 (kX_7_0 hk0))) rfl (c_X5_at l L ((a0 + 1) + 2) (kX_6_1 (kX_7_0 hk0)) p0 (1 : Int32) I _ h) k_X5_at gw_433 rfl hl.1 rfl (Nat.le_of_ble_eq_true rfl) ⟨⟨rfl, rfl⟩, Nat.le_of_ble_eq_true rfl, Nat.le_of_ble_eq_true rfl⟩ ⟨Nat.zero_le _, Nat.zero_le _⟩ dX7_doJob_9) (fun r1 I1 H locs h hM => ?_)
  refine lv_istore_n (lv' := [(2, .int r1), (0, .ref (gx_ad L a0)), (1, .int p0)]) hx hb dX7_doJob_12 rfl hl (by decide) rfl (fun ls hl => ?_)
  refine lv_aload_n hx hb dX7_doJob_13 rfl (lv_at hl 1 rfl) ?_
  refine gX7_0 C hM hk0 gw_306 dX7_doJob_14 ?_
  refine gX6_1 C hM (kX_7_0 hk0) gw_139 dX7_doJob_17 ?_
  refine lv_iload_n hx hb dX7_doJob_20 rfl (lv_at hl 2 rfl) ?_
  refine lv_iconst (v := (2 : Int32)) hx hb dX7_doJob_21 (by decide) ?_
  refine gq_backi C hM (gq_runV (As := [.int p0, .int (2 : Int32)]) (rest := []) C hM (kX_lt (kX_6_1 (kX_7_0 hk0)) (by decide)) (cX_5 (kX_6_1 (kX_7_0 hk0))) rfl (c_X5_at l L ((a0 + 1) + 2) (kX_6_1 (kX_7_0 hk0)) p0 (2 : Int32) I1 _ h) k_X5_at gw_433 rfl hl.1 rfl (Nat.le_of_ble_eq_true rfl) ⟨⟨rfl, rfl⟩, Nat.le_of_ble_eq_true rfl, Nat.le_of_ble_eq_true rfl⟩ ⟨Nat.zero_le _, Nat.zero_le _⟩ dX7_doJob_22) (fun r2 I2 H locs h hM => ?_)
  refine lv_istore_n (lv' := [(3, .int r2), (2, .int r1), (0, .ref (gx_ad L a0)), (1, .int p0)]) hx hb dX7_doJob_25 rfl hl (by decide) rfl (fun ls hl => ?_)
  refine lv_aload_n hx hb dX7_doJob_26 rfl (lv_at hl 2 rfl) ?_
  refine gX7_0 C hM hk0 gw_306 dX7_doJob_27 ?_
  refine lv_iload_n hx hb dX7_doJob_30 rfl (lv_at hl 0 rfl) ?_
  refine gq_backe C hM (gq_runV (As := [.int r2]) (rest := []) C hM (kX_lt (kX_7_0 hk0) (by decide)) (cX_6 (kX_7_0 hk0)) rfl (c_X6_find l L (a0 + 1) (kX_7_0 hk0) r2 I2 _ h) k_X6_find gw_387 rfl hl.1 rfl (Nat.le_of_ble_eq_true rfl) ⟨⟨rfl, rfl⟩, Nat.le_of_ble_eq_true rfl, Nat.le_of_ble_eq_true rfl⟩ ⟨Nat.zero_le _, Nat.zero_le _⟩ dX7_doJob_31) (fun r3 I3 H locs h hM => ?_)
  obtain ⟨hk1, h⟩ := h
  rcases r3 with _ | b1
  · replace h := h.1 rfl
    refine W.eq (g2 := F0 m 34 ls [.null]) rfl ?_
    refine lv_astoreN (lv' := [(4, .null), (3, .int r2), (2, .int r1), (0, .ref (gx_ad L a0)), (1, .int p0)]) hx hb dX7_doJob_34 hl (by decide) rfl (fun ls hl => ?_)
    refine lv_aload_n hx hb dX7_doJob_36 rfl (lv_at hl 3 rfl) ?_
    refine gX7_0 C hM hk0 gw_306 dX7_doJob_37 ?_
    refine gX6_1 C hM (kX_7_0 hk0) gw_139 dX7_doJob_40 ?_
    refine lv_iload_n hx hb dX7_doJob_43 rfl (lv_at hl 4 rfl) ?_
    refine gq_backv C hM (gq_runV (As := [.int p0]) (rest := []) C hM (kX_lt (kX_6_1 (kX_7_0 hk0)) (by decide)) (cX_5 (kX_6_1 (kX_7_0 hk0))) rfl (c_X5_drop l L ((a0 + 1) + 2) (kX_6_1 (kX_7_0 hk0)) p0 I3 _ h) k_X5_drop gw_438 rfl hl.1 rfl (Nat.le_of_ble_eq_true rfl) ⟨⟨rfl, rfl⟩, Nat.le_of_ble_eq_true rfl, Nat.le_of_ble_eq_true rfl⟩ ⟨Nat.zero_le _, Nat.zero_le _⟩ dX7_doJob_44) (fun I4 H locs h hM => ?_)
    refine lv_aloadN hx hb dX7_doJob_47 (lv_at hl 0 rfl) ?_
    refine lv_ifnonnullN hx hb dX7_doJob_49 ?_
    exact gq_vret C hM h dX7_doJob_52
  · have hk := hk1 b1 rfl
    replace h := h.2 b1 rfl hk
    have hk2 := hk
    refine W.eq (g2 := F0 m 34 ls [.ref (gx_ad L b1)]) rfl ?_
    refine lv_astore (lv' := [(4, .ref (gx_ad L b1)), (3, .int r2), (2, .int r1), (0, .ref (gx_ad L a0)), (1, .int p0)]) hx hb dX7_doJob_34 hl (by decide) rfl (fun ls hl => ?_)
    refine lv_aload_n hx hb dX7_doJob_36 rfl (lv_at hl 3 rfl) ?_
    refine gX7_0 C hM hk0 gw_306 dX7_doJob_37 ?_
    refine gX6_1 C hM (kX_7_0 hk0) gw_139 dX7_doJob_40 ?_
    refine lv_iload_n hx hb dX7_doJob_43 rfl (lv_at hl 4 rfl) ?_
    refine gq_backv C hM (gq_runV (As := [.int p0]) (rest := []) C hM (kX_lt (kX_6_1 (kX_7_0 hk0)) (by decide)) (cX_5 (kX_6_1 (kX_7_0 hk0))) rfl (c_X5_drop l L ((a0 + 1) + 2) (kX_6_1 (kX_7_0 hk0)) p0 I3 _ h) k_X5_drop gw_438 rfl hl.1 rfl (Nat.le_of_ble_eq_true rfl) ⟨⟨rfl, rfl⟩, Nat.le_of_ble_eq_true rfl, Nat.le_of_ble_eq_true rfl⟩ ⟨Nat.zero_le _, Nat.zero_le _⟩ dX7_doJob_44) (fun I5 H locs h hM => ?_)
    refine lv_aload hx hb dX7_doJob_47 (lv_at hl 0 rfl) ?_
    refine lv_ifnonnull (tgt := 53) hx hb dX7_doJob_49 (by decide) ?_
    refine lv_aload_n hx hb dX7_doJob_53 rfl (lv_at hl 3 rfl) ?_
    refine gX7_0 C hM hk0 gw_306 dX7_doJob_54 ?_
    refine lv_aload hx hb dX7_doJob_57 (lv_at hl 0 rfl) ?_
    refine gX4_0 C hM hk2 gw_76 dX7_doJob_59 ?_
    refine gq_backv C hM (gq_runV (As := [.int (I5 b1 0)]) (rest := []) C hM (kX_lt (kX_7_0 hk0) (by decide)) (cX_6 (kX_7_0 hk0)) rfl (c_X6_goTo l L (a0 + 1) (kX_7_0 hk0) (I5 b1 0) I5 _ h) k_X6_goTo gw_439 rfl hl.1 rfl (Nat.le_of_ble_eq_true rfl) ⟨⟨rfl, rfl⟩, Nat.le_of_ble_eq_true rfl, Nat.le_of_ble_eq_true rfl⟩ ⟨Nat.zero_le _, Nat.zero_le _⟩ dX7_doJob_62) (fun I6 H locs h hM => ?_)
    refine lv_aload_n hx hb dX7_doJob_65 rfl (lv_at hl 3 rfl) ?_
    refine gX7_7 C hM hk0 gw_313 dX7_doJob_66 ?_
    refine lv_aload hx hb dX7_doJob_69 (lv_at hl 0 rfl) ?_
    refine lv_aload_n hx hb dX7_doJob_71 rfl (lv_at hl 3 rfl) ?_
    refine gX7_0 C hM hk0 gw_306 dX7_doJob_72 ?_
    refine gX6_4 C hM (kX_7_0 hk0) gw_145 dX7_doJob_75 ?_
    refine gq_backv C hM (gq_runV (As := [.ref (gx_ad L b1), .int (I6 (a0 + 1) 4)]) (rest := []) C hM (kX_lt (kX_7_7 hk0) (by decide)) (cX_2 (kX_7_7 hk0)) rfl (c_X2_take l L (a0 + 275) (kX_7_7 hk0) b1 hk2 (I6 (a0 + 1) 4) I6 _ h) k_X2_take gw_444 rfl hl.1 rfl (Nat.le_of_ble_eq_true rfl) ⟨⟨rfl, rfl⟩, Nat.le_of_ble_eq_true rfl, Nat.le_of_ble_eq_true rfl⟩ ⟨Nat.zero_le _, Nat.zero_le _⟩ dX7_doJob_78) (fun I7 H locs h hM => ?_)
    refine lv_aload_n hx hb dX7_doJob_81 rfl (lv_at hl 3 rfl) ?_
    refine lv_iload_n hx hb dX7_doJob_82 rfl (lv_at hl 2 rfl) ?_
    refine lv_aload hx hb dX7_doJob_83 (lv_at hl 0 rfl) ?_
    refine gq_backi C hM (gq_runV (As := [.int r1, .ref (gx_ad L b1)]) (rest := []) C hM (kX_lt hk0 (by decide)) (cX_7 hk0) rfl (c_X7_reasonAgainst l L a0 hk0 r1 b1 hk2 I7 _ h) k_X7_reasonAgainst gw_502 rfl hl.1 rfl (Nat.le_of_ble_eq_true rfl) ⟨⟨rfl, rfl⟩, Nat.le_of_ble_eq_true rfl, Nat.le_of_ble_eq_true rfl⟩ ⟨Nat.zero_le _, Nat.zero_le _⟩ dX7_doJob_85) (fun r4 I8 H locs h hM => ?_)
    refine lv_istore (lv' := [(5, .int r4), (4, .ref (gx_ad L b1)), (3, .int r2), (2, .int r1), (0, .ref (gx_ad L a0)), (1, .int p0)]) hx hb dX7_doJob_88 hl (by decide) rfl (fun ls hl => ?_)
    refine gq_ldc (v := (-1000004 : Int32)) C gw_399 dX7_doJob_90 ?_
    refine lv_istore (lv' := [(6, .int (-1000004 : Int32)), (5, .int r4), (4, .ref (gx_ad L b1)), (3, .int r2), (2, .int r1), (0, .ref (gx_ad L a0)), (1, .int p0)]) hx hb dX7_doJob_92 hl (by decide) rfl (fun ls hl => ?_)
    refine lv_iload hx hb dX7_doJob_94 (lv_at hl 1 rfl) ?_
    refine lv_if_ne (tgt := 111) hx hb dX7_doJob_96 (by decide) (fun hc => ?_) (fun hc => ?_)
    · replace h := h.2 hc
      refine lv_aload_n hx hb dX7_doJob_111 rfl (lv_at hl 5 rfl) ?_
      refine lv_iload hx hb dX7_doJob_112 (lv_at hl 1 rfl) ?_
      obtain ⟨I9, eI9⟩ : ∃ z : gx_M, z = up I8 a0 5 r4 := ⟨_, rfl⟩
      replace h := h I9 eI9
      refine pX7_5 C hM hk0 eI9 gw_311 dX7_doJob_114 (fun H locs hM => ?_)
      refine lv_aload_n hx hb dX7_doJob_117 rfl (lv_at hl 5 rfl) ?_
      refine gX7_0 C hM hk0 gw_306 dX7_doJob_118 ?_
      refine lv_dup hx hb dX7_doJob_121 rfl ?_
      refine gX6_9 C hM (kX_7_0 hk0) gw_156 dX7_doJob_122 ?_
      refine lv_iconst (v := (1 : Int32)) hx hb dX7_doJob_125 (by decide) ?_
      refine lv_iadd hx hb dX7_doJob_126 ?_
      obtain ⟨I10, eI10⟩ : ∃ z : gx_M, z = up I9 (a0 + 1) 9 ((I9 (a0 + 1) 9) + (1 : Int32)) := ⟨_, rfl⟩
      replace h := h I10 eI10
      refine pX6_9 C hM (kX_7_0 hk0) eI10 gw_156 dX7_doJob_127 (fun H locs hM => ?_)
      exact tj_X7_doJob_130 C a0 r1 r2 r4 (-1000004 : Int32) (hk0) I10 _ _ _ hM (lv_sub hl [5, 4, 3, 1, 0] rfl) h
    · replace h := h.1 hc
      refine lv_aload_n hx hb dX7_doJob_99 rfl (lv_at hl 5 rfl) ?_
      refine lv_iload_n hx hb dX7_doJob_100 rfl (lv_at hl 4 rfl) ?_
      refine lv_aload hx hb dX7_doJob_101 (lv_at hl 2 rfl) ?_
      refine gq_backi C hM (gq_runV (As := [.int r1, .ref (gx_ad L b1)]) (rest := []) C hM (kX_lt hk0 (by decide)) (cX_7 hk0) rfl (c_X7_perform l L a0 hk0 r1 b1 hk2 I8 _ h) k_X7_perform gw_515 rfl hl.1 rfl (Nat.le_of_ble_eq_true rfl) ⟨⟨rfl, rfl⟩, Nat.le_of_ble_eq_true rfl, Nat.le_of_ble_eq_true rfl⟩ ⟨Nat.zero_le _, Nat.zero_le _⟩ dX7_doJob_103) (fun r5 I11 H locs h hM => ?_)
      refine lv_istore (lv' := [(6, .int r5), (5, .int r4), (4, .ref (gx_ad L b1)), (3, .int r2), (2, .int r1), (0, .ref (gx_ad L a0)), (1, .int p0)]) hx hb dX7_doJob_106 hl (by decide) rfl (fun ls hl => ?_)
      refine lv_goto (tgt := 130) hx hb dX7_doJob_108 (by decide) ?_
      exact tj_X7_doJob_130 C a0 r1 r2 r4 r5 (hk0) I11 _ _ _ hM (lv_sub hl [5, 4, 3, 1, 0] rfl) h
theorem k_X7_doJob : gx_kV yX7_doJob cX7_doJob 7 none 1 := ⟨⟨gw_437, gw_22, by decide, by decide, by decide +kernel⟩, gw_436, gw_4⟩
abbrev rm_X7_next : Room := { frames := 6, cells := 0, slots := 0, locals := 136 }
set_option maxHeartbeats 4000000 in
set_option maxRecDepth 100000 in
theorem c_X7_next (l : Launch) (L : gx_L) (a0 : Nat) (hk0 : kX a0 = 7) (I : gx_M) (Q : Int32 → gx_M → Prop) (h : wp_X7_next a0 I Q) : Met l yX7_next (gx_w yX7_next cX7_next 2 (some .int)) rm_X7_next (va_Pc [.ref (gx_ad L a0)] (gx_U L 282 (cellX L I))) (va_Qi Q (fun I' t => gx_U L 282 (cellX L I') t) (gx_A L)) 0 0 (gx_A L) := by
  refine gq_enter (by decide) (Nat.le_of_ble_eq_true rfl) (fun p e s m below meth c ls C hM hl => ?_)
  have C : gx_C L 282 p s m _ meth c RX7 cX7_next 2 (some .int) := C
  have hl : lv_has ls 2 [(0, .ref (gx_ad L a0))] := hl
  have hx := C.1
  have hb := C.2.1
  unfold wp_X7_next at h
  refine lv_aload_n hx hb dX7_next_0 rfl (lv_at hl 0 rfl) ?_
  refine gX7_0 C hM hk0 gw_306 dX7_next_1 ?_
  refine gX6_1 C hM (kX_7_0 hk0) gw_139 dX7_next_4 ?_
  refine gX5_1 C hM (kX_6_1 (kX_7_0 hk0)) gw_62 dX7_next_7 ?_
  refine lv_if_ne (tgt := 16) hx hb dX7_next_10 (by decide) (fun hc => ?_) (fun hc => ?_)
  · replace h := h.2 hc
    refine lv_aload_n hx hb dX7_next_16 rfl (lv_at hl 0 rfl) ?_
    refine gX7_3 C hM hk0 gw_309 dX7_next_17 ?_
    refine lv_aload_n hx hb dX7_next_20 rfl (lv_at hl 0 rfl) ?_
    refine gX7_0 C hM hk0 gw_306 dX7_next_21 ?_
    refine gq_backv C hM (gq_runV (As := [.ref (gx_ad L (a0 + 1))]) (rest := []) C hM (kX_lt (kX_7_3 hk0) (by decide)) (cX_0 (kX_7_3 hk0)) rfl (c_X0_add l L (a0 + 77) (kX_7_3 hk0) (a0 + 1) (kX_7_0 hk0) I _ h) k_X0_add gw_356 rfl hl.1 rfl (Nat.le_of_ble_eq_true rfl) ⟨⟨rfl, rfl⟩, Nat.le_of_ble_eq_true rfl, Nat.le_of_ble_eq_true rfl⟩ ⟨Nat.zero_le _, Nat.zero_le _⟩ dX7_next_24) (fun I1 H locs h hM => ?_)
    refine lv_aload_n hx hb dX7_next_27 rfl (lv_at hl 0 rfl) ?_
    refine gX7_6 C hM hk0 gw_312 dX7_next_28 ?_
    refine lv_aload_n hx hb dX7_next_31 rfl (lv_at hl 0 rfl) ?_
    refine gX7_0 C hM hk0 gw_306 dX7_next_32 ?_
    refine gq_backv C hM (gq_runV (As := [.ref (gx_ad L (a0 + 1))]) (rest := []) C hM (kX_lt (kX_7_6 hk0) (by decide)) (cX_3 (kX_7_6 hk0)) rfl (c_X3_begin l L (a0 + 273) (kX_7_6 hk0) (a0 + 1) (kX_7_0 hk0) I1 _ h) k_X3_begin gw_412 rfl hl.1 rfl (Nat.le_of_ble_eq_true rfl) ⟨⟨rfl, rfl⟩, Nat.le_of_ble_eq_true rfl, Nat.le_of_ble_eq_true rfl⟩ ⟨Nat.zero_le _, Nat.zero_le _⟩ dX7_next_35) (fun I2 H locs h hM => ?_)
    refine lv_aload_n hx hb dX7_next_38 rfl (lv_at hl 0 rfl) ?_
    refine gX7_6 C hM hk0 gw_312 dX7_next_39 ?_
    refine lv_aload_n hx hb dX7_next_42 rfl (lv_at hl 0 rfl) ?_
    refine gX7_0 C hM hk0 gw_306 dX7_next_43 ?_
    refine gq_backv C hM (gq_runV (As := [.ref (gx_ad L (a0 + 1))]) (rest := []) C hM (kX_lt (kX_7_6 hk0) (by decide)) (cX_3 (kX_7_6 hk0)) rfl (c_X3_goOn l L (a0 + 273) (kX_7_6 hk0) (a0 + 1) (kX_7_0 hk0) I2 _ h) k_X3_goOn gw_416 rfl hl.1 rfl (Nat.le_of_ble_eq_true rfl) ⟨⟨rfl, rfl⟩, Nat.le_of_ble_eq_true rfl, Nat.le_of_ble_eq_true rfl⟩ ⟨Nat.zero_le _, Nat.zero_le _⟩ dX7_next_46) (fun I3 H locs h hM => ?_)
    refine lv_aload_n hx hb dX7_next_49 rfl (lv_at hl 0 rfl) ?_
    refine gX7_0 C hM hk0 gw_306 dX7_next_50 ?_
    refine gX6_1 C hM (kX_7_0 hk0) gw_139 dX7_next_53 ?_
    refine lv_aload_n hx hb dX7_next_56 rfl (lv_at hl 0 rfl) ?_
    refine gX7_6 C hM hk0 gw_312 dX7_next_57 ?_
    refine gX3_1 C hM (kX_7_6 hk0) gw_226 dX7_next_60 ?_
    refine lv_iconst (v := (0 : Int32)) hx hb dX7_next_63 (by decide) ?_
    refine gq_backi C hM (gq_runV (As := [.int (I3 (a0 + 273) 1), .int (0 : Int32)]) (rest := []) C hM (kX_lt (kX_6_1 (kX_7_0 hk0)) (by decide)) (cX_5 (kX_6_1 (kX_7_0 hk0))) rfl (c_X5_at l L ((a0 + 1) + 2) (kX_6_1 (kX_7_0 hk0)) (I3 (a0 + 273) 1) (0 : Int32) I3 _ h) k_X5_at gw_433 rfl hl.1 rfl (Nat.le_of_ble_eq_true rfl) ⟨⟨rfl, rfl⟩, Nat.le_of_ble_eq_true rfl, Nat.le_of_ble_eq_true rfl⟩ ⟨Nat.zero_le _, Nat.zero_le _⟩ dX7_next_64) (fun r1 I4 H locs h hM => ?_)
    refine lv_istore_n (lv' := [(1, .int r1), (0, .ref (gx_ad L a0))]) hx hb dX7_next_67 rfl hl (by decide) rfl (fun ls hl => ?_)
    refine lv_aload_n hx hb dX7_next_68 rfl (lv_at hl 1 rfl) ?_
    refine lv_aload_n hx hb dX7_next_69 rfl (lv_at hl 1 rfl) ?_
    refine gX7_6 C hM hk0 gw_312 dX7_next_70 ?_
    refine gX3_1 C hM (kX_7_6 hk0) gw_226 dX7_next_73 ?_
    refine gq_backv C hM (gq_runV (As := [.int (I4 (a0 + 273) 1)]) (rest := []) C hM (kX_lt hk0 (by decide)) (cX_7 hk0) rfl (c_X7_doJob l L a0 hk0 (I4 (a0 + 273) 1) I4 _ h) k_X7_doJob gw_434 rfl hl.1 rfl (Nat.le_of_ble_eq_true rfl) ⟨⟨rfl, rfl⟩, Nat.le_of_ble_eq_true rfl, Nat.le_of_ble_eq_true rfl⟩ ⟨Nat.zero_le _, Nat.zero_le _⟩ dX7_next_76) (fun I5 H locs h hM => ?_)
    refine lv_iload_n hx hb dX7_next_79 rfl (lv_at hl 0 rfl) ?_
    exact gq_iret C hM h dX7_next_80
  · replace h := h.1 hc
    refine gq_ldc (v := (-1000004 : Int32)) C gw_399 dX7_next_13 ?_
    exact gq_iret C hM h dX7_next_15
theorem k_X7_next : gx_kV yX7_next cX7_next 2 (some .int) 0 := ⟨⟨gw_411, gw_22, by decide, by decide, by decide +kernel⟩, gw_409, gw_410⟩
abbrev rm_X7_workOff : Room := { frames := 6, cells := 0, slots := 0, locals := 136 }
set_option maxHeartbeats 4000000 in
set_option maxRecDepth 100000 in
theorem tl_X7_workOff_39 (C : gx_C L 282 p s m args meth c RX7 cX7_workOff 4 (some .int)) {Q : Int32 → gx_M → Prop} : ∀ (fu : Nat) (v0 : Nat) (v1 : Int32) (v2 : Int32) (v3 : Int32) (hv0 : kX v0 = 7) (I : gx_M) (H : Heap) (locs : List Loc) (ls : Array Slot), gx_S L 282 (cellX L I) s.heap H locs → lv_has ls 4 [(0, .ref (gx_ad L v0)), (1, .int v1), (2, .int v2), (3, .int v3)] → wl_X7_workOff_39 Q fu v0 v1 v2 v3 I → W p l e rm_X7_workOff s m args below meth c H locs 0 0 (MQ below (va_Qi Q (fun I' t => gx_U L 282 (cellX L I') t) (gx_A L)) args s 0 0 (gx_A L)) (F0 m 39 ls []) := by
  have hx := C.1
  have hb := C.2.1
  intro fu
  induction fu with
  | zero => intros; rename_i h; exact False.elim h
  | succ fu ih =>
    intro v0 v1 v2 v3 hv0 I H locs ls hM hl h
    rw [wl_X7_workOff_39] at h
    refine lv_iload_n hx hb dX7_workOff_39 rfl (lv_at hl 3 rfl) ?_
    refine lv_iload_n hx hb dX7_workOff_40 rfl (lv_at hl 1 rfl) ?_
    refine lv_icmp_ge (tgt := 83) hx hb dX7_workOff_41 (by decide) (fun hc => ?_) (fun hc => ?_)
    · replace h := h.1 hc
      refine lv_iload_n hx hb dX7_workOff_83 rfl (lv_at hl 1 rfl) ?_
      refine lv_aload_n hx hb dX7_workOff_84 rfl (lv_at hl 0 rfl) ?_
      refine gX7_0 C hM hv0 gw_306 dX7_workOff_85 ?_
      refine gX6_9 C hM (kX_7_0 hv0) gw_156 dX7_workOff_88 ?_
      refine lv_iload_n hx hb dX7_workOff_91 rfl (lv_at hl 2 rfl) ?_
      refine lv_isub hx hb dX7_workOff_92 ?_
      refine lv_isub hx hb dX7_workOff_93 ?_
      exact gq_iret C hM h dX7_workOff_94
    · replace h := h.2 hc
      refine lv_aload_n hx hb dX7_workOff_44 rfl (lv_at hl 0 rfl) ?_
      refine gX7_6 C hM hv0 gw_312 dX7_workOff_45 ?_
      refine lv_aload_n hx hb dX7_workOff_48 rfl (lv_at hl 0 rfl) ?_
      refine gX7_0 C hM hv0 gw_306 dX7_workOff_49 ?_
      refine gq_backv C hM (gq_runV (As := [.ref (gx_ad L (v0 + 1))]) (rest := []) C hM (kX_lt (kX_7_6 hv0) (by decide)) (cX_3 (kX_7_6 hv0)) rfl (c_X3_begin l L (v0 + 273) (kX_7_6 hv0) (v0 + 1) (kX_7_0 hv0) I _ h) k_X3_begin gw_412 rfl hl.1 rfl (Nat.le_of_ble_eq_true rfl) ⟨⟨rfl, rfl⟩, Nat.le_of_ble_eq_true rfl, Nat.le_of_ble_eq_true rfl⟩ ⟨Nat.zero_le _, Nat.zero_le _⟩ dX7_workOff_52) (fun I1 H locs h hM => ?_)
      refine lv_aload_n hx hb dX7_workOff_55 rfl (lv_at hl 0 rfl) ?_
      refine gX7_6 C hM hv0 gw_312 dX7_workOff_56 ?_
      refine lv_aload_n hx hb dX7_workOff_59 rfl (lv_at hl 0 rfl) ?_
      refine gX7_0 C hM hv0 gw_306 dX7_workOff_60 ?_
      refine gq_backv C hM (gq_runV (As := [.ref (gx_ad L (v0 + 1))]) (rest := []) C hM (kX_lt (kX_7_6 hv0) (by decide)) (cX_3 (kX_7_6 hv0)) rfl (c_X3_goOn l L (v0 + 273) (kX_7_6 hv0) (v0 + 1) (kX_7_0 hv0) I1 _ h) k_X3_goOn gw_416 rfl hl.1 rfl (Nat.le_of_ble_eq_true rfl) ⟨⟨rfl, rfl⟩, Nat.le_of_ble_eq_true rfl, Nat.le_of_ble_eq_true rfl⟩ ⟨Nat.zero_le _, Nat.zero_le _⟩ dX7_workOff_63) (fun I2 H locs h hM => ?_)
      refine lv_aload_n hx hb dX7_workOff_66 rfl (lv_at hl 0 rfl) ?_
      refine lv_aload_n hx hb dX7_workOff_67 rfl (lv_at hl 0 rfl) ?_
      refine gX7_6 C hM hv0 gw_312 dX7_workOff_68 ?_
      refine gX3_1 C hM (kX_7_6 hv0) gw_226 dX7_workOff_71 ?_
      refine gq_backv C hM (gq_runV (As := [.int (I2 (v0 + 273) 1)]) (rest := []) C hM (kX_lt hv0 (by decide)) (cX_7 hv0) rfl (c_X7_doJob l L v0 hv0 (I2 (v0 + 273) 1) I2 _ h) k_X7_doJob gw_434 rfl hl.1 rfl (Nat.le_of_ble_eq_true rfl) ⟨⟨rfl, rfl⟩, Nat.le_of_ble_eq_true rfl, Nat.le_of_ble_eq_true rfl⟩ ⟨Nat.zero_le _, Nat.zero_le _⟩ dX7_workOff_74) (fun I3 H locs h hM => ?_)
      obtain ⟨x1, ex1⟩ : ∃ z : Int32, z = v3 + (1 : Int32) := ⟨_, rfl⟩
      replace h := h x1 ex1
      refine lv_iinc (v := x1) (lv' := [(3, .int x1), (0, .ref (gx_ad L v0)), (1, .int v1), (2, .int v2)]) hx hb dX7_workOff_77 hl (k := 3) rfl (by rw [ex1]; rfl) (by decide) rfl (fun ls hl => ?_)
      refine lv_goto (tgt := 39) hx hb dX7_workOff_80 (by decide) ?_
      exact ih v0 v1 v2 x1 (hv0) I3 _ _ _ hM (lv_sub hl [1, 2, 3, 0] rfl) h
set_option maxHeartbeats 4000000 in
set_option maxRecDepth 100000 in
theorem c_X7_workOff (l : Launch) (L : gx_L) (a0 : Nat) (hk0 : kX a0 = 7) (I : gx_M) (Q : Int32 → gx_M → Prop) (h : wp_X7_workOff a0 I Q) : Met l yX7_workOff (gx_w yX7_workOff cX7_workOff 4 (some .int)) rm_X7_workOff (va_Pc [.ref (gx_ad L a0)] (gx_U L 282 (cellX L I))) (va_Qi Q (fun I' t => gx_U L 282 (cellX L I') t) (gx_A L)) 0 0 (gx_A L) := by
  refine gq_enter (by decide) (Nat.le_of_ble_eq_true rfl) (fun p e s m below meth c ls C hM hl => ?_)
  have C : gx_C L 282 p s m _ meth c RX7 cX7_workOff 4 (some .int) := C
  have hl : lv_has ls 4 [(0, .ref (gx_ad L a0))] := hl
  have hx := C.1
  have hb := C.2.1
  unfold wp_X7_workOff at h
  refine lv_aload_n hx hb dX7_workOff_0 rfl (lv_at hl 0 rfl) ?_
  refine gX7_0 C hM hk0 gw_306 dX7_workOff_1 ?_
  refine gX6_1 C hM (kX_7_0 hk0) gw_139 dX7_workOff_4 ?_
  refine gX5_1 C hM (kX_6_1 (kX_7_0 hk0)) gw_62 dX7_workOff_7 ?_
  refine lv_topi (fun x1 ex1 => ?_)
  replace h := h x1 ex1
  refine lv_istore_n (lv' := [(1, .int x1), (0, .ref (gx_ad L a0))]) hx hb dX7_workOff_10 rfl hl (by decide) rfl (fun ls hl => ?_)
  refine lv_iload_n hx hb dX7_workOff_11 rfl (lv_at hl 0 rfl) ?_
  refine lv_if_ne (tgt := 18) hx hb dX7_workOff_12 (by decide) (fun hc => ?_) (fun hc => ?_)
  · replace h := h.2 hc
    refine lv_aload_n hx hb dX7_workOff_18 rfl (lv_at hl 1 rfl) ?_
    refine gX7_3 C hM hk0 gw_309 dX7_workOff_19 ?_
    refine lv_aload_n hx hb dX7_workOff_22 rfl (lv_at hl 1 rfl) ?_
    refine gX7_0 C hM hk0 gw_306 dX7_workOff_23 ?_
    refine gq_backv C hM (gq_runV (As := [.ref (gx_ad L (a0 + 1))]) (rest := []) C hM (kX_lt (kX_7_3 hk0) (by decide)) (cX_0 (kX_7_3 hk0)) rfl (c_X0_add l L (a0 + 77) (kX_7_3 hk0) (a0 + 1) (kX_7_0 hk0) I _ h) k_X0_add gw_356 rfl hl.1 rfl (Nat.le_of_ble_eq_true rfl) ⟨⟨rfl, rfl⟩, Nat.le_of_ble_eq_true rfl, Nat.le_of_ble_eq_true rfl⟩ ⟨Nat.zero_le _, Nat.zero_le _⟩ dX7_workOff_26) (fun I1 H locs h hM => ?_)
    refine lv_aload_n hx hb dX7_workOff_29 rfl (lv_at hl 1 rfl) ?_
    refine gX7_0 C hM hk0 gw_306 dX7_workOff_30 ?_
    refine gX6_9 C hM (kX_7_0 hk0) gw_156 dX7_workOff_33 ?_
    refine lv_topi (fun x2 ex2 => ?_)
    replace h := h x2 ex2
    refine lv_istore_n (lv' := [(2, .int x2), (1, .int x1), (0, .ref (gx_ad L a0))]) hx hb dX7_workOff_36 rfl hl (by decide) rfl (fun ls hl => ?_)
    refine lv_iconst (v := (0 : Int32)) hx hb dX7_workOff_37 (by decide) ?_
    refine lv_istore_n (lv' := [(3, .int (0 : Int32)), (2, .int x2), (1, .int x1), (0, .ref (gx_ad L a0))]) hx hb dX7_workOff_38 rfl hl (by decide) rfl (fun ls hl => ?_)
    obtain ⟨fv, h⟩ := h
    exact tl_X7_workOff_39 C fv a0 x1 x2 (0 : Int32) (hk0) I1 _ _ _ hM (lv_sub hl [3, 2, 1, 0] rfl) h
  · replace h := h.1 hc
    refine gq_ldc (v := (-1000004 : Int32)) C gw_399 dX7_workOff_15 ?_
    exact gq_iret C hM h dX7_workOff_17
theorem k_X7_workOff : gx_kV yX7_workOff cX7_workOff 4 (some .int) 0 := ⟨⟨gw_669, gw_22, by decide, by decide, by decide +kernel⟩, gw_667, gw_668⟩
abbrev rm_X0_takeLatest : Room := { frames := 0, cells := 0, slots := 0, locals := 0 }
set_option maxHeartbeats 4000000 in
set_option maxRecDepth 100000 in
theorem c_X0_takeLatest (l : Launch) (L : gx_L) (a0 : Nat) (hk0 : kX a0 = 0) (I : gx_M) (Q : Option Nat → gx_M → Prop) (h : wp_X0_takeLatest a0 I Q) : Met l yX0_takeLatest (gx_w yX0_takeLatest cX0_takeLatest 1 (some (.object RX6))) rm_X0_takeLatest (va_Pc [.ref (gx_ad L a0)] (gx_U L 282 (cellX L I))) (va_Qe (gx_ad L) (fun r I' => (∀ b, r = some b → kX b = 6) ∧ Q r I') (fun I' t => gx_U L 282 (cellX L I') t) (gx_A L)) 0 0 (gx_A L) := by
  refine gq_enter (by decide) (Nat.le_of_ble_eq_true rfl) (fun p e s m below meth c ls C hM hl => ?_)
  have C : gx_C L 282 p s m _ meth c RX0 cX0_takeLatest 1 (some (.object RX6)) := C
  have hl : lv_has ls 1 [(0, .ref (gx_ad L a0))] := hl
  have hx := C.1
  have hb := C.2.1
  unfold wp_X0_takeLatest at h
  refine lv_aload_n hx hb dX0_takeLatest_0 rfl (lv_at hl 0 rfl) ?_
  refine gX0_1 C hM hk0 gw_188 dX0_takeLatest_1 ?_
  refine lv_if_le (tgt := 19) hx hb dX0_takeLatest_4 (by decide) (fun hc => ?_) (fun hc => ?_)
  · replace h := h.1 hc
    refine lv_null hx hb dX0_takeLatest_19 ?_
    exact gq_nret C hM ⟨fun b hb => (by cases hb), h⟩ dX0_takeLatest_20
  · replace h := h.2 hc
    refine lv_aload_n hx hb dX0_takeLatest_7 rfl (lv_at hl 0 rfl) ?_
    refine gX0_1 C hM hk0 gw_188 dX0_takeLatest_8 ?_
    refine lv_aload_n hx hb dX0_takeLatest_11 rfl (lv_at hl 0 rfl) ?_
    refine gX0_0 C hM hk0 gw_187 dX0_takeLatest_12 ?_
    refine galenX_24 C hM (kX_0_0 hk0) dX0_takeLatest_15 ?_
    refine lv_icmp_le (tgt := 21) hx hb dX0_takeLatest_16 (by decide) (fun hc => ?_) (fun hc => ?_)
    · replace h := h.1 hc
      refine lv_aload_n hx hb dX0_takeLatest_21 rfl (lv_at hl 0 rfl) ?_
      refine lv_dup hx hb dX0_takeLatest_22 rfl ?_
      refine gX0_1 C hM hk0 gw_188 dX0_takeLatest_23 ?_
      refine lv_iconst (v := (1 : Int32)) hx hb dX0_takeLatest_26 (by decide) ?_
      refine lv_isub hx hb dX0_takeLatest_27 ?_
      obtain ⟨I1, eI1⟩ : ∃ z : gx_M, z = up I a0 1 ((I a0 1) - (1 : Int32)) := ⟨_, rfl⟩
      replace h := h I1 eI1
      refine pX0_1 C hM hk0 eI1 gw_188 dX0_takeLatest_28 (fun H locs hM => ?_)
      refine lv_aload_n hx hb dX0_takeLatest_31 rfl (lv_at hl 0 rfl) ?_
      refine gX0_0 C hM hk0 gw_187 dX0_takeLatest_32 ?_
      refine lv_aload_n hx hb dX0_takeLatest_35 rfl (lv_at hl 0 rfl) ?_
      refine gX0_1 C hM hk0 gw_188 dX0_takeLatest_36 ?_
      have hi := h.1
      replace h := h.2
      refine gaald_24 C hM (kX_0_0 hk0) hi dX0_takeLatest_39 ?_
      exact gq_aret C hM ⟨fun b hb => (by cases hb; exact kX_sd _), h⟩ dX0_takeLatest_40
    · replace h := h.2 hc
      refine lv_null hx hb dX0_takeLatest_19 ?_
      exact gq_nret C hM ⟨fun b hb => (by cases hb), h⟩ dX0_takeLatest_20
theorem k_X0_takeLatest : gx_kV yX0_takeLatest cX0_takeLatest 1 (some (.object RX6)) 0 := ⟨⟨gw_582, gw_27, by decide, by decide, by decide +kernel⟩, gw_580, gw_581⟩
abbrev rm_X1_takeComma : Room := { frames := 0, cells := 0, slots := 0, locals := 0 }
set_option maxHeartbeats 4000000 in
set_option maxRecDepth 100000 in
theorem c_X1_takeComma (l : Launch) (L : gx_L) (a0 : Nat) (hk0 : kX a0 = 1) (p0 : Int32) (I : gx_M) (Q : Int32 → gx_M → Prop) (h : wp_X1_takeComma a0 p0 I Q) : Met l yX1_takeComma (gx_w yX1_takeComma cX1_takeComma 2 (some .int)) rm_X1_takeComma (va_Pc [.ref (gx_ad L a0), .int p0] (gx_U L 282 (cellX L I))) (va_Qi Q (fun I' t => gx_U L 282 (cellX L I') t) (gx_A L)) 0 0 (gx_A L) := by
  refine gq_enter (by decide) (Nat.le_of_ble_eq_true rfl) (fun p e s m below meth c ls C hM hl => ?_)
  have C : gx_C L 282 p s m _ meth c RX1 cX1_takeComma 2 (some .int) := C
  have hl : lv_has ls 2 [(0, .ref (gx_ad L a0)), (1, .int p0)] := hl
  have hx := C.1
  have hb := C.2.1
  unfold wp_X1_takeComma at h
  refine lv_iload_n hx hb dX1_takeComma_0 rfl (lv_at hl 1 rfl) ?_
  refine lv_bipush (v := (44 : Int32)) hx hb dX1_takeComma_1 (by decide) ?_
  refine lv_icmp_ne (tgt := 10) hx hb dX1_takeComma_3 (by decide) (fun hc => ?_) (fun hc => ?_)
  · replace h := h.2 hc
    refine lv_iconst (v := (5 : Int32)) hx hb dX1_takeComma_10 (by decide) ?_
    exact gq_iret C hM h dX1_takeComma_11
  · replace h := h.1 hc
    refine lv_iconst (v := (0 : Int32)) hx hb dX1_takeComma_6 (by decide) ?_
    refine lv_goto (tgt := 11) hx hb dX1_takeComma_7 (by decide) ?_
    exact gq_iret C hM h dX1_takeComma_11
theorem k_X1_takeComma : gx_kV yX1_takeComma cX1_takeComma 2 (some .int) 1 := ⟨⟨gw_562, gw_28, by decide, by decide, by decide +kernel⟩, gw_561, gw_19⟩
abbrev rm_X1_takeLetter : Room := { frames := 0, cells := 0, slots := 0, locals := 0 }
set_option maxHeartbeats 4000000 in
set_option maxRecDepth 100000 in
theorem c_X1_takeLetter (l : Launch) (L : gx_L) (a0 : Nat) (hk0 : kX a0 = 1) (p0 : Int32) (I : gx_M) (Q : Int32 → gx_M → Prop) (h : wp_X1_takeLetter a0 p0 I Q) : Met l yX1_takeLetter (gx_w yX1_takeLetter cX1_takeLetter 2 (some .int)) rm_X1_takeLetter (va_Pc [.ref (gx_ad L a0), .int p0] (gx_U L 282 (cellX L I))) (va_Qi Q (fun I' t => gx_U L 282 (cellX L I') t) (gx_A L)) 0 0 (gx_A L) := by
  refine gq_enter (by decide) (Nat.le_of_ble_eq_true rfl) (fun p e s m below meth c ls C hM hl => ?_)
  have C : gx_C L 282 p s m _ meth c RX1 cX1_takeLetter 2 (some .int) := C
  have hl : lv_has ls 2 [(0, .ref (gx_ad L a0)), (1, .int p0)] := hl
  have hx := C.1
  have hb := C.2.1
  unfold wp_X1_takeLetter at h
  refine lv_iload_n hx hb dX1_takeLetter_0 rfl (lv_at hl 1 rfl) ?_
  by_cases hs0 : p0 = (98 : Int32)
  · replace h := h.1 hs0
    refine lv_lookup (tgt := 44) hx hb dX1_takeLetter_1 (by decide) (off := 43) (by rw [hs0]; decide) (by decide) ?_
    refine lv_aload_n hx hb dX1_takeLetter_44 rfl (lv_at hl 0 rfl) ?_
    refine lv_iconst (v := (1 : Int32)) hx hb dX1_takeLetter_45 (by decide) ?_
    obtain ⟨I1, eI1⟩ : ∃ z : gx_M, z = up I a0 3 (1 : Int32) := ⟨_, rfl⟩
    replace h := h I1 eI1
    refine pX1_3 C hM hk0 eI1 gw_208 dX1_takeLetter_46 (fun H locs hM => ?_)
    refine lv_goto (tgt := 62) hx hb dX1_takeLetter_49 (by decide) ?_
    refine lv_iconst (v := (1 : Int32)) hx hb dX1_takeLetter_62 (by decide) ?_
    exact gq_iret C hM h dX1_takeLetter_63
  by_cases hs1 : p0 = (114 : Int32)
  · replace h := h.2.1 hs1
    refine lv_lookup (tgt := 36) hx hb dX1_takeLetter_1 (by decide) (off := 35) (by rw [hs1]; decide) (by decide) ?_
    refine lv_aload_n hx hb dX1_takeLetter_36 rfl (lv_at hl 0 rfl) ?_
    refine lv_iconst (v := (0 : Int32)) hx hb dX1_takeLetter_37 (by decide) ?_
    obtain ⟨I2, eI2⟩ : ∃ z : gx_M, z = up I a0 3 (0 : Int32) := ⟨_, rfl⟩
    replace h := h I2 eI2
    refine pX1_3 C hM hk0 eI2 gw_208 dX1_takeLetter_38 (fun H locs hM => ?_)
    refine lv_goto (tgt := 62) hx hb dX1_takeLetter_41 (by decide) ?_
    refine lv_iconst (v := (1 : Int32)) hx hb dX1_takeLetter_62 (by decide) ?_
    exact gq_iret C hM h dX1_takeLetter_63
  by_cases hs2 : p0 = (115 : Int32)
  · replace h := h.2.2.1 hs2
    refine lv_lookup (tgt := 52) hx hb dX1_takeLetter_1 (by decide) (off := 51) (by rw [hs2]; decide) (by decide) ?_
    refine lv_aload_n hx hb dX1_takeLetter_52 rfl (lv_at hl 0 rfl) ?_
    refine lv_iconst (v := (2 : Int32)) hx hb dX1_takeLetter_53 (by decide) ?_
    obtain ⟨I3, eI3⟩ : ∃ z : gx_M, z = up I a0 3 (2 : Int32) := ⟨_, rfl⟩
    replace h := h I3 eI3
    refine pX1_3 C hM hk0 eI3 gw_208 dX1_takeLetter_54 (fun H locs hM => ?_)
    refine lv_goto (tgt := 62) hx hb dX1_takeLetter_57 (by decide) ?_
    refine lv_iconst (v := (1 : Int32)) hx hb dX1_takeLetter_62 (by decide) ?_
    exact gq_iret C hM h dX1_takeLetter_63
  replace h := h.2.2.2 hs0 hs1 hs2
  refine lv_lookup (tgt := 60) hx hb dX1_takeLetter_1 (by decide) (off := 59) (by rw [lv_osw (k := (98 : Int32)) hs0 (by decide)]; rw [lv_osw (k := (114 : Int32)) hs1 (by decide)]; rw [lv_osw (k := (115 : Int32)) hs2 (by decide)]; rfl) (by decide) ?_
  refine lv_iconst (v := (5 : Int32)) hx hb dX1_takeLetter_60 (by decide) ?_
  exact gq_iret C hM h dX1_takeLetter_61
theorem k_X1_takeLetter : gx_kV yX1_takeLetter cX1_takeLetter 2 (some .int) 1 := ⟨⟨gw_552, gw_28, by decide, by decide, by decide +kernel⟩, gw_551, gw_17⟩
abbrev rm_X1_takeRosette : Room := { frames := 1, cells := 0, slots := 0, locals := 25 }
set_option maxHeartbeats 4000000 in
set_option maxRecDepth 100000 in
theorem c_X1_takeRosette (l : Launch) (L : gx_L) (a0 : Nat) (hk0 : kX a0 = 1) (p0 : Int32) (I : gx_M) (Q : Int32 → gx_M → Prop) (h : wp_X1_takeRosette a0 p0 I Q) : Met l yX1_takeRosette (gx_w yX1_takeRosette cX1_takeRosette 2 (some .int)) rm_X1_takeRosette (va_Pc [.ref (gx_ad L a0), .int p0] (gx_U L 282 (cellX L I))) (va_Qi Q (fun I' t => gx_U L 282 (cellX L I') t) (gx_A L)) 0 0 (gx_A L) := by
  refine gq_enter (by decide) (Nat.le_of_ble_eq_true rfl) (fun p e s m below meth c ls C hM hl => ?_)
  have C : gx_C L 282 p s m _ meth c RX1 cX1_takeRosette 2 (some .int) := C
  have hl : lv_has ls 2 [(0, .ref (gx_ad L a0)), (1, .int p0)] := hl
  have hx := C.1
  have hb := C.2.1
  unfold wp_X1_takeRosette at h
  refine lv_iload_n hx hb dX1_takeRosette_0 rfl (lv_at hl 1 rfl) ?_
  refine lv_bipush (v := (48 : Int32)) hx hb dX1_takeRosette_1 (by decide) ?_
  refine lv_bipush (v := (55 : Int32)) hx hb dX1_takeRosette_3 (by decide) ?_
  refine gq_backi C hM (gq_runSN (As := [.int p0, .int (48 : Int32), .int (55 : Int32)]) (rest := []) C hM (c_X7_isWithin l L p0 (48 : Int32) (55 : Int32) I _ h) k_X7_isWithin gw_557 rfl hl.1 rfl (Nat.le_of_ble_eq_true rfl) ⟨⟨rfl, rfl⟩, Nat.le_of_ble_eq_true rfl, Nat.le_of_ble_eq_true rfl⟩ ⟨Nat.zero_le _, Nat.zero_le _⟩ dX1_takeRosette_5) (fun r1 I1 H locs h hM => ?_)
  obtain ⟨hz1, h⟩ := h
  refine lv_if_ne (tgt := 13) hx hb dX1_takeRosette_8 (by decide) (fun hc => ?_) (fun hc => ?_)
  · replace h := h.2 hc
    refine lv_aload_n hx hb dX1_takeRosette_13 rfl (lv_at hl 0 rfl) ?_
    refine gX1_1 C hM hk0 gw_204 dX1_takeRosette_14 ?_
    refine lv_iconst (v := (0 : Int32)) hx hb dX1_takeRosette_17 (by decide) ?_
    refine lv_aload_n hx hb dX1_takeRosette_18 rfl (lv_at hl 0 rfl) ?_
    refine gX1_3 C hM hk0 gw_208 dX1_takeRosette_19 ?_
    refine lv_iload_n hx hb dX1_takeRosette_22 rfl (lv_at hl 1 rfl) ?_
    refine lv_bipush (v := (48 : Int32)) hx hb dX1_takeRosette_23 (by decide) ?_
    refine lv_isub hx hb dX1_takeRosette_25 ?_
    refine lv_iconst (v := (5 : Int32)) hx hb dX1_takeRosette_26 (by decide) ?_
    refine gq_backv C hM (gq_runV (As := [.int (0 : Int32), .int (I1 a0 3), .int (p0 - (48 : Int32)), .int (5 : Int32)]) (rest := []) C hM (kX_lt (kX_1_1 hk0) (by decide)) (cX_5 (kX_1_1 hk0)) rfl (c_X5_add l L (a0 + 2) (kX_1_1 hk0) (0 : Int32) (I1 a0 3) (p0 - (48 : Int32)) (5 : Int32) I1 _ h) k_X5_add gw_558 rfl hl.1 rfl (Nat.le_of_ble_eq_true rfl) ⟨⟨rfl, rfl⟩, Nat.le_of_ble_eq_true rfl, Nat.le_of_ble_eq_true rfl⟩ ⟨Nat.zero_le _, Nat.zero_le _⟩ dX1_takeRosette_27) (fun I2 H locs h hM => ?_)
    refine lv_iconst (v := (2 : Int32)) hx hb dX1_takeRosette_30 (by decide) ?_
    exact gq_iret C hM h dX1_takeRosette_31
  · replace h := h.1 hc
    refine lv_iconst (v := (5 : Int32)) hx hb dX1_takeRosette_11 (by decide) ?_
    exact gq_iret C hM h dX1_takeRosette_12
theorem k_X1_takeRosette : gx_kV yX1_takeRosette cX1_takeRosette 2 (some .int) 1 := ⟨⟨gw_556, gw_28, by decide, by decide, by decide +kernel⟩, gw_555, gw_18⟩
abbrev rm_X5_set : Room := { frames := 1, cells := 0, slots := 0, locals := 22 }
set_option maxHeartbeats 4000000 in
set_option maxRecDepth 100000 in
theorem c_X5_set (l : Launch) (L : gx_L) (a0 : Nat) (hk0 : kX a0 = 5) (p0 : Int32) (p1 : Int32) (p2 : Int32) (I : gx_M) (Q : gx_M → Prop) (h : wp_X5_set a0 p0 p1 p2 I Q) : Met l yX5_set (gx_w yX5_set cX5_set 4 none) rm_X5_set (va_Pc [.ref (gx_ad L a0), .int p0, .int p1, .int p2] (gx_U L 282 (cellX L I))) (va_Qv Q (fun I' t => gx_U L 282 (cellX L I') t) (gx_A L)) 0 0 (gx_A L) := by
  refine gq_enter (by decide) (Nat.le_of_ble_eq_true rfl) (fun p e s m below meth c ls C hM hl => ?_)
  have C : gx_C L 282 p s m _ meth c RX5 cX5_set 4 none := C
  have hl : lv_has ls 4 [(0, .ref (gx_ad L a0)), (1, .int p0), (2, .int p1), (3, .int p2)] := hl
  have hx := C.1
  have hb := C.2.1
  unfold wp_X5_set at h
  refine lv_iload_n hx hb dX5_set_0 rfl (lv_at hl 1 rfl) ?_
  refine lv_if_lt (tgt := 32) hx hb dX5_set_1 (by decide) (fun hc => ?_) (fun hc => ?_)
  · replace h := h.1 hc
    exact gq_vret C hM h dX5_set_32
  · replace h := h.2 hc
    refine lv_iload_n hx hb dX5_set_4 rfl (lv_at hl 1 rfl) ?_
    refine lv_aload_n hx hb dX5_set_5 rfl (lv_at hl 0 rfl) ?_
    refine gX5_1 C hM hk0 gw_58 dX5_set_6 ?_
    refine lv_icmp_ge (tgt := 32) hx hb dX5_set_9 (by decide) (fun hc => ?_) (fun hc => ?_)
    · replace h := h.1 hc
      exact gq_vret C hM h dX5_set_32
    · replace h := h.2 hc
      refine lv_iload_n hx hb dX5_set_12 rfl (lv_at hl 2 rfl) ?_
      refine lv_iconst (v := (0 : Int32)) hx hb dX5_set_13 (by decide) ?_
      refine lv_iconst (v := (3 : Int32)) hx hb dX5_set_14 (by decide) ?_
      refine gq_backi C hM (gq_runSN (As := [.int p1, .int (0 : Int32), .int (3 : Int32)]) (rest := []) C hM (c_X7_isWithin l L p1 (0 : Int32) (3 : Int32) I _ h) k_X7_isWithin gw_397 rfl hl.1 rfl (Nat.le_of_ble_eq_true rfl) ⟨⟨rfl, rfl⟩, Nat.le_of_ble_eq_true rfl, Nat.le_of_ble_eq_true rfl⟩ ⟨Nat.zero_le _, Nat.zero_le _⟩ dX5_set_15) (fun r1 I1 H locs h hM => ?_)
      obtain ⟨hz1, h⟩ := h
      refine lv_if_eq (tgt := 32) hx hb dX5_set_18 (by decide) (fun hc => ?_) (fun hc => ?_)
      · replace h := h.1 hc
        exact gq_vret C hM h dX5_set_32
      · replace h := h.2 hc
        refine lv_aload_n hx hb dX5_set_21 rfl (lv_at hl 0 rfl) ?_
        refine gX5_0 C hM hk0 gw_57 dX5_set_22 ?_
        refine lv_iload_n hx hb dX5_set_25 rfl (lv_at hl 1 rfl) ?_
        refine lv_iconst (v := (4 : Int32)) hx hb dX5_set_26 (by decide) ?_
        refine lv_imul hx hb dX5_set_27 ?_
        refine lv_iload_n hx hb dX5_set_28 rfl (lv_at hl 2 rfl) ?_
        refine lv_iadd hx hb dX5_set_29 ?_
        refine lv_iload_n hx hb dX5_set_30 rfl (lv_at hl 3 rfl) ?_
        have hi := h.1
        replace h := h.2
        obtain ⟨I2, eI2⟩ : ∃ z : gx_M, z = up I1 (a0 + 1) ((p0 * (4 : Int32)) + p1).toNatClampNeg p2 := ⟨_, rfl⟩
        replace h := h I2 eI2
        refine giastX C hM (kX_5_0 hk0) hi eI2 dX5_set_31 (fun H locs hM => ?_)
        exact gq_vret C hM h dX5_set_32
theorem k_X5_set : gx_kV yX5_set cX5_set 4 none 3 := ⟨⟨gw_570, gw_24, by decide, by decide, by decide +kernel⟩, gw_568, gw_569⟩
abbrev rm_X1_takeUrgency : Room := { frames := 2, cells := 0, slots := 0, locals := 45 }
set_option maxHeartbeats 4000000 in
set_option maxRecDepth 100000 in
theorem c_X1_takeUrgency (l : Launch) (L : gx_L) (a0 : Nat) (hk0 : kX a0 = 1) (p0 : Int32) (I : gx_M) (Q : Int32 → gx_M → Prop) (h : wp_X1_takeUrgency a0 p0 I Q) : Met l yX1_takeUrgency (gx_w yX1_takeUrgency cX1_takeUrgency 2 (some .int)) rm_X1_takeUrgency (va_Pc [.ref (gx_ad L a0), .int p0] (gx_U L 282 (cellX L I))) (va_Qi Q (fun I' t => gx_U L 282 (cellX L I') t) (gx_A L)) 0 0 (gx_A L) := by
  refine gq_enter (by decide) (Nat.le_of_ble_eq_true rfl) (fun p e s m below meth c ls C hM hl => ?_)
  have C : gx_C L 282 p s m _ meth c RX1 cX1_takeUrgency 2 (some .int) := C
  have hl : lv_has ls 2 [(0, .ref (gx_ad L a0)), (1, .int p0)] := hl
  have hx := C.1
  have hb := C.2.1
  unfold wp_X1_takeUrgency at h
  refine lv_iload_n hx hb dX1_takeUrgency_0 rfl (lv_at hl 1 rfl) ?_
  refine lv_bipush (v := (48 : Int32)) hx hb dX1_takeUrgency_1 (by decide) ?_
  refine lv_bipush (v := (57 : Int32)) hx hb dX1_takeUrgency_3 (by decide) ?_
  refine gq_backi C hM (gq_runSN (As := [.int p0, .int (48 : Int32), .int (57 : Int32)]) (rest := []) C hM (c_X7_isWithin l L p0 (48 : Int32) (57 : Int32) I _ h) k_X7_isWithin gw_557 rfl hl.1 rfl (Nat.le_of_ble_eq_true rfl) ⟨⟨rfl, rfl⟩, Nat.le_of_ble_eq_true rfl, Nat.le_of_ble_eq_true rfl⟩ ⟨Nat.zero_le _, Nat.zero_le _⟩ dX1_takeUrgency_5) (fun r1 I1 H locs h hM => ?_)
  obtain ⟨hz1, h⟩ := h
  refine lv_if_ne (tgt := 13) hx hb dX1_takeUrgency_8 (by decide) (fun hc => ?_) (fun hc => ?_)
  · replace h := h.2 hc
    refine lv_aload_n hx hb dX1_takeUrgency_13 rfl (lv_at hl 0 rfl) ?_
    refine gX1_1 C hM hk0 gw_204 dX1_takeUrgency_14 ?_
    refine lv_aload_n hx hb dX1_takeUrgency_17 rfl (lv_at hl 0 rfl) ?_
    refine gX1_1 C hM hk0 gw_204 dX1_takeUrgency_18 ?_
    refine gX5_1 C hM (kX_1_1 hk0) gw_59 dX1_takeUrgency_21 ?_
    refine lv_iconst (v := (1 : Int32)) hx hb dX1_takeUrgency_24 (by decide) ?_
    refine lv_isub hx hb dX1_takeUrgency_25 ?_
    refine lv_iconst (v := (3 : Int32)) hx hb dX1_takeUrgency_26 (by decide) ?_
    refine lv_iload_n hx hb dX1_takeUrgency_27 rfl (lv_at hl 1 rfl) ?_
    refine lv_bipush (v := (48 : Int32)) hx hb dX1_takeUrgency_28 (by decide) ?_
    refine lv_isub hx hb dX1_takeUrgency_30 ?_
    refine gq_backv C hM (gq_runV (As := [.int ((I1 (a0 + 2) 1) - (1 : Int32)), .int (3 : Int32), .int (p0 - (48 : Int32))]) (rest := []) C hM (kX_lt (kX_1_1 hk0) (by decide)) (cX_5 (kX_1_1 hk0)) rfl (c_X5_set l L (a0 + 2) (kX_1_1 hk0) ((I1 (a0 + 2) 1) - (1 : Int32)) (3 : Int32) (p0 - (48 : Int32)) I1 _ h) k_X5_set gw_567 rfl hl.1 rfl (Nat.le_of_ble_eq_true rfl) ⟨⟨rfl, rfl⟩, Nat.le_of_ble_eq_true rfl, Nat.le_of_ble_eq_true rfl⟩ ⟨Nat.zero_le _, Nat.zero_le _⟩ dX1_takeUrgency_31) (fun I2 H locs h hM => ?_)
    refine lv_iconst (v := (4 : Int32)) hx hb dX1_takeUrgency_34 (by decide) ?_
    exact gq_iret C hM h dX1_takeUrgency_35
  · replace h := h.1 hc
    refine lv_iconst (v := (5 : Int32)) hx hb dX1_takeUrgency_11 (by decide) ?_
    exact gq_iret C hM h dX1_takeUrgency_12
theorem k_X1_takeUrgency : gx_kV yX1_takeUrgency cX1_takeUrgency 2 (some .int) 1 := ⟨⟨gw_566, gw_28, by decide, by decide, by decide +kernel⟩, gw_565, gw_20⟩
abbrev rm_X1_take : Room := { frames := 3, cells := 0, slots := 0, locals := 66 }
set_option maxHeartbeats 4000000 in
set_option maxRecDepth 100000 in
theorem c_X1_take (l : Launch) (L : gx_L) (a0 : Nat) (hk0 : kX a0 = 1) (p0 : Int32) (p1 : Int32) (I : gx_M) (Q : Int32 → gx_M → Prop) (h : wp_X1_take a0 p0 p1 I Q) : Met l yX1_take (gx_w yX1_take cX1_take 3 (some .int)) rm_X1_take (va_Pc [.ref (gx_ad L a0), .int p0, .int p1] (gx_U L 282 (cellX L I))) (va_Qi Q (fun I' t => gx_U L 282 (cellX L I') t) (gx_A L)) 0 0 (gx_A L) := by
  refine gq_enter (by decide) (Nat.le_of_ble_eq_true rfl) (fun p e s m below meth c ls C hM hl => ?_)
  have C : gx_C L 282 p s m _ meth c RX1 cX1_take 3 (some .int) := C
  have hl : lv_has ls 3 [(0, .ref (gx_ad L a0)), (1, .int p0), (2, .int p1)] := hl
  have hx := C.1
  have hb := C.2.1
  unfold wp_X1_take at h
  refine lv_iload_n hx hb dX1_take_0 rfl (lv_at hl 2 rfl) ?_
  by_cases hs0 : p1 = (0 : Int32)
  · replace h := h.1 hs0
    refine lv_tableIn (tgt := 36) hx hb dX1_take_1 (by rw [hs0]; decide) (by rw [hs0]; decide) (by rw [hs0]; rfl) (by decide) ?_
    refine lv_aload_n hx hb dX1_take_36 rfl (lv_at hl 0 rfl) ?_
    refine lv_iload_n hx hb dX1_take_37 rfl (lv_at hl 1 rfl) ?_
    refine gq_backi C hM (gq_runV (As := [.int p0]) (rest := []) C hM (kX_lt hk0 (by decide)) (cX_1 hk0) rfl (c_X1_takeLetter l L a0 hk0 p0 I _ h) k_X1_takeLetter gw_549 rfl hl.1 rfl (Nat.le_of_ble_eq_true rfl) ⟨⟨rfl, rfl⟩, Nat.le_of_ble_eq_true rfl, Nat.le_of_ble_eq_true rfl⟩ ⟨Nat.zero_le _, Nat.zero_le _⟩ dX1_take_38) (fun r1 I1 H locs h hM => ?_)
    exact gq_iret C hM h dX1_take_41
  by_cases hs1 : p1 = (1 : Int32)
  · replace h := h.2.1 hs1
    refine lv_tableIn (tgt := 42) hx hb dX1_take_1 (by rw [hs1]; decide) (by rw [hs1]; decide) (by rw [hs1]; rfl) (by decide) ?_
    refine lv_aload_n hx hb dX1_take_42 rfl (lv_at hl 0 rfl) ?_
    refine lv_iload_n hx hb dX1_take_43 rfl (lv_at hl 1 rfl) ?_
    refine gq_backi C hM (gq_runV (As := [.int p0]) (rest := []) C hM (kX_lt hk0 (by decide)) (cX_1 hk0) rfl (c_X1_takeRosette l L a0 hk0 p0 I _ h) k_X1_takeRosette gw_553 rfl hl.1 rfl (Nat.le_of_ble_eq_true rfl) ⟨⟨rfl, rfl⟩, Nat.le_of_ble_eq_true rfl, Nat.le_of_ble_eq_true rfl⟩ ⟨Nat.zero_le _, Nat.zero_le _⟩ dX1_take_44) (fun r2 I2 H locs h hM => ?_)
    exact gq_iret C hM h dX1_take_47
  by_cases hs2 : p1 = (2 : Int32)
  · replace h := h.2.2.1 hs2
    refine lv_tableIn (tgt := 48) hx hb dX1_take_1 (by rw [hs2]; decide) (by rw [hs2]; decide) (by rw [hs2]; rfl) (by decide) ?_
    refine lv_iload_n hx hb dX1_take_48 rfl (lv_at hl 1 rfl) ?_
    refine lv_bipush (v := (33 : Int32)) hx hb dX1_take_49 (by decide) ?_
    refine lv_icmp_ne (tgt := 58) hx hb dX1_take_51 (by decide) (fun hc => ?_) (fun hc => ?_)
    · replace h := h.2 hc
      refine lv_aload_n hx hb dX1_take_58 rfl (lv_at hl 0 rfl) ?_
      refine lv_iload_n hx hb dX1_take_59 rfl (lv_at hl 1 rfl) ?_
      refine gq_backi C hM (gq_runV (As := [.int p0]) (rest := []) C hM (kX_lt hk0 (by decide)) (cX_1 hk0) rfl (c_X1_takeComma l L a0 hk0 p0 I _ h) k_X1_takeComma gw_559 rfl hl.1 rfl (Nat.le_of_ble_eq_true rfl) ⟨⟨rfl, rfl⟩, Nat.le_of_ble_eq_true rfl, Nat.le_of_ble_eq_true rfl⟩ ⟨Nat.zero_le _, Nat.zero_le _⟩ dX1_take_60) (fun r3 I3 H locs h hM => ?_)
      exact gq_iret C hM h dX1_take_63
    · replace h := h.1 hc
      refine lv_iconst (v := (3 : Int32)) hx hb dX1_take_54 (by decide) ?_
      refine lv_goto (tgt := 63) hx hb dX1_take_55 (by decide) ?_
      exact gq_iret C hM h dX1_take_63
  by_cases hs3 : p1 = (3 : Int32)
  · replace h := h.2.2.2.1 hs3
    refine lv_tableIn (tgt := 64) hx hb dX1_take_1 (by rw [hs3]; decide) (by rw [hs3]; decide) (by rw [hs3]; rfl) (by decide) ?_
    refine lv_aload_n hx hb dX1_take_64 rfl (lv_at hl 0 rfl) ?_
    refine lv_iload_n hx hb dX1_take_65 rfl (lv_at hl 1 rfl) ?_
    refine gq_backi C hM (gq_runV (As := [.int p0]) (rest := []) C hM (kX_lt hk0 (by decide)) (cX_1 hk0) rfl (c_X1_takeUrgency l L a0 hk0 p0 I _ h) k_X1_takeUrgency gw_563 rfl hl.1 rfl (Nat.le_of_ble_eq_true rfl) ⟨⟨rfl, rfl⟩, Nat.le_of_ble_eq_true rfl, Nat.le_of_ble_eq_true rfl⟩ ⟨Nat.zero_le _, Nat.zero_le _⟩ dX1_take_66) (fun r4 I4 H locs h hM => ?_)
    exact gq_iret C hM h dX1_take_69
  by_cases hs4 : p1 = (4 : Int32)
  · replace h := h.2.2.2.2.1 hs4
    refine lv_tableIn (tgt := 70) hx hb dX1_take_1 (by rw [hs4]; decide) (by rw [hs4]; decide) (by rw [hs4]; rfl) (by decide) ?_
    refine lv_aload_n hx hb dX1_take_70 rfl (lv_at hl 0 rfl) ?_
    refine lv_iload_n hx hb dX1_take_71 rfl (lv_at hl 1 rfl) ?_
    refine gq_backi C hM (gq_runV (As := [.int p0]) (rest := []) C hM (kX_lt hk0 (by decide)) (cX_1 hk0) rfl (c_X1_takeComma l L a0 hk0 p0 I _ h) k_X1_takeComma gw_559 rfl hl.1 rfl (Nat.le_of_ble_eq_true rfl) ⟨⟨rfl, rfl⟩, Nat.le_of_ble_eq_true rfl, Nat.le_of_ble_eq_true rfl⟩ ⟨Nat.zero_le _, Nat.zero_le _⟩ dX1_take_72) (fun r5 I5 H locs h hM => ?_)
    exact gq_iret C hM h dX1_take_75
  replace h := h.2.2.2.2.2 hs0 hs1 hs2 hs3 hs4
  refine lv_tableOut (tgt := 76) hx hb dX1_take_1 (by have q0 := lv_neT (a := 0) hs0 (by decide); have q1 := lv_neT (a := 1) hs1 (by decide); have q2 := lv_neT (a := 2) hs2 (by decide); have q3 := lv_neT (a := 3) hs3 (by decide); have q4 := lv_neT (a := 4) hs4 (by decide); omega) (by decide) ?_
  refine lv_iconst (v := (5 : Int32)) hx hb dX1_take_76 (by decide) ?_
  exact gq_iret C hM h dX1_take_77
theorem k_X1_take : gx_kV yX1_take cX1_take 3 (some .int) 2 := ⟨⟨gw_548, gw_28, by decide, by decide, by decide +kernel⟩, gw_547, gw_16⟩
abbrev rm_X1_findFault : Room := { frames := 4, cells := 0, slots := 0, locals := 88 }
set_option maxHeartbeats 4000000 in
set_option maxRecDepth 100000 in
theorem tj_X1_findFault_64 (C : gx_C L 282 p s m args meth c RX1 cX1_findFault 3 (some .int)) {Q : Int32 → gx_M → Prop} : ∀  (I : gx_M) (H : Heap) (locs : List Loc) (ls : Array Slot), gx_S L 282 (cellX L I) s.heap H locs → lv_has ls 3 [] → wj_X1_findFault_64 Q  I → W p l e rm_X1_findFault s m args below meth c H locs 0 0 (MQ below (va_Qi Q (fun I' t => gx_U L 282 (cellX L I') t) (gx_A L)) args s 0 0 (gx_A L)) (F0 m 64 ls []) := by
  have hx := C.1
  have hb := C.2.1
  intro   I H locs ls hM hl h
  unfold wj_X1_findFault_64 at h
  refine lv_iconst (v := (-1 : Int32)) hx hb dX1_findFault_64 (by decide) ?_
  refine lv_goto (tgt := 72) hx hb dX1_findFault_65 (by decide) ?_
  exact gq_iret C hM h dX1_findFault_72
set_option maxHeartbeats 4000000 in
set_option maxRecDepth 100000 in
theorem tj_X1_findFault_54 (C : gx_C L 282 p s m args meth c RX1 cX1_findFault 3 (some .int)) {Q : Int32 → gx_M → Prop} : ∀ (v0 : Nat) (v1 : Int32) (hv0 : kX v0 = 1) (I : gx_M) (H : Heap) (locs : List Loc) (ls : Array Slot), gx_S L 282 (cellX L I) s.heap H locs → lv_has ls 3 [(0, .ref (gx_ad L v0)), (1, .int v1)] → wj_X1_findFault_54 Q v0 v1 I → W p l e rm_X1_findFault s m args below meth c H locs 0 0 (MQ below (va_Qi Q (fun I' t => gx_U L 282 (cellX L I') t) (gx_A L)) args s 0 0 (gx_A L)) (F0 m 54 ls []) := by
  have hx := C.1
  have hb := C.2.1
  intro v0 v1 hv0 I H locs ls hM hl h
  unfold wj_X1_findFault_54 at h
  refine lv_iload_n hx hb dX1_findFault_54 rfl (lv_at hl 1 rfl) ?_
  refine lv_iconst (v := (2 : Int32)) hx hb dX1_findFault_55 (by decide) ?_
  refine lv_icmp_eq (tgt := 64) hx hb dX1_findFault_56 (by decide) (fun hc => ?_) (fun hc => ?_)
  · replace h := h.1 hc
    exact tj_X1_findFault_64 C  I _ _ _ hM (lv_sub hl [] rfl) h
  · replace h := h.2 hc
    refine lv_iload_n hx hb dX1_findFault_59 rfl (lv_at hl 1 rfl) ?_
    refine lv_iconst (v := (4 : Int32)) hx hb dX1_findFault_60 (by decide) ?_
    refine lv_icmp_ne (tgt := 68) hx hb dX1_findFault_61 (by decide) (fun hc => ?_) (fun hc => ?_)
    · replace h := h.2 hc
      refine lv_aload_n hx hb dX1_findFault_68 rfl (lv_at hl 0 rfl) ?_
      refine gX1_2 C hM hv0 gw_206 dX1_findFault_69 ?_
      exact gq_iret C hM h dX1_findFault_72
    · replace h := h.1 hc
      exact tj_X1_findFault_64 C  I _ _ _ hM (lv_sub hl [] rfl) h
set_option maxHeartbeats 4000000 in
set_option maxRecDepth 100000 in
theorem tl_X1_findFault_12 (C : gx_C L 282 p s m args meth c RX1 cX1_findFault 3 (some .int)) {Q : Int32 → gx_M → Prop} : ∀ (fu : Nat) (v0 : Nat) (v1 : Int32) (v2 : Int32) (hv0 : kX v0 = 1) (I : gx_M) (H : Heap) (locs : List Loc) (ls : Array Slot), gx_S L 282 (cellX L I) s.heap H locs → lv_has ls 3 [(0, .ref (gx_ad L v0)), (1, .int v1), (2, .int v2)] → wl_X1_findFault_12 Q fu v0 v1 v2 I → W p l e rm_X1_findFault s m args below meth c H locs 0 0 (MQ below (va_Qi Q (fun I' t => gx_U L 282 (cellX L I') t) (gx_A L)) args s 0 0 (gx_A L)) (F0 m 12 ls []) := by
  have hx := C.1
  have hb := C.2.1
  intro fu
  induction fu with
  | zero => intros; rename_i h; exact False.elim h
  | succ fu ih =>
    intro v0 v1 v2 hv0 I H locs ls hM hl h
    rw [wl_X1_findFault_12] at h
    refine lv_iload_n hx hb dX1_findFault_12 rfl (lv_at hl 2 rfl) ?_
    refine lv_aload_n hx hb dX1_findFault_13 rfl (lv_at hl 0 rfl) ?_
    refine gX1_2 C hM hv0 gw_206 dX1_findFault_14 ?_
    refine lv_icmp_ge (tgt := 54) hx hb dX1_findFault_17 (by decide) (fun hc => ?_) (fun hc => ?_)
    · replace h := h.1 hc
      exact tj_X1_findFault_54 C v0 v1 (hv0) I _ _ _ hM (lv_sub hl [0, 1] rfl) h
    · replace h := h.2 hc
      refine lv_iload_n hx hb dX1_findFault_20 rfl (lv_at hl 2 rfl) ?_
      refine lv_aload_n hx hb dX1_findFault_21 rfl (lv_at hl 0 rfl) ?_
      refine gX1_0 C hM hv0 gw_203 dX1_findFault_22 ?_
      refine galenX_20 C hM (kX_1_0 hv0) dX1_findFault_25 ?_
      refine lv_icmp_ge (tgt := 54) hx hb dX1_findFault_26 (by decide) (fun hc => ?_) (fun hc => ?_)
      · replace h := h.1 hc
        exact tj_X1_findFault_54 C v0 v1 (hv0) I _ _ _ hM (lv_sub hl [0, 1] rfl) h
      · replace h := h.2 hc
        refine lv_aload_n hx hb dX1_findFault_29 rfl (lv_at hl 0 rfl) ?_
        refine lv_aload_n hx hb dX1_findFault_30 rfl (lv_at hl 0 rfl) ?_
        refine gX1_0 C hM hv0 gw_203 dX1_findFault_31 ?_
        refine lv_iload_n hx hb dX1_findFault_34 rfl (lv_at hl 2 rfl) ?_
        refine gialdX C hM (kX_1_0 hv0) h.1 dX1_findFault_35 ?_
        replace h := h.2
        refine lv_iload_n hx hb dX1_findFault_36 rfl (lv_at hl 1 rfl) ?_
        refine gq_backi C hM (gq_runV (As := [.int (I (v0 + 1) v2.toNatClampNeg), .int v1]) (rest := []) C hM (kX_lt hv0 (by decide)) (cX_1 hv0) rfl (c_X1_take l L v0 hv0 (I (v0 + 1) v2.toNatClampNeg) v1 I _ h) k_X1_take gw_545 rfl hl.1 rfl (Nat.le_of_ble_eq_true rfl) ⟨⟨rfl, rfl⟩, Nat.le_of_ble_eq_true rfl, Nat.le_of_ble_eq_true rfl⟩ ⟨Nat.zero_le _, Nat.zero_le _⟩ dX1_findFault_37) (fun r1 I1 H locs h hM => ?_)
        refine lv_istore_n (lv' := [(1, .int r1), (0, .ref (gx_ad L v0)), (2, .int v2)]) hx hb dX1_findFault_40 rfl hl (by decide) rfl (fun ls hl => ?_)
        refine lv_iload_n hx hb dX1_findFault_41 rfl (lv_at hl 0 rfl) ?_
        refine lv_iconst (v := (5 : Int32)) hx hb dX1_findFault_42 (by decide) ?_
        refine lv_icmp_ne (tgt := 48) hx hb dX1_findFault_43 (by decide) (fun hc => ?_) (fun hc => ?_)
        · replace h := h.2 hc
          obtain ⟨x1, ex1⟩ : ∃ z : Int32, z = v2 + (1 : Int32) := ⟨_, rfl⟩
          replace h := h x1 ex1
          refine lv_iinc (v := x1) (lv' := [(2, .int x1), (1, .int r1), (0, .ref (gx_ad L v0))]) hx hb dX1_findFault_48 hl (k := 2) rfl (by rw [ex1]; rfl) (by decide) rfl (fun ls hl => ?_)
          refine lv_goto (tgt := 12) hx hb dX1_findFault_51 (by decide) ?_
          exact ih v0 r1 x1 (hv0) I1 _ _ _ hM (lv_sub hl [2, 1, 0] rfl) h
        · replace h := h.1 hc
          refine lv_iload_n hx hb dX1_findFault_46 rfl (lv_at hl 2 rfl) ?_
          exact gq_iret C hM h dX1_findFault_47
set_option maxHeartbeats 4000000 in
set_option maxRecDepth 100000 in
theorem c_X1_findFault (l : Launch) (L : gx_L) (a0 : Nat) (hk0 : kX a0 = 1) (I : gx_M) (Q : Int32 → gx_M → Prop) (h : wp_X1_findFault a0 I Q) : Met l yX1_findFault (gx_w yX1_findFault cX1_findFault 3 (some .int)) rm_X1_findFault (va_Pc [.ref (gx_ad L a0)] (gx_U L 282 (cellX L I))) (va_Qi Q (fun I' t => gx_U L 282 (cellX L I') t) (gx_A L)) 0 0 (gx_A L) := by
  refine gq_enter (by decide) (Nat.le_of_ble_eq_true rfl) (fun p e s m below meth c ls C hM hl => ?_)
  have C : gx_C L 282 p s m _ meth c RX1 cX1_findFault 3 (some .int) := C
  have hl : lv_has ls 3 [(0, .ref (gx_ad L a0))] := hl
  have hx := C.1
  have hb := C.2.1
  unfold wp_X1_findFault at h
  refine lv_aload_n hx hb dX1_findFault_0 rfl (lv_at hl 0 rfl) ?_
  refine gX1_1 C hM hk0 gw_204 dX1_findFault_1 ?_
  refine lv_iconst (v := (0 : Int32)) hx hb dX1_findFault_4 (by decide) ?_
  obtain ⟨I1, eI1⟩ : ∃ z : gx_M, z = up I (a0 + 2) 1 (0 : Int32) := ⟨_, rfl⟩
  replace h := h I1 eI1
  refine pX5_1 C hM (kX_1_1 hk0) eI1 gw_59 dX1_findFault_5 (fun H locs hM => ?_)
  refine lv_iconst (v := (0 : Int32)) hx hb dX1_findFault_8 (by decide) ?_
  refine lv_istore_n (lv' := [(1, .int (0 : Int32)), (0, .ref (gx_ad L a0))]) hx hb dX1_findFault_9 rfl hl (by decide) rfl (fun ls hl => ?_)
  refine lv_iconst (v := (0 : Int32)) hx hb dX1_findFault_10 (by decide) ?_
  refine lv_istore_n (lv' := [(2, .int (0 : Int32)), (1, .int (0 : Int32)), (0, .ref (gx_ad L a0))]) hx hb dX1_findFault_11 rfl hl (by decide) rfl (fun ls hl => ?_)
  obtain ⟨fv, h⟩ := h
  exact tl_X1_findFault_12 C fv a0 (0 : Int32) (0 : Int32) (hk0) I1 _ _ _ hM (lv_sub hl [2, 1, 0] rfl) h
theorem k_X1_findFault : gx_kV yX1_findFault cX1_findFault 3 (some .int) 0 := ⟨⟨gw_544, gw_28, by decide, by decide, by decide +kernel⟩, gw_542, gw_543⟩
abbrev rm_X4_begin : Room := { frames := 0, cells := 0, slots := 0, locals := 0 }
set_option maxHeartbeats 4000000 in
set_option maxRecDepth 100000 in
theorem tl_X4_begin_49 (C : gx_C L 282 p s m args meth c RX4 cX4_begin 6 none) {Q : gx_M → Prop} : ∀ (fu : Nat) (v0 : Nat) (v5 : Int32) (hv0 : kX v0 = 4) (I : gx_M) (H : Heap) (locs : List Loc) (ls : Array Slot), gx_S L 282 (cellX L I) s.heap H locs → lv_has ls 6 [(0, .ref (gx_ad L v0)), (5, .int v5)] → wl_X4_begin_49 Q fu v0 v5 I → W p l e rm_X4_begin s m args below meth c H locs 0 0 (MQ below (va_Qv Q (fun I' t => gx_U L 282 (cellX L I') t) (gx_A L)) args s 0 0 (gx_A L)) (F0 m 49 ls []) := by
  have hx := C.1
  have hb := C.2.1
  intro fu
  induction fu with
  | zero => intros; rename_i h; exact False.elim h
  | succ fu ih =>
    intro v0 v5 hv0 I H locs ls hM hl h
    rw [wl_X4_begin_49] at h
    refine lv_iload hx hb dX4_begin_49 (lv_at hl 1 rfl) ?_
    refine lv_iconst (v := (3 : Int32)) hx hb dX4_begin_51 (by decide) ?_
    refine lv_icmp_ge (tgt := 87) hx hb dX4_begin_52 (by decide) (fun hc => ?_) (fun hc => ?_)
    · replace h := h.1 hc
      exact gq_vret C hM h dX4_begin_87
    · replace h := h.2 hc
      refine lv_aload_n hx hb dX4_begin_55 rfl (lv_at hl 0 rfl) ?_
      refine gX4_9 C hM hv0 gw_101 dX4_begin_56 ?_
      refine lv_iload hx hb dX4_begin_59 (lv_at hl 1 rfl) ?_
      refine lv_iconst (v := (0 : Int32)) hx hb dX4_begin_61 (by decide) ?_
      have hi := h.1
      replace h := h.2
      obtain ⟨I1, eI1⟩ : ∃ z : gx_M, z = up I (v0 + 1) v5.toNatClampNeg (0 : Int32) := ⟨_, rfl⟩
      replace h := h I1 eI1
      refine giastX C hM (kX_4_9 hv0) hi eI1 dX4_begin_62 (fun H locs hM => ?_)
      refine lv_aload_n hx hb dX4_begin_63 rfl (lv_at hl 0 rfl) ?_
      refine gX4_10 C hM hv0 gw_104 dX4_begin_64 ?_
      refine lv_iload hx hb dX4_begin_67 (lv_at hl 1 rfl) ?_
      refine lv_iconst (v := (0 : Int32)) hx hb dX4_begin_69 (by decide) ?_
      have hi := h.1
      replace h := h.2
      obtain ⟨I2, eI2⟩ : ∃ z : gx_M, z = up I1 (v0 + 2) v5.toNatClampNeg (0 : Int32) := ⟨_, rfl⟩
      replace h := h I2 eI2
      refine giastX C hM (kX_4_10 hv0) hi eI2 dX4_begin_70 (fun H locs hM => ?_)
      refine lv_aload_n hx hb dX4_begin_71 rfl (lv_at hl 0 rfl) ?_
      refine gX4_11 C hM hv0 gw_107 dX4_begin_72 ?_
      refine lv_iload hx hb dX4_begin_75 (lv_at hl 1 rfl) ?_
      refine lv_sipush (v := (1000 : Int32)) hx hb dX4_begin_77 (by decide) ?_
      have hi := h.1
      replace h := h.2
      obtain ⟨I3, eI3⟩ : ∃ z : gx_M, z = up I2 (v0 + 3) v5.toNatClampNeg (1000 : Int32) := ⟨_, rfl⟩
      replace h := h I3 eI3
      refine giastX C hM (kX_4_11 hv0) hi eI3 dX4_begin_80 (fun H locs hM => ?_)
      obtain ⟨x1, ex1⟩ : ∃ z : Int32, z = v5 + (1 : Int32) := ⟨_, rfl⟩
      replace h := h x1 ex1
      refine lv_iinc (v := x1) (lv' := [(5, .int x1), (0, .ref (gx_ad L v0))]) hx hb dX4_begin_81 hl (k := 1) rfl (by rw [ex1]; rfl) (by decide) rfl (fun ls hl => ?_)
      refine lv_goto (tgt := 49) hx hb dX4_begin_84 (by decide) ?_
      exact ih v0 x1 (hv0) I3 _ _ _ hM (lv_sub hl [1, 0] rfl) h
set_option maxHeartbeats 4000000 in
set_option maxRecDepth 100000 in
theorem c_X4_begin (l : Launch) (L : gx_L) (a0 : Nat) (hk0 : kX a0 = 4) (p0 : Int32) (p1 : Int32) (p2 : Int32) (p3 : Int32) (I : gx_M) (Q : gx_M → Prop) (h : wp_X4_begin a0 p0 p1 p2 p3 I Q) : Met l yX4_begin (gx_w yX4_begin cX4_begin 6 none) rm_X4_begin (va_Pc [.ref (gx_ad L a0), .int p0, .int p1, .int p2, .int p3] (gx_U L 282 (cellX L I))) (va_Qv Q (fun I' t => gx_U L 282 (cellX L I') t) (gx_A L)) 0 0 (gx_A L) := by
  refine gq_enter (by decide) (Nat.le_of_ble_eq_true rfl) (fun p e s m below meth c ls C hM hl => ?_)
  have C : gx_C L 282 p s m _ meth c RX4 cX4_begin 6 none := C
  have hl : lv_has ls 6 [(0, .ref (gx_ad L a0)), (1, .int p0), (2, .int p1), (3, .int p2), (4, .int p3)] := hl
  have hx := C.1
  have hb := C.2.1
  unfold wp_X4_begin at h
  refine lv_aload_n hx hb dX4_begin_0 rfl (lv_at hl 0 rfl) ?_
  refine lv_iload_n hx hb dX4_begin_1 rfl (lv_at hl 1 rfl) ?_
  obtain ⟨I1, eI1⟩ : ∃ z : gx_M, z = up I a0 0 p0 := ⟨_, rfl⟩
  replace h := h I1 eI1
  refine pX4_0 C hM hk0 eI1 gw_74 dX4_begin_2 (fun H locs hM => ?_)
  refine lv_aload_n hx hb dX4_begin_5 rfl (lv_at hl 0 rfl) ?_
  refine lv_iload_n hx hb dX4_begin_6 rfl (lv_at hl 2 rfl) ?_
  have hz := h.1
  replace h := h.2
  obtain ⟨I2, eI2⟩ : ∃ z : gx_M, z = up I1 a0 1 p1 := ⟨_, rfl⟩
  replace h := h I2 eI2
  refine pX4_1 C hM hk0 hz eI2 gw_77 dX4_begin_7 (fun H locs hM => ?_)
  refine lv_aload_n hx hb dX4_begin_10 rfl (lv_at hl 0 rfl) ?_
  refine lv_iload_n hx hb dX4_begin_11 rfl (lv_at hl 3 rfl) ?_
  obtain ⟨I3, eI3⟩ : ∃ z : gx_M, z = up I2 a0 2 p2 := ⟨_, rfl⟩
  replace h := h I3 eI3
  refine pX4_2 C hM hk0 eI3 gw_81 dX4_begin_12 (fun H locs hM => ?_)
  refine lv_aload_n hx hb dX4_begin_15 rfl (lv_at hl 0 rfl) ?_
  refine lv_iload hx hb dX4_begin_16 (lv_at hl 4 rfl) ?_
  obtain ⟨I4, eI4⟩ : ∃ z : gx_M, z = up I3 a0 3 p3 := ⟨_, rfl⟩
  replace h := h I4 eI4
  refine pX4_3 C hM hk0 eI4 gw_83 dX4_begin_18 (fun H locs hM => ?_)
  refine lv_aload_n hx hb dX4_begin_21 rfl (lv_at hl 0 rfl) ?_
  refine lv_iconst (v := (0 : Int32)) hx hb dX4_begin_22 (by decide) ?_
  obtain ⟨I5, eI5⟩ : ∃ z : gx_M, z = up I4 a0 4 (0 : Int32) := ⟨_, rfl⟩
  replace h := h I5 eI5
  refine pX4_4 C hM hk0 eI5 gw_86 dX4_begin_23 (fun H locs hM => ?_)
  refine lv_aload_n hx hb dX4_begin_26 rfl (lv_at hl 0 rfl) ?_
  refine lv_iconst (v := (0 : Int32)) hx hb dX4_begin_27 (by decide) ?_
  obtain ⟨I6, eI6⟩ : ∃ z : gx_M, z = up I5 a0 5 (0 : Int32) := ⟨_, rfl⟩
  replace h := h I6 eI6
  refine pX4_5 C hM hk0 eI6 gw_89 dX4_begin_28 (fun H locs hM => ?_)
  refine lv_aload_n hx hb dX4_begin_31 rfl (lv_at hl 0 rfl) ?_
  refine lv_iconst (v := (0 : Int32)) hx hb dX4_begin_32 (by decide) ?_
  obtain ⟨I7, eI7⟩ : ∃ z : gx_M, z = up I6 a0 6 (0 : Int32) := ⟨_, rfl⟩
  replace h := h I7 eI7
  refine pX4_6 C hM hk0 eI7 gw_92 dX4_begin_33 (fun H locs hM => ?_)
  refine lv_aload_n hx hb dX4_begin_36 rfl (lv_at hl 0 rfl) ?_
  refine lv_iconst (v := (0 : Int32)) hx hb dX4_begin_37 (by decide) ?_
  obtain ⟨I8, eI8⟩ : ∃ z : gx_M, z = up I7 a0 7 (0 : Int32) := ⟨_, rfl⟩
  replace h := h I8 eI8
  refine pX4_7 C hM hk0 eI8 gw_95 dX4_begin_38 (fun H locs hM => ?_)
  refine lv_aload_n hx hb dX4_begin_41 rfl (lv_at hl 0 rfl) ?_
  refine lv_iconst (v := (0 : Int32)) hx hb dX4_begin_42 (by decide) ?_
  obtain ⟨I9, eI9⟩ : ∃ z : gx_M, z = up I8 a0 8 (0 : Int32) := ⟨_, rfl⟩
  replace h := h I9 eI9
  refine pX4_8 C hM hk0 rfl eI9 gw_98 dX4_begin_43 (fun H locs hM => ?_)
  refine lv_iconst (v := (0 : Int32)) hx hb dX4_begin_46 (by decide) ?_
  refine lv_istore (lv' := [(5, .int (0 : Int32)), (0, .ref (gx_ad L a0)), (1, .int p0), (2, .int p1), (3, .int p2), (4, .int p3)]) hx hb dX4_begin_47 hl (by decide) rfl (fun ls hl => ?_)
  obtain ⟨fv, h⟩ := h
  exact tl_X4_begin_49 C fv a0 (0 : Int32) (hk0) I9 _ _ _ hM (lv_sub hl [1, 0] rfl) h
theorem k_X4_begin : gx_kV yX4_begin cX4_begin 6 none 4 := ⟨⟨gw_382, gw_26, by decide, by decide, by decide +kernel⟩, gw_380, gw_381⟩
abbrev rm_X6_dropJobsFor : Room := { frames := 2, cells := 0, slots := 0, locals := 48 }
set_option maxHeartbeats 4000000 in
set_option maxRecDepth 100000 in
theorem tj_X6_dropJobsFor_35 (C : gx_C L 282 p s m args meth c RX6 cX6_dropJobsFor 3 none) {Q : gx_M → Prop} {K10 : Nat → Int32 → Int32 → gx_M → Prop} (hK10 : ∀ (v0 : Nat) (v1 : Int32) (v2 : Int32) (hv0 : kX v0 = 6) (I : gx_M) (H : Heap) (locs : List Loc) (ls : Array Slot), gx_S L 282 (cellX L I) s.heap H locs → lv_has ls 3 [(0, .ref (gx_ad L v0)), (1, .int v1), (2, .int v2)] → K10 v0 v1 v2 I → W p l e rm_X6_dropJobsFor s m args below meth c H locs 0 0 (MQ below (va_Qv Q (fun I' t => gx_U L 282 (cellX L I') t) (gx_A L)) args s 0 0 (gx_A L)) (F0 m 10 ls [])) : ∀ (v0 : Nat) (v1 : Int32) (v2 : Int32) (hv0 : kX v0 = 6) (I : gx_M) (H : Heap) (locs : List Loc) (ls : Array Slot), gx_S L 282 (cellX L I) s.heap H locs → lv_has ls 3 [(0, .ref (gx_ad L v0)), (1, .int v1), (2, .int v2)] → wj_X6_dropJobsFor_35 Q K10 v0 v1 v2 I → W p l e rm_X6_dropJobsFor s m args below meth c H locs 0 0 (MQ below (va_Qv Q (fun I' t => gx_U L 282 (cellX L I') t) (gx_A L)) args s 0 0 (gx_A L)) (F0 m 35 ls []) := by
  have hx := C.1
  have hb := C.2.1
  intro v0 v1 v2 hv0 I H locs ls hM hl h
  unfold wj_X6_dropJobsFor_35 at h
  obtain ⟨x1, ex1⟩ : ∃ z : Int32, z = v2 + (-1 : Int32) := ⟨_, rfl⟩
  replace h := h x1 ex1
  refine lv_iinc (v := x1) (lv' := [(2, .int x1), (0, .ref (gx_ad L v0)), (1, .int v1)]) hx hb dX6_dropJobsFor_35 hl (k := 2) rfl (by rw [ex1]; rfl) (by decide) rfl (fun ls hl => ?_)
  refine lv_goto (tgt := 10) hx hb dX6_dropJobsFor_38 (by decide) ?_
  exact hK10 v0 v1 x1 (hv0) I _ _ _ hM (lv_sub hl [1, 2, 0] rfl) h
set_option maxHeartbeats 4000000 in
set_option maxRecDepth 100000 in
theorem tl_X6_dropJobsFor_10 (C : gx_C L 282 p s m args meth c RX6 cX6_dropJobsFor 3 none) {Q : gx_M → Prop} : ∀ (fu : Nat) (v0 : Nat) (v1 : Int32) (v2 : Int32) (hv0 : kX v0 = 6) (I : gx_M) (H : Heap) (locs : List Loc) (ls : Array Slot), gx_S L 282 (cellX L I) s.heap H locs → lv_has ls 3 [(0, .ref (gx_ad L v0)), (1, .int v1), (2, .int v2)] → wl_X6_dropJobsFor_10 Q fu v0 v1 v2 I → W p l e rm_X6_dropJobsFor s m args below meth c H locs 0 0 (MQ below (va_Qv Q (fun I' t => gx_U L 282 (cellX L I') t) (gx_A L)) args s 0 0 (gx_A L)) (F0 m 10 ls []) := by
  have hx := C.1
  have hb := C.2.1
  intro fu
  induction fu with
  | zero => intros; rename_i h; exact False.elim h
  | succ fu ih =>
    intro v0 v1 v2 hv0 I H locs ls hM hl h
    rw [wl_X6_dropJobsFor_10] at h
    refine lv_iload_n hx hb dX6_dropJobsFor_10 rfl (lv_at hl 2 rfl) ?_
    refine lv_if_lt (tgt := 41) hx hb dX6_dropJobsFor_11 (by decide) (fun hc => ?_) (fun hc => ?_)
    · replace h := h.1 hc
      exact gq_vret C hM h dX6_dropJobsFor_41
    · replace h := h.2 hc
      refine lv_aload_n hx hb dX6_dropJobsFor_14 rfl (lv_at hl 0 rfl) ?_
      refine gX6_1 C hM hv0 gw_137 dX6_dropJobsFor_15 ?_
      refine lv_iload_n hx hb dX6_dropJobsFor_18 rfl (lv_at hl 2 rfl) ?_
      refine lv_iconst (v := (2 : Int32)) hx hb dX6_dropJobsFor_19 (by decide) ?_
      refine gq_backi C hM (gq_runV (As := [.int v2, .int (2 : Int32)]) (rest := []) C hM (kX_lt (kX_6_1 hv0) (by decide)) (cX_5 (kX_6_1 hv0)) rfl (c_X5_at l L (v0 + 2) (kX_6_1 hv0) v2 (2 : Int32) I _ h) k_X5_at gw_393 rfl hl.1 rfl (Nat.le_of_ble_eq_true rfl) ⟨⟨rfl, rfl⟩, Nat.le_of_ble_eq_true rfl, Nat.le_of_ble_eq_true rfl⟩ ⟨Nat.zero_le _, Nat.zero_le _⟩ dX6_dropJobsFor_20) (fun r1 I1 H locs h hM => ?_)
      refine lv_iload_n hx hb dX6_dropJobsFor_23 rfl (lv_at hl 1 rfl) ?_
      refine lv_icmp_ne (tgt := 35) hx hb dX6_dropJobsFor_24 (by decide) (fun hc => ?_) (fun hc => ?_)
      · replace h := h.2 hc
        exact tj_X6_dropJobsFor_35 C ih v0 v1 v2 (hv0) I1 _ _ _ hM (lv_sub hl [0, 1, 2] rfl) h
      · replace h := h.1 hc
        refine lv_aload_n hx hb dX6_dropJobsFor_27 rfl (lv_at hl 0 rfl) ?_
        refine gX6_1 C hM hv0 gw_137 dX6_dropJobsFor_28 ?_
        refine lv_iload_n hx hb dX6_dropJobsFor_31 rfl (lv_at hl 2 rfl) ?_
        refine gq_backv C hM (gq_runV (As := [.int v2]) (rest := []) C hM (kX_lt (kX_6_1 hv0) (by decide)) (cX_5 (kX_6_1 hv0)) rfl (c_X5_drop l L (v0 + 2) (kX_6_1 hv0) v2 I1 _ h) k_X5_drop gw_404 rfl hl.1 rfl (Nat.le_of_ble_eq_true rfl) ⟨⟨rfl, rfl⟩, Nat.le_of_ble_eq_true rfl, Nat.le_of_ble_eq_true rfl⟩ ⟨Nat.zero_le _, Nat.zero_le _⟩ dX6_dropJobsFor_32) (fun I2 H locs h hM => ?_)
        exact tj_X6_dropJobsFor_35 C ih v0 v1 v2 (hv0) I2 _ _ _ hM (lv_sub hl [0, 1, 2] rfl) h
set_option maxHeartbeats 4000000 in
set_option maxRecDepth 100000 in
theorem c_X6_dropJobsFor (l : Launch) (L : gx_L) (a0 : Nat) (hk0 : kX a0 = 6) (p0 : Int32) (I : gx_M) (Q : gx_M → Prop) (h : wp_X6_dropJobsFor a0 p0 I Q) : Met l yX6_dropJobsFor (gx_w yX6_dropJobsFor cX6_dropJobsFor 3 none) rm_X6_dropJobsFor (va_Pc [.ref (gx_ad L a0), .int p0] (gx_U L 282 (cellX L I))) (va_Qv Q (fun I' t => gx_U L 282 (cellX L I') t) (gx_A L)) 0 0 (gx_A L) := by
  refine gq_enter (by decide) (Nat.le_of_ble_eq_true rfl) (fun p e s m below meth c ls C hM hl => ?_)
  have C : gx_C L 282 p s m _ meth c RX6 cX6_dropJobsFor 3 none := C
  have hl : lv_has ls 3 [(0, .ref (gx_ad L a0)), (1, .int p0)] := hl
  have hx := C.1
  have hb := C.2.1
  unfold wp_X6_dropJobsFor at h
  refine lv_aload_n hx hb dX6_dropJobsFor_0 rfl (lv_at hl 0 rfl) ?_
  refine gX6_1 C hM hk0 gw_137 dX6_dropJobsFor_1 ?_
  refine gX5_1 C hM (kX_6_1 hk0) gw_61 dX6_dropJobsFor_4 ?_
  refine lv_iconst (v := (1 : Int32)) hx hb dX6_dropJobsFor_7 (by decide) ?_
  refine lv_isub hx hb dX6_dropJobsFor_8 ?_
  refine lv_topi (fun x1 ex1 => ?_)
  replace h := h x1 ex1
  refine lv_istore_n (lv' := [(2, .int x1), (0, .ref (gx_ad L a0)), (1, .int p0)]) hx hb dX6_dropJobsFor_9 rfl hl (by decide) rfl (fun ls hl => ?_)
  obtain ⟨fv, h⟩ := h
  exact tl_X6_dropJobsFor_10 C fv a0 p0 x1 (hk0) I _ _ _ hM (lv_sub hl [1, 2, 0] rfl) h
theorem k_X6_dropJobsFor : gx_kV yX6_dropJobsFor cX6_dropJobsFor 3 none 1 := ⟨⟨gw_403, gw_23, by decide, by decide, by decide +kernel⟩, gw_401, gw_402⟩
abbrev rm_X6_hasRosetteAt : Room := { frames := 2, cells := 0, slots := 0, locals := 43 }
set_option maxHeartbeats 4000000 in
set_option maxRecDepth 100000 in
theorem tl_X6_hasRosetteAt_2 (C : gx_C L 282 p s m args meth c RX6 cX6_hasRosetteAt 3 (some .boolean)) {Q : Int32 → gx_M → Prop} : ∀ (fu : Nat) (v0 : Nat) (v1 : Int32) (v2 : Int32) (hv0 : kX v0 = 6) (I : gx_M) (H : Heap) (locs : List Loc) (ls : Array Slot), gx_S L 282 (cellX L I) s.heap H locs → lv_has ls 3 [(0, .ref (gx_ad L v0)), (1, .int v1), (2, .int v2)] → wl_X6_hasRosetteAt_2 Q fu v0 v1 v2 I → W p l e rm_X6_hasRosetteAt s m args below meth c H locs 0 0 (MQ below (va_Qi (fun r I' => r &&& 1 = r ∧ Q r I') (fun I' t => gx_U L 282 (cellX L I') t) (gx_A L)) args s 0 0 (gx_A L)) (F0 m 2 ls []) := by
  have hx := C.1
  have hb := C.2.1
  intro fu
  induction fu with
  | zero => intros; rename_i h; exact False.elim h
  | succ fu ih =>
    intro v0 v1 v2 hv0 I H locs ls hM hl h
    rw [wl_X6_hasRosetteAt_2] at h
    refine lv_iload_n hx hb dX6_hasRosetteAt_2 rfl (lv_at hl 2 rfl) ?_
    refine lv_aload_n hx hb dX6_hasRosetteAt_3 rfl (lv_at hl 0 rfl) ?_
    refine gX6_3 C hM hv0 gw_142 dX6_hasRosetteAt_4 ?_
    refine lv_icmp_ge (tgt := 27) hx hb dX6_hasRosetteAt_7 (by decide) (fun hc => ?_) (fun hc => ?_)
    · replace h := h.1 hc
      refine lv_iconst (v := (0 : Int32)) hx hb dX6_hasRosetteAt_27 (by decide) ?_
      exact gq_zret C hM ⟨rfl, h⟩ (rfl) dX6_hasRosetteAt_28
    · replace h := h.2 hc
      refine lv_aload_n hx hb dX6_hasRosetteAt_10 rfl (lv_at hl 0 rfl) ?_
      refine lv_iload_n hx hb dX6_hasRosetteAt_11 rfl (lv_at hl 2 rfl) ?_
      refine gq_backi C hM (gq_runV (As := [.int v2]) (rest := []) C hM (kX_lt hv0 (by decide)) (cX_6 hv0) rfl (c_X6_placeOf l L v0 hv0 v2 I _ h) k_X6_placeOf gw_348 rfl hl.1 rfl (Nat.le_of_ble_eq_true rfl) ⟨⟨rfl, rfl⟩, Nat.le_of_ble_eq_true rfl, Nat.le_of_ble_eq_true rfl⟩ ⟨Nat.zero_le _, Nat.zero_le _⟩ dX6_hasRosetteAt_12) (fun r1 I1 H locs h hM => ?_)
      refine lv_iload_n hx hb dX6_hasRosetteAt_15 rfl (lv_at hl 1 rfl) ?_
      refine lv_icmp_ne (tgt := 21) hx hb dX6_hasRosetteAt_16 (by decide) (fun hc => ?_) (fun hc => ?_)
      · replace h := h.2 hc
        obtain ⟨x1, ex1⟩ : ∃ z : Int32, z = v2 + (1 : Int32) := ⟨_, rfl⟩
        replace h := h x1 ex1
        refine lv_iinc (v := x1) (lv' := [(2, .int x1), (0, .ref (gx_ad L v0)), (1, .int v1)]) hx hb dX6_hasRosetteAt_21 hl (k := 2) rfl (by rw [ex1]; rfl) (by decide) rfl (fun ls hl => ?_)
        refine lv_goto (tgt := 2) hx hb dX6_hasRosetteAt_24 (by decide) ?_
        exact ih v0 v1 x1 (hv0) I1 _ _ _ hM (lv_sub hl [1, 2, 0] rfl) h
      · replace h := h.1 hc
        refine lv_iconst (v := (1 : Int32)) hx hb dX6_hasRosetteAt_19 (by decide) ?_
        exact gq_zret C hM ⟨rfl, h⟩ (rfl) dX6_hasRosetteAt_20
set_option maxHeartbeats 4000000 in
set_option maxRecDepth 100000 in
theorem c_X6_hasRosetteAt (l : Launch) (L : gx_L) (a0 : Nat) (hk0 : kX a0 = 6) (p0 : Int32) (I : gx_M) (Q : Int32 → gx_M → Prop) (h : wp_X6_hasRosetteAt a0 p0 I Q) : Met l yX6_hasRosetteAt (gx_w yX6_hasRosetteAt cX6_hasRosetteAt 3 (some .boolean)) rm_X6_hasRosetteAt (va_Pc [.ref (gx_ad L a0), .int p0] (gx_U L 282 (cellX L I))) (va_Qi (fun r I' => r &&& 1 = r ∧ Q r I') (fun I' t => gx_U L 282 (cellX L I') t) (gx_A L)) 0 0 (gx_A L) := by
  refine gq_enter (by decide) (Nat.le_of_ble_eq_true rfl) (fun p e s m below meth c ls C hM hl => ?_)
  have C : gx_C L 282 p s m _ meth c RX6 cX6_hasRosetteAt 3 (some .boolean) := C
  have hl : lv_has ls 3 [(0, .ref (gx_ad L a0)), (1, .int p0)] := hl
  have hx := C.1
  have hb := C.2.1
  unfold wp_X6_hasRosetteAt at h
  refine lv_iconst (v := (0 : Int32)) hx hb dX6_hasRosetteAt_0 (by decide) ?_
  refine lv_istore_n (lv' := [(2, .int (0 : Int32)), (0, .ref (gx_ad L a0)), (1, .int p0)]) hx hb dX6_hasRosetteAt_1 rfl hl (by decide) rfl (fun ls hl => ?_)
  obtain ⟨fv, h⟩ := h
  exact tl_X6_hasRosetteAt_2 C fv a0 p0 (0 : Int32) (hk0) I _ _ _ hM (lv_sub hl [1, 2, 0] rfl) h
theorem k_X6_hasRosetteAt : gx_kV yX6_hasRosetteAt cX6_hasRosetteAt 3 (some .boolean) 1 := ⟨⟨gw_347, gw_23, by decide, by decide, by decide +kernel⟩, gw_345, gw_346⟩
end
