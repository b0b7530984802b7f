section
variable {p : Program} {l : Launch} {e : Env} {s : State} {m : MethodId} {args : Array Value} {below : List Frame} {meth : Method} {c : Code} {L : gx_L}
abbrev rm_X7_gauge : Room := { frames := 5, cells := 0, slots := 0, locals := 110 }
set_option maxHeartbeats 4000000 in
set_option maxRecDepth 100000 in
theorem c_X7_gauge (l : Launch) (L : gx_L) (a0 : Nat) (hk0 : kX a0 = 7) (p0 : Int32) (p1 : Int32) (p2 : Int32) (I : gx_M) (Q : Int32 → gx_M → Prop) (h : wp_X7_gauge a0 p0 p1 p2 I Q) : Met l yX7_gauge (gx_w yX7_gauge cX7_gauge 5 (some .int)) rm_X7_gauge (va_Pc [.ref (gx_ad L a0), .int p0, .int p1, .int p2] (gx_U L 282 (cellX L I))) (va_Qi Q (fun I' t => gx_U L 282 (cellX L I') t) (gx_A L)) 0 0 (gx_A L) := by
  refine gq_enter (by decide) (Nat.le_of_ble_eq_true rfl) (fun p e s m below meth c ls C hM hl => ?_)
  have C : gx_C L 282 p s m _ meth c RX7 cX7_gauge 5 (some .int) := C
  have hl : lv_has ls 5 [(0, .ref (gx_ad L a0)), (1, .int p0), (2, .int p1), (3, .int p2)] := hl
  have hx := C.1
  have hb := C.2.1
  unfold wp_X7_gauge at h
  refine lv_aload_n hx hb dX7_gauge_0 rfl (lv_at hl 0 rfl) ?_
  refine gX7_0 C hM hk0 gw_343 dX7_gauge_1 ?_
  refine lv_iload_n hx hb dX7_gauge_4 rfl (lv_at hl 1 rfl) ?_
  refine gq_backe C hM (gq_runV (As := [.int p0]) (rest := []) C hM (kX_lt (kX_7_0 hk0) (by decide)) (cX_6 (kX_7_0 hk0)) rfl (c_X6_find l L (a0 + 1) (kX_7_0 hk0) p0 I _ h) k_X6_find gw_424 rfl hl.1 rfl (Nat.le_of_ble_eq_true rfl) ⟨⟨rfl, rfl⟩, Nat.le_of_ble_eq_true rfl, Nat.le_of_ble_eq_true rfl⟩ ⟨Nat.zero_le _, Nat.zero_le _⟩ dX7_gauge_5) (fun r1 I1 H locs h hM => ?_)
  obtain ⟨hk1, h⟩ := h
  rcases r1 with _ | b1
  · replace h := h.1 rfl
    refine W.eq (g2 := F0 m 8 ls [.null]) rfl ?_
    refine lv_astoreN (lv' := [(4, .null), (0, .ref (gx_ad L a0)), (1, .int p0), (2, .int p1), (3, .int p2)]) hx hb dX7_gauge_8 hl (by decide) rfl (fun ls hl => ?_)
    refine lv_aloadN hx hb dX7_gauge_10 (lv_at hl 0 rfl) ?_
    refine lv_ifnullN (tgt := 24) hx hb dX7_gauge_12 (by decide) ?_
    refine gq_ldc (v := (-1000001 : Int32)) C gw_425 dX7_gauge_24 ?_
    exact gq_iret C hM h dX7_gauge_26
  · have hk := hk1 b1 rfl
    replace h := h.2 b1 rfl hk
    have hk2 := hk
    refine W.eq (g2 := F0 m 8 ls [.ref (gx_ad L b1)]) rfl ?_
    refine lv_astore (lv' := [(4, .ref (gx_ad L b1)), (0, .ref (gx_ad L a0)), (1, .int p0), (2, .int p1), (3, .int p2)]) hx hb dX7_gauge_8 hl (by decide) rfl (fun ls hl => ?_)
    refine lv_aload hx hb dX7_gauge_10 (lv_at hl 0 rfl) ?_
    refine lv_ifnull hx hb dX7_gauge_12 ?_
    refine lv_iload_n hx hb dX7_gauge_15 rfl (lv_at hl 3 rfl) ?_
    refine lv_iconst (v := (0 : Int32)) hx hb dX7_gauge_16 (by decide) ?_
    refine lv_iconst (v := (2 : Int32)) hx hb dX7_gauge_17 (by decide) ?_
    refine gq_backi C hM (gq_runS (As := [.int p1, .int (0 : Int32), .int (2 : Int32)]) (rest := []) C hM (c_X7_isWithin l L p1 (0 : Int32) (2 : Int32) I1 _ h) k_X7_isWithin gw_372 rfl hl.1 rfl (Nat.le_of_ble_eq_true rfl) ⟨⟨rfl, rfl⟩, Nat.le_of_ble_eq_true rfl, Nat.le_of_ble_eq_true rfl⟩ ⟨Nat.zero_le _, Nat.zero_le _⟩ dX7_gauge_18) (fun r2 I2 H locs h hM => ?_)
    obtain ⟨hz1, h⟩ := h
    refine lv_if_ne (tgt := 27) hx hb dX7_gauge_21 (by decide) (fun hc => ?_) (fun hc => ?_)
    · replace h := h.2 hc
      refine lv_aload_n hx hb dX7_gauge_27 rfl (lv_at hl 1 rfl) ?_
      refine gX7_7 C hM hk0 gw_350 dX7_gauge_28 ?_
      refine lv_aload hx hb dX7_gauge_31 (lv_at hl 0 rfl) ?_
      refine lv_aload_n hx hb dX7_gauge_33 rfl (lv_at hl 1 rfl) ?_
      refine gX7_0 C hM hk0 gw_343 dX7_gauge_34 ?_
      refine gX6_4 C hM (kX_7_0 hk0) gw_182 dX7_gauge_37 ?_
      refine gq_backv C hM (gq_runV (As := [.ref (gx_ad L b1), .int (I2 (a0 + 1) 4)]) (rest := []) C hM (kX_lt (kX_7_7 hk0) (by decide)) (cX_2 (kX_7_7 hk0)) rfl (c_X2_take l L (a0 + 275) (kX_7_7 hk0) b1 hk2 (I2 (a0 + 1) 4) I2 _ h) k_X2_take gw_430 rfl hl.1 rfl (Nat.le_of_ble_eq_true rfl) ⟨⟨rfl, rfl⟩, Nat.le_of_ble_eq_true rfl, Nat.le_of_ble_eq_true rfl⟩ ⟨Nat.zero_le _, Nat.zero_le _⟩ dX7_gauge_40) (fun I3 H locs h hM => ?_)
      refine lv_iload_n hx hb dX7_gauge_43 rfl (lv_at hl 4 rfl) ?_
      by_cases hs0 : p2 = (0 : Int32)
      · replace h := h.1 hs0
        refine lv_tableIn (tgt := 92) hx hb dX7_gauge_44 (by rw [hs0]; decide) (by rw [hs0]; decide) (by rw [hs0]; rfl) (by decide) ?_
        refine lv_aload hx hb dX7_gauge_92 (lv_at hl 0 rfl) ?_
        refine gX4_9 C hM hk2 gw_139 dX7_gauge_94 ?_
        refine lv_iload_n hx hb dX7_gauge_97 rfl (lv_at hl 3 rfl) ?_
        refine gialdX C hM (kX_4_9 hk2) h.1 dX7_gauge_98 ?_
        replace h := h.2
        exact gq_iret C hM h dX7_gauge_99
      by_cases hs1 : p2 = (1 : Int32)
      · replace h := h.2.1 hs1
        refine lv_tableIn (tgt := 100) hx hb dX7_gauge_44 (by rw [hs1]; decide) (by rw [hs1]; decide) (by rw [hs1]; rfl) (by decide) ?_
        refine lv_aload_n hx hb dX7_gauge_100 rfl (lv_at hl 1 rfl) ?_
        refine gX7_7 C hM hk0 gw_350 dX7_gauge_101 ?_
        refine gX2_0 C hM (kX_7_7 hk0) gw_284 dX7_gauge_104 ?_
        refine lv_iload_n hx hb dX7_gauge_107 rfl (lv_at hl 3 rfl) ?_
        refine gialdX C hM (kX_2_0 (kX_7_7 hk0)) h.1 dX7_gauge_108 ?_
        replace h := h.2
        exact gq_iret C hM h dX7_gauge_109
      by_cases hs2 : p2 = (2 : Int32)
      · replace h := h.2.2.1 hs2
        refine lv_tableIn (tgt := 110) hx hb dX7_gauge_44 (by rw [hs2]; decide) (by rw [hs2]; decide) (by rw [hs2]; rfl) (by decide) ?_
        refine lv_aload_n hx hb dX7_gauge_110 rfl (lv_at hl 1 rfl) ?_
        refine gX7_7 C hM hk0 gw_350 dX7_gauge_111 ?_
        refine gX2_1 C hM (kX_7_7 hk0) gw_286 dX7_gauge_114 ?_
        refine lv_iload_n hx hb dX7_gauge_117 rfl (lv_at hl 3 rfl) ?_
        refine gialdX C hM (kX_2_1 (kX_7_7 hk0)) h.1 dX7_gauge_118 ?_
        replace h := h.2
        exact gq_iret C hM h dX7_gauge_119
      by_cases hs3 : p2 = (3 : Int32)
      · replace h := h.2.2.2.1 hs3
        refine lv_tableIn (tgt := 120) hx hb dX7_gauge_44 (by rw [hs3]; decide) (by rw [hs3]; decide) (by rw [hs3]; rfl) (by decide) ?_
        refine lv_aload_n hx hb dX7_gauge_120 rfl (lv_at hl 1 rfl) ?_
        refine gX7_7 C hM hk0 gw_350 dX7_gauge_121 ?_
        refine gX2_2 C hM (kX_7_7 hk0) gw_288 dX7_gauge_124 ?_
        refine lv_iload_n hx hb dX7_gauge_127 rfl (lv_at hl 3 rfl) ?_
        refine gialdX C hM (kX_2_2 (kX_7_7 hk0)) h.1 dX7_gauge_128 ?_
        replace h := h.2
        exact gq_iret C hM h dX7_gauge_129
      by_cases hs4 : p2 = (4 : Int32)
      · replace h := h.2.2.2.2.1 hs4
        refine lv_tableIn (tgt := 130) hx hb dX7_gauge_44 (by rw [hs4]; decide) (by rw [hs4]; decide) (by rw [hs4]; rfl) (by decide) ?_
        refine lv_aload hx hb dX7_gauge_130 (lv_at hl 0 rfl) ?_
        refine gX4_10 C hM hk2 gw_143 dX7_gauge_132 ?_
        refine lv_iload_n hx hb dX7_gauge_135 rfl (lv_at hl 3 rfl) ?_
        refine gialdX C hM (kX_4_10 hk2) h.1 dX7_gauge_136 ?_
        replace h := h.2
        exact gq_iret C hM h dX7_gauge_137
      by_cases hs5 : p2 = (5 : Int32)
      · replace h := h.2.2.2.2.2.1 hs5
        refine lv_tableIn (tgt := 138) hx hb dX7_gauge_44 (by rw [hs5]; decide) (by rw [hs5]; decide) (by rw [hs5]; rfl) (by decide) ?_
        refine lv_aload hx hb dX7_gauge_138 (lv_at hl 0 rfl) ?_
        refine gX4_11 C hM hk2 gw_146 dX7_gauge_140 ?_
        refine lv_iload_n hx hb dX7_gauge_143 rfl (lv_at hl 3 rfl) ?_
        refine gialdX C hM (kX_4_11 hk2) h.1 dX7_gauge_144 ?_
        replace h := h.2
        exact gq_iret C hM h dX7_gauge_145
      by_cases hs6 : p2 = (6 : Int32)
      · replace h := h.2.2.2.2.2.2.1 hs6
        refine lv_tableIn (tgt := 146) hx hb dX7_gauge_44 (by rw [hs6]; decide) (by rw [hs6]; decide) (by rw [hs6]; rfl) (by decide) ?_
        refine lv_aload_n hx hb dX7_gauge_146 rfl (lv_at hl 1 rfl) ?_
        refine gX7_7 C hM hk0 gw_350 dX7_gauge_147 ?_
        refine gX2_5 C hM (kX_7_7 hk0) gw_293 dX7_gauge_150 ?_
        refine lv_iload_n hx hb dX7_gauge_153 rfl (lv_at hl 3 rfl) ?_
        refine gialdX C hM (kX_2_5 (kX_7_7 hk0)) h.1 dX7_gauge_154 ?_
        replace h := h.2
        exact gq_iret C hM h dX7_gauge_155
      by_cases hs7 : p2 = (7 : Int32)
      · replace h := h.2.2.2.2.2.2.2.1 hs7
        refine lv_tableIn (tgt := 156) hx hb dX7_gauge_44 (by rw [hs7]; decide) (by rw [hs7]; decide) (by rw [hs7]; rfl) (by decide) ?_
        refine lv_aload_n hx hb dX7_gauge_156 rfl (lv_at hl 1 rfl) ?_
        refine gX7_7 C hM hk0 gw_350 dX7_gauge_157 ?_
        refine gX2_4 C hM (kX_7_7 hk0) gw_291 dX7_gauge_160 ?_
        refine lv_iload_n hx hb dX7_gauge_163 rfl (lv_at hl 3 rfl) ?_
        refine gialdX C hM (kX_2_4 (kX_7_7 hk0)) h.1 dX7_gauge_164 ?_
        replace h := h.2
        exact gq_iret C hM h dX7_gauge_165
      replace h := h.2.2.2.2.2.2.2.2 hs0 hs1 hs2 hs3 hs4 hs5 hs6 hs7
      refine lv_tableOut (tgt := 166) hx hb dX7_gauge_44 (by have q0 := lv_neT (a := 0) hs0 (by decide); have q1 := lv_neT (a := 1) hs1 (by decide); have q2 := lv_neT (a := 2) hs2 (by decide); have q3 := lv_neT (a := 3) hs3 (by decide); have q4 := lv_neT (a := 4) hs4 (by decide); have q5 := lv_neT (a := 5) hs5 (by decide); have q6 := lv_neT (a := 6) hs6 (by decide); have q7 := lv_neT (a := 7) hs7 (by decide); omega) (by decide) ?_
      refine gq_ldc (v := (-1000002 : Int32)) C gw_375 dX7_gauge_166 ?_
      exact gq_iret C hM h dX7_gauge_168
    · replace h := h.1 hc
      refine gq_ldc (v := (-1000001 : Int32)) C gw_425 dX7_gauge_24 ?_
      exact gq_iret C hM h dX7_gauge_26
theorem k_X7_gauge : gx_kV yX7_gauge cX7_gauge 5 (some .int) 3 := ⟨⟨gw_685, gw_58, by decide, by decide, by decide +kernel⟩, gw_683, gw_684⟩
abbrev rm_X7_job : Room := { frames := 5, cells := 0, slots := 0, locals := 114 }
set_option maxHeartbeats 4000000 in
set_option maxRecDepth 100000 in
theorem tl_X7_job_46 (C : gx_C L 282 p s m args meth c RX7 cX7_job 4 (some .int)) {Q : Int32 → gx_M → Prop} : ∀ (fu : Nat) (v0 : Nat) (v1 : Int32) (v2 : Int32) (v3 : Int32) (hv0 : kX v0 = 7) (I : gx_M) (H : Heap) (locs : List Loc) (ls : Array Slot), gx_S L 282 (cellX L I) s.heap H locs → lv_has ls 4 [(0, .ref (gx_ad L v0)), (1, .int v1), (2, .int v2), (3, .int v3)] → wl_X7_job_46 Q fu v0 v1 v2 v3 I → W p l e rm_X7_job s m args below meth c H locs 0 0 (MQ below (va_Qi Q (fun I' t => gx_U L 282 (cellX L I') t) (gx_A L)) args s 0 0 (gx_A L)) (F0 m 46 ls []) := by
  have hx := C.1
  have hb := C.2.1
  intro fu
  induction fu with
  | zero => intros; rename_i h; exact False.elim h
  | succ fu ih =>
    intro v0 v1 v2 v3 hv0 I H locs ls hM hl h
    rw [wl_X7_job_46] at h
    refine lv_iload_n hx hb dX7_job_46 rfl (lv_at hl 3 rfl) ?_
    refine lv_iload_n hx hb dX7_job_47 rfl (lv_at hl 1 rfl) ?_
    refine lv_icmp_gt (tgt := 68) hx hb dX7_job_48 (by decide) (fun hc => ?_) (fun hc => ?_)
    · replace h := h.1 hc
      refine lv_iload_n hx hb dX7_job_68 rfl (lv_at hl 2 rfl) ?_
      refine lv_iconst (v := (4 : Int32)) hx hb dX7_job_69 (by decide) ?_
      refine lv_icmp_ne (tgt := 83) hx hb dX7_job_70 (by decide) (fun hc => ?_) (fun hc => ?_)
      · replace h := h.2 hc
        refine lv_aload_n hx hb dX7_job_83 rfl (lv_at hl 0 rfl) ?_
        refine gX7_0 C hM hv0 gw_343 dX7_job_84 ?_
        refine gX6_1 C hM (kX_7_0 hv0) gw_176 dX7_job_87 ?_
        refine lv_aload_n hx hb dX7_job_90 rfl (lv_at hl 0 rfl) ?_
        refine gX7_6 C hM hv0 gw_349 dX7_job_91 ?_
        refine gX3_1 C hM (kX_7_6 hv0) gw_263 dX7_job_94 ?_
        refine lv_iload_n hx hb dX7_job_97 rfl (lv_at hl 2 rfl) ?_
        refine gq_backi C hM (gq_runV (As := [.int (I (v0 + 273) 1), .int v2]) (rest := []) C hM (kX_lt (kX_6_1 (kX_7_0 hv0)) (by decide)) (cX_5 (kX_6_1 (kX_7_0 hv0))) rfl (c_X5_at l L ((v0 + 1) + 2) (kX_6_1 (kX_7_0 hv0)) (I (v0 + 273) 1) v2 I _ h) k_X5_at gw_570 rfl hl.1 rfl (Nat.le_of_ble_eq_true rfl) ⟨⟨rfl, rfl⟩, Nat.le_of_ble_eq_true rfl, Nat.le_of_ble_eq_true rfl⟩ ⟨Nat.zero_le _, Nat.zero_le _⟩ dX7_job_98) (fun r1 I1 H locs h hM => ?_)
        exact gq_iret C hM h dX7_job_101
      · replace h := h.1 hc
        refine lv_aload_n hx hb dX7_job_73 rfl (lv_at hl 0 rfl) ?_
        refine gX7_6 C hM hv0 gw_349 dX7_job_74 ?_
        refine gX3_3 C hM (kX_7_6 hv0) gw_266 dX7_job_77 ?_
        refine lv_goto (tgt := 101) hx hb dX7_job_80 (by decide) ?_
        exact gq_iret C hM h dX7_job_101
    · replace h := h.2 hc
      refine lv_aload_n hx hb dX7_job_51 rfl (lv_at hl 0 rfl) ?_
      refine gX7_6 C hM hv0 gw_349 dX7_job_52 ?_
      refine lv_aload_n hx hb dX7_job_55 rfl (lv_at hl 0 rfl) ?_
      refine gX7_0 C hM hv0 gw_343 dX7_job_56 ?_
      refine gq_backv C hM (gq_runV (As := [.ref (gx_ad L (v0 + 1))]) (rest := []) C hM (kX_lt (kX_7_6 hv0) (by decide)) (cX_3 (kX_7_6 hv0)) rfl (c_X3_goOn l L (v0 + 273) (kX_7_6 hv0) (v0 + 1) (kX_7_0 hv0) I _ h) k_X3_goOn gw_553 rfl hl.1 rfl (Nat.le_of_ble_eq_true rfl) ⟨⟨rfl, rfl⟩, Nat.le_of_ble_eq_true rfl, Nat.le_of_ble_eq_true rfl⟩ ⟨Nat.zero_le _, Nat.zero_le _⟩ dX7_job_59) (fun I2 H locs h hM => ?_)
      obtain ⟨x1, ex1⟩ : ∃ z : Int32, z = v3 + (1 : Int32) := ⟨_, rfl⟩
      replace h := h x1 ex1
      refine lv_iinc (v := x1) (lv' := [(3, .int x1), (0, .ref (gx_ad L v0)), (1, .int v1), (2, .int v2)]) hx hb dX7_job_62 hl (k := 3) rfl (by rw [ex1]; rfl) (by decide) rfl (fun ls hl => ?_)
      refine lv_goto (tgt := 46) hx hb dX7_job_65 (by decide) ?_
      exact ih v0 v1 v2 x1 (hv0) I2 _ _ _ hM (lv_sub hl [1, 2, 3, 0] rfl) h
set_option maxHeartbeats 4000000 in
set_option maxRecDepth 100000 in
theorem c_X7_job (l : Launch) (L : gx_L) (a0 : Nat) (hk0 : kX a0 = 7) (p0 : Int32) (p1 : Int32) (I : gx_M) (Q : Int32 → gx_M → Prop) (h : wp_X7_job a0 p0 p1 I Q) : Met l yX7_job (gx_w yX7_job cX7_job 4 (some .int)) rm_X7_job (va_Pc [.ref (gx_ad L a0), .int p0, .int p1] (gx_U L 282 (cellX L I))) (va_Qi Q (fun I' t => gx_U L 282 (cellX L I') t) (gx_A L)) 0 0 (gx_A L) := by
  refine gq_enter (by decide) (Nat.le_of_ble_eq_true rfl) (fun p e s m below meth c ls C hM hl => ?_)
  have C : gx_C L 282 p s m _ meth c RX7 cX7_job 4 (some .int) := C
  have hl : lv_has ls 4 [(0, .ref (gx_ad L a0)), (1, .int p0), (2, .int p1)] := hl
  have hx := C.1
  have hb := C.2.1
  unfold wp_X7_job at h
  refine lv_iload_n hx hb dX7_job_0 rfl (lv_at hl 1 rfl) ?_
  refine lv_if_lt (tgt := 13) hx hb dX7_job_1 (by decide) (fun hc => ?_) (fun hc => ?_)
  · replace h := h.1 hc
    refine gq_ldc (v := (-1000002 : Int32)) C gw_375 dX7_job_13 ?_
    exact gq_iret C hM h dX7_job_15
  · replace h := h.2 hc
    refine lv_iload_n hx hb dX7_job_4 rfl (lv_at hl 2 rfl) ?_
    refine lv_iconst (v := (0 : Int32)) hx hb dX7_job_5 (by decide) ?_
    refine lv_iconst (v := (4 : Int32)) hx hb dX7_job_6 (by decide) ?_
    refine gq_backi C hM (gq_runS (As := [.int p1, .int (0 : Int32), .int (4 : Int32)]) (rest := []) C hM (c_X7_isWithin l L p1 (0 : Int32) (4 : Int32) I _ h) k_X7_isWithin gw_372 rfl hl.1 rfl (Nat.le_of_ble_eq_true rfl) ⟨⟨rfl, rfl⟩, Nat.le_of_ble_eq_true rfl, Nat.le_of_ble_eq_true rfl⟩ ⟨Nat.zero_le _, Nat.zero_le _⟩ dX7_job_7) (fun r1 I1 H locs h hM => ?_)
    obtain ⟨hz1, h⟩ := h
    refine lv_if_ne (tgt := 16) hx hb dX7_job_10 (by decide) (fun hc => ?_) (fun hc => ?_)
    · replace h := h.2 hc
      refine lv_iload_n hx hb dX7_job_16 rfl (lv_at hl 1 rfl) ?_
      refine lv_aload_n hx hb dX7_job_17 rfl (lv_at hl 0 rfl) ?_
      refine gX7_0 C hM hk0 gw_343 dX7_job_18 ?_
      refine gX6_1 C hM (kX_7_0 hk0) gw_176 dX7_job_21 ?_
      refine gX5_1 C hM (kX_6_1 (kX_7_0 hk0)) gw_99 dX7_job_24 ?_
      refine lv_icmp_lt (tgt := 33) hx hb dX7_job_27 (by decide) (fun hc => ?_) (fun hc => ?_)
      · replace h := h.1 hc
        refine lv_aload_n hx hb dX7_job_33 rfl (lv_at hl 0 rfl) ?_
        refine gX7_6 C hM hk0 gw_349 dX7_job_34 ?_
        refine lv_aload_n hx hb dX7_job_37 rfl (lv_at hl 0 rfl) ?_
        refine gX7_0 C hM hk0 gw_343 dX7_job_38 ?_
        refine gq_backv C hM (gq_runV (As := [.ref (gx_ad L (a0 + 1))]) (rest := []) C hM (kX_lt (kX_7_6 hk0) (by decide)) (cX_3 (kX_7_6 hk0)) rfl (c_X3_begin l L (a0 + 273) (kX_7_6 hk0) (a0 + 1) (kX_7_0 hk0) I1 _ h) k_X3_begin gw_549 rfl hl.1 rfl (Nat.le_of_ble_eq_true rfl) ⟨⟨rfl, rfl⟩, Nat.le_of_ble_eq_true rfl, Nat.le_of_ble_eq_true rfl⟩ ⟨Nat.zero_le _, Nat.zero_le _⟩ dX7_job_41) (fun I2 H locs h hM => ?_)
        refine lv_iconst (v := (0 : Int32)) hx hb dX7_job_44 (by decide) ?_
        refine lv_istore_n (lv' := [(3, .int (0 : Int32)), (0, .ref (gx_ad L a0)), (1, .int p0), (2, .int p1)]) hx hb dX7_job_45 rfl hl (by decide) rfl (fun ls hl => ?_)
        obtain ⟨fu, h⟩ := h
        exact tl_X7_job_46 C fu a0 p0 p1 (0 : Int32) (hk0) I2 _ _ _ hM (lv_sub hl [1, 2, 3, 0] rfl) h
      · replace h := h.2 hc
        refine gq_ldc (v := (-1000004 : Int32)) C gw_429 dX7_job_30 ?_
        exact gq_iret C hM h dX7_job_32
    · replace h := h.1 hc
      refine gq_ldc (v := (-1000002 : Int32)) C gw_375 dX7_job_13 ?_
      exact gq_iret C hM h dX7_job_15
theorem k_X7_job : gx_kV yX7_job cX7_job 4 (some .int) 2 := ⟨⟨gw_699, gw_58, by decide, by decide, by decide +kernel⟩, gw_697, gw_698⟩
abbrev rm_X7_keep : Room := { frames := 3, cells := 0, slots := 0, locals := 69 }
set_option maxHeartbeats 4000000 in
set_option maxRecDepth 100000 in
theorem c_X7_keep (l : Launch) (L : gx_L) (a0 : Nat) (hk0 : kX a0 = 7) (I : gx_M) (Q : Int32 → gx_M → Prop) (h : wp_X7_keep a0 I Q) : Met l yX7_keep (gx_w yX7_keep cX7_keep 1 (some .int)) rm_X7_keep (va_Pc [.ref (gx_ad L a0)] (gx_U L 282 (cellX L I))) (va_Qi Q (fun I' t => gx_U L 282 (cellX L I') t) (gx_A L)) 0 0 (gx_A L) := by
  refine gq_enter (by decide) (Nat.le_of_ble_eq_true rfl) (fun p e s m below meth c ls C hM hl => ?_)
  have C : gx_C L 282 p s m _ meth c RX7 cX7_keep 1 (some .int) := C
  have hl : lv_has ls 1 [(0, .ref (gx_ad L a0))] := hl
  have hx := C.1
  have hb := C.2.1
  unfold wp_X7_keep at h
  refine lv_aload_n hx hb dX7_keep_0 rfl (lv_at hl 0 rfl) ?_
  refine gX7_1 C hM hk0 gw_344 dX7_keep_1 ?_
  refine lv_aload_n hx hb dX7_keep_4 rfl (lv_at hl 0 rfl) ?_
  refine gX7_0 C hM hk0 gw_343 dX7_keep_5 ?_
  refine gq_backv C hM (gq_runV (As := [.ref (gx_ad L (a0 + 1))]) (rest := []) C hM (kX_lt (kX_7_1 hk0) (by decide)) (cX_6 (kX_7_1 hk0)) rfl (c_X6_copyFrom l L (a0 + 39) (kX_7_1 hk0) (a0 + 1) (kX_7_0 hk0) I _ h) k_X6_copyFrom gw_669 rfl hl.1 rfl (Nat.le_of_ble_eq_true rfl) ⟨⟨rfl, rfl⟩, Nat.le_of_ble_eq_true rfl, Nat.le_of_ble_eq_true rfl⟩ ⟨Nat.zero_le _, Nat.zero_le _⟩ dX7_keep_8) (fun I1 H locs h hM => ?_)
  refine lv_aload_n hx hb dX7_keep_11 rfl (lv_at hl 0 rfl) ?_
  refine lv_iconst (v := (1 : Int32)) hx hb dX7_keep_12 (by decide) ?_
  obtain ⟨I2, eI2⟩ : ∃ z : gx_M, z = up I1 a0 2 (1 : Int32) := ⟨_, rfl⟩
  replace h := h I2 eI2
  refine pX7_2 C hM hk0 rfl eI2 gw_345 dX7_keep_13 (fun H locs hM => ?_)
  refine lv_aload_n hx hb dX7_keep_16 rfl (lv_at hl 0 rfl) ?_
  refine gX7_0 C hM hk0 gw_343 dX7_keep_17 ?_
  refine gX6_3 C hM (kX_7_0 hk0) gw_180 dX7_keep_20 ?_
  exact gq_iret C hM h dX7_keep_23
theorem k_X7_keep : gx_kV yX7_keep cX7_keep 1 (some .int) 0 := ⟨⟨gw_673, gw_58, by decide, by decide, by decide +kernel⟩, gw_671, gw_672⟩
abbrev rm_X7_neighbour : Room := { frames := 2, cells := 0, slots := 0, locals := 43 }
set_option maxHeartbeats 4000000 in
set_option maxRecDepth 100000 in
theorem tj_X7_neighbour_87 (C : gx_C L 282 p s m args meth c RX7 cX7_neighbour 7 (some .int)) {Q : Int32 → gx_M → Prop} {K25 : Nat → Int32 → Int32 → Int32 → Int32 → Int32 → gx_M → Prop} (hK25 : ∀ (v0 : Nat) (v1 : Int32) (v2 : Int32) (v3 : Int32) (v4 : Int32) (v5 : Int32) (hv0 : kX v0 = 7) (I : gx_M) (H : Heap) (locs : List Loc) (ls : Array Slot), gx_S L 282 (cellX L I) s.heap H locs → lv_has ls 7 [(0, .ref (gx_ad L v0)), (1, .int v1), (2, .int v2), (3, .int v3), (4, .int v4), (5, .int v5)] → K25 v0 v1 v2 v3 v4 v5 I → W p l e rm_X7_neighbour s m args below meth c H locs 0 0 (MQ below (va_Qi Q (fun I' t => gx_U L 282 (cellX L I') t) (gx_A L)) args s 0 0 (gx_A L)) (F0 m 25 ls [])) : ∀ (v0 : Nat) (v1 : Int32) (v2 : Int32) (v3 : Int32) (v4 : Int32) (v5 : Int32) (hv0 : kX v0 = 7) (I : gx_M) (H : Heap) (locs : List Loc) (ls : Array Slot), gx_S L 282 (cellX L I) s.heap H locs → lv_has ls 7 [(0, .ref (gx_ad L v0)), (1, .int v1), (2, .int v2), (3, .int v3), (4, .int v4), (5, .int v5)] → wj_X7_neighbour_87 Q K25 v0 v1 v2 v3 v4 v5 I → W p l e rm_X7_neighbour s m args below meth c H locs 0 0 (MQ below (va_Qi Q (fun I' t => gx_U L 282 (cellX L I') t) (gx_A L)) args s 0 0 (gx_A L)) (F0 m 87 ls []) := by
  have hx := C.1
  have hb := C.2.1
  intro v0 v1 v2 v3 v4 v5 hv0 I H locs ls hM hl h
  unfold wj_X7_neighbour_87 at h
  obtain ⟨x1, ex1⟩ : ∃ z : Int32, z = v5 + (1 : Int32) := ⟨_, rfl⟩
  replace h := h x1 ex1
  refine lv_iinc (v := x1) (lv' := [(5, .int x1), (0, .ref (gx_ad L v0)), (1, .int v1), (2, .int v2), (3, .int v3), (4, .int v4)]) hx hb dX7_neighbour_87 hl (k := 5) rfl (by rw [ex1]; rfl) (by decide) rfl (fun ls hl => ?_)
  refine lv_goto (tgt := 25) hx hb dX7_neighbour_90 (by decide) ?_
  exact hK25 v0 v1 v2 v3 v4 x1 (hv0) I _ _ _ hM (lv_sub hl [1, 2, 3, 4, 5, 0] rfl) h
set_option maxHeartbeats 4000000 in
set_option maxRecDepth 100000 in
theorem tj_X7_neighbour_66 (C : gx_C L 282 p s m args meth c RX7 cX7_neighbour 7 (some .int)) {Q : Int32 → gx_M → Prop} {K25 : Nat → Int32 → Int32 → Int32 → Int32 → Int32 → gx_M → Prop} (hK25 : ∀ (v0 : Nat) (v1 : Int32) (v2 : Int32) (v3 : Int32) (v4 : Int32) (v5 : Int32) (hv0 : kX v0 = 7) (I : gx_M) (H : Heap) (locs : List Loc) (ls : Array Slot), gx_S L 282 (cellX L I) s.heap H locs → lv_has ls 7 [(0, .ref (gx_ad L v0)), (1, .int v1), (2, .int v2), (3, .int v3), (4, .int v4), (5, .int v5)] → K25 v0 v1 v2 v3 v4 v5 I → W p l e rm_X7_neighbour s m args below meth c H locs 0 0 (MQ below (va_Qi Q (fun I' t => gx_U L 282 (cellX L I') t) (gx_A L)) args s 0 0 (gx_A L)) (F0 m 25 ls [])) : ∀ (v0 : Nat) (v1 : Int32) (v2 : Int32) (v3 : Int32) (v4 : Int32) (v5 : Int32) (u0 : Int32) (hv0 : kX v0 = 7) (I : gx_M) (H : Heap) (locs : List Loc) (ls : Array Slot), gx_S L 282 (cellX L I) s.heap H locs → lv_has ls 7 [(0, .ref (gx_ad L v0)), (1, .int v1), (2, .int v2), (3, .int v3), (4, .int v4), (5, .int v5)] → wj_X7_neighbour_66 Q K25 v0 v1 v2 v3 v4 v5 u0 I → W p l e rm_X7_neighbour s m args below meth c H locs 0 0 (MQ below (va_Qi Q (fun I' t => gx_U L 282 (cellX L I') t) (gx_A L)) args s 0 0 (gx_A L)) (F0 m 66 ls [.int u0]) := by
  have hx := C.1
  have hb := C.2.1
  intro v0 v1 v2 v3 v4 v5 u0 hv0 I H locs ls hM hl h
  unfold wj_X7_neighbour_66 at h
  refine lv_istore (lv' := [(6, .int u0), (0, .ref (gx_ad L v0)), (1, .int v1), (2, .int v2), (3, .int v3), (4, .int v4), (5, .int v5)]) hx hb dX7_neighbour_66 hl (by decide) rfl (fun ls hl => ?_)
  refine lv_iload hx hb dX7_neighbour_68 (lv_at hl 0 rfl) ?_
  refine lv_if_le (tgt := 87) hx hb dX7_neighbour_70 (by decide) (fun hc => ?_) (fun hc => ?_)
  · replace h := h.1 hc
    exact tj_X7_neighbour_87 C hK25 v0 v1 v2 v3 v4 v5 (hv0) I _ _ _ hM (lv_sub hl [1, 2, 3, 4, 5, 6] rfl) h
  · replace h := h.2 hc
    refine lv_iload hx hb dX7_neighbour_73 (lv_at hl 0 rfl) ?_
    refine lv_iload hx hb dX7_neighbour_75 (lv_at hl 5 rfl) ?_
    refine lv_icmp_ge (tgt := 87) hx hb dX7_neighbour_77 (by decide) (fun hc => ?_) (fun hc => ?_)
    · replace h := h.1 hc
      exact tj_X7_neighbour_87 C hK25 v0 v1 v2 v3 v4 v5 (hv0) I _ _ _ hM (lv_sub hl [1, 2, 3, 4, 5, 6] rfl) h
    · replace h := h.2 hc
      refine lv_iload hx hb dX7_neighbour_80 (lv_at hl 6 rfl) ?_
      refine lv_istore_n (lv' := [(3, .int v5), (6, .int u0), (0, .ref (gx_ad L v0)), (1, .int v1), (2, .int v2), (4, .int v4), (5, .int v5)]) hx hb dX7_neighbour_82 rfl hl (by decide) rfl (fun ls hl => ?_)
      refine lv_iload hx hb dX7_neighbour_83 (lv_at hl 1 rfl) ?_
      refine lv_istore (lv' := [(4, .int u0), (3, .int v5), (6, .int u0), (0, .ref (gx_ad L v0)), (1, .int v1), (2, .int v2), (5, .int v5)]) hx hb dX7_neighbour_85 hl (by decide) rfl (fun ls hl => ?_)
      exact tj_X7_neighbour_87 C hK25 v0 v1 v2 v5 u0 v5 (hv0) I _ _ _ hM (lv_sub hl [3, 4, 5, 1, 0, 6] rfl) h
set_option maxHeartbeats 4000000 in
set_option maxRecDepth 100000 in
theorem tl_X7_neighbour_25 (C : gx_C L 282 p s m args meth c RX7 cX7_neighbour 7 (some .int)) {Q : Int32 → gx_M → Prop} : ∀ (fu : Nat) (v0 : Nat) (v1 : Int32) (v2 : Int32) (v3 : Int32) (v4 : Int32) (v5 : Int32) (hv0 : kX v0 = 7) (I : gx_M) (H : Heap) (locs : List Loc) (ls : Array Slot), gx_S L 282 (cellX L I) s.heap H locs → lv_has ls 7 [(0, .ref (gx_ad L v0)), (1, .int v1), (2, .int v2), (3, .int v3), (4, .int v4), (5, .int v5)] → wl_X7_neighbour_25 Q fu v0 v1 v2 v3 v4 v5 I → W p l e rm_X7_neighbour s m args below meth c H locs 0 0 (MQ below (va_Qi Q (fun I' t => gx_U L 282 (cellX L I') t) (gx_A L)) args s 0 0 (gx_A L)) (F0 m 25 ls []) := by
  have hx := C.1
  have hb := C.2.1
  intro fu
  induction fu with
  | zero => intros; rename_i h; exact False.elim h
  | succ fu ih =>
    intro v0 v1 v2 v3 v4 v5 hv0 I H locs ls hM hl h
    rw [wl_X7_neighbour_25] at h
    refine lv_iload hx hb dX7_neighbour_25 (lv_at hl 5 rfl) ?_
    refine lv_aload_n hx hb dX7_neighbour_27 rfl (lv_at hl 0 rfl) ?_
    refine gX7_0 C hM hv0 gw_343 dX7_neighbour_28 ?_
    refine gX6_3 C hM (kX_7_0 hv0) gw_180 dX7_neighbour_31 ?_
    refine lv_icmp_ge (tgt := 93) hx hb dX7_neighbour_34 (by decide) (fun hc => ?_) (fun hc => ?_)
    · replace h := h.1 hc
      refine lv_iload_n hx hb dX7_neighbour_93 rfl (lv_at hl 3 rfl) ?_
      exact gq_iret C hM h dX7_neighbour_94
    · replace h := h.2 hc
      refine lv_iload_n hx hb dX7_neighbour_37 rfl (lv_at hl 2 rfl) ?_
      refine lv_if_eq (tgt := 55) hx hb dX7_neighbour_38 (by decide) (fun hc => ?_) (fun hc => ?_)
      · replace h := h.1 hc
        refine lv_iload_n hx hb dX7_neighbour_55 rfl (lv_at hl 1 rfl) ?_
        refine lv_aload_n hx hb dX7_neighbour_56 rfl (lv_at hl 0 rfl) ?_
        refine gX7_0 C hM hv0 gw_343 dX7_neighbour_57 ?_
        refine lv_iload hx hb dX7_neighbour_60 (lv_at hl 5 rfl) ?_
        refine gq_backi C hM (gq_runV (As := [.int v5]) (rest := [.int v1]) C hM (kX_lt (kX_7_0 hv0) (by decide)) (cX_6 (kX_7_0 hv0)) rfl (c_X6_placeOf l L (v0 + 1) (kX_7_0 hv0) v5 I _ h) k_X6_placeOf gw_708 rfl hl.1 rfl (Nat.le_of_ble_eq_true rfl) ⟨⟨rfl, rfl⟩, Nat.le_of_ble_eq_true rfl, Nat.le_of_ble_eq_true rfl⟩ ⟨Nat.zero_le _, Nat.zero_le _⟩ dX7_neighbour_62) (fun r1 I1 H locs h hM => ?_)
        refine lv_isub hx hb dX7_neighbour_65 ?_
        exact tj_X7_neighbour_66 C ih v0 v1 v2 v3 v4 v5 (v1 - r1) (hv0) I1 _ _ _ hM (lv_sub hl [0, 1, 2, 3, 4, 5] rfl) h
      · replace h := h.2 hc
        refine lv_aload_n hx hb dX7_neighbour_41 rfl (lv_at hl 0 rfl) ?_
        refine gX7_0 C hM hv0 gw_343 dX7_neighbour_42 ?_
        refine lv_iload hx hb dX7_neighbour_45 (lv_at hl 5 rfl) ?_
        refine gq_backi C hM (gq_runV (As := [.int v5]) (rest := []) C hM (kX_lt (kX_7_0 hv0) (by decide)) (cX_6 (kX_7_0 hv0)) rfl (c_X6_placeOf l L (v0 + 1) (kX_7_0 hv0) v5 I _ h) k_X6_placeOf gw_708 rfl hl.1 rfl (Nat.le_of_ble_eq_true rfl) ⟨⟨rfl, rfl⟩, Nat.le_of_ble_eq_true rfl, Nat.le_of_ble_eq_true rfl⟩ ⟨Nat.zero_le _, Nat.zero_le _⟩ dX7_neighbour_47) (fun r2 I2 H locs h hM => ?_)
        refine lv_iload_n hx hb dX7_neighbour_50 rfl (lv_at hl 1 rfl) ?_
        refine lv_isub hx hb dX7_neighbour_51 ?_
        refine lv_goto (tgt := 66) hx hb dX7_neighbour_52 (by decide) ?_
        exact tj_X7_neighbour_66 C ih v0 v1 v2 v3 v4 v5 (r2 - v1) (hv0) I2 _ _ _ hM (lv_sub hl [0, 1, 2, 3, 4, 5] rfl) h
set_option maxHeartbeats 4000000 in
set_option maxRecDepth 100000 in
theorem c_X7_neighbour (l : Launch) (L : gx_L) (a0 : Nat) (hk0 : kX a0 = 7) (p0 : Int32) (p1 : Int32) (I : gx_M) (Q : Int32 → gx_M → Prop) (h : wp_X7_neighbour a0 p0 p1 I Q) : Met l yX7_neighbour (gx_w yX7_neighbour cX7_neighbour 7 (some .int)) rm_X7_neighbour (va_Pc [.ref (gx_ad L a0), .int p0, .int p1] (gx_U L 282 (cellX L I))) (va_Qi Q (fun I' t => gx_U L 282 (cellX L I') t) (gx_A L)) 0 0 (gx_A L) := by
  refine gq_enter (by decide) (Nat.le_of_ble_eq_true rfl) (fun p e s m below meth c ls C hM hl => ?_)
  have C : gx_C L 282 p s m _ meth c RX7 cX7_neighbour 7 (some .int) := C
  have hl : lv_has ls 7 [(0, .ref (gx_ad L a0)), (1, .int p0), (2, .int p1)] := hl
  have hx := C.1
  have hb := C.2.1
  unfold wp_X7_neighbour at h
  refine lv_iload_n hx hb dX7_neighbour_0 rfl (lv_at hl 1 rfl) ?_
  refine lv_iconst (v := (0 : Int32)) hx hb dX7_neighbour_1 (by decide) ?_
  refine lv_sipush (v := (1000 : Int32)) hx hb dX7_neighbour_2 (by decide) ?_
  refine gq_backi C hM (gq_runS (As := [.int p0, .int (0 : Int32), .int (1000 : Int32)]) (rest := []) C hM (c_X7_isWithin l L p0 (0 : Int32) (1000 : Int32) I _ h) k_X7_isWithin gw_372 rfl hl.1 rfl (Nat.le_of_ble_eq_true rfl) ⟨⟨rfl, rfl⟩, Nat.le_of_ble_eq_true rfl, Nat.le_of_ble_eq_true rfl⟩ ⟨Nat.zero_le _, Nat.zero_le _⟩ dX7_neighbour_5) (fun r1 I1 H locs h hM => ?_)
  obtain ⟨hz1, h⟩ := h
  refine lv_if_ne (tgt := 14) hx hb dX7_neighbour_8 (by decide) (fun hc => ?_) (fun hc => ?_)
  · replace h := h.2 hc
    refine gq_ldc (v := (-1000004 : Int32)) C gw_429 dX7_neighbour_14 ?_
    refine lv_istore_n (lv' := [(3, .int (-1000004 : Int32)), (0, .ref (gx_ad L a0)), (1, .int p0), (2, .int p1)]) hx hb dX7_neighbour_16 rfl hl (by decide) rfl (fun ls hl => ?_)
    refine lv_sipush (v := (1001 : Int32)) hx hb dX7_neighbour_17 (by decide) ?_
    refine lv_istore (lv' := [(4, .int (1001 : Int32)), (3, .int (-1000004 : Int32)), (0, .ref (gx_ad L a0)), (1, .int p0), (2, .int p1)]) hx hb dX7_neighbour_20 hl (by decide) rfl (fun ls hl => ?_)
    refine lv_iconst (v := (0 : Int32)) hx hb dX7_neighbour_22 (by decide) ?_
    refine lv_istore (lv' := [(5, .int (0 : Int32)), (4, .int (1001 : Int32)), (3, .int (-1000004 : Int32)), (0, .ref (gx_ad L a0)), (1, .int p0), (2, .int p1)]) hx hb dX7_neighbour_23 hl (by decide) rfl (fun ls hl => ?_)
    obtain ⟨fu, h⟩ := h
    exact tl_X7_neighbour_25 C fu a0 p0 p1 (-1000004 : Int32) (1001 : Int32) (0 : Int32) (hk0) I1 _ _ _ hM (lv_sub hl [3, 4, 5, 2, 1, 0] rfl) h
  · replace h := h.1 hc
    refine gq_ldc (v := (-1000002 : Int32)) C gw_375 dX7_neighbour_11 ?_
    exact gq_iret C hM h dX7_neighbour_13
theorem k_X7_neighbour : gx_kV yX7_neighbour cX7_neighbour 7 (some .int) 2 := ⟨⟨gw_707, gw_58, by decide, by decide, by decide +kernel⟩, gw_705, gw_706⟩
abbrev rm_X7_next : Room := { frames := 6, cells := 0, slots := 0, locals := 136 }
set_option maxHeartbeats 4000000 in
set_option maxRecDepth 100000 in
theorem c_X7_next (l : Launch) (L : gx_L) (a0 : Nat) (hk0 : kX a0 = 7) (I : gx_M) (Q : Int32 → gx_M → Prop) (h : wp_X7_next a0 I Q) : Met l yX7_next (gx_w yX7_next cX7_next 2 (some .int)) rm_X7_next (va_Pc [.ref (gx_ad L a0)] (gx_U L 282 (cellX L I))) (va_Qi Q (fun I' t => gx_U L 282 (cellX L I') t) (gx_A L)) 0 0 (gx_A L) := by
  refine gq_enter (by decide) (Nat.le_of_ble_eq_true rfl) (fun p e s m below meth c ls C hM hl => ?_)
  have C : gx_C L 282 p s m _ meth c RX7 cX7_next 2 (some .int) := C
  have hl : lv_has ls 2 [(0, .ref (gx_ad L a0))] := hl
  have hx := C.1
  have hb := C.2.1
  unfold wp_X7_next at h
  refine lv_aload_n hx hb dX7_next_0 rfl (lv_at hl 0 rfl) ?_
  refine gX7_0 C hM hk0 gw_343 dX7_next_1 ?_
  refine gX6_1 C hM (kX_7_0 hk0) gw_176 dX7_next_4 ?_
  refine gX5_1 C hM (kX_6_1 (kX_7_0 hk0)) gw_99 dX7_next_7 ?_
  refine lv_if_ne (tgt := 16) hx hb dX7_next_10 (by decide) (fun hc => ?_) (fun hc => ?_)
  · replace h := h.2 hc
    refine lv_aload_n hx hb dX7_next_16 rfl (lv_at hl 0 rfl) ?_
    refine gX7_3 C hM hk0 gw_346 dX7_next_17 ?_
    refine lv_aload_n hx hb dX7_next_20 rfl (lv_at hl 0 rfl) ?_
    refine gX7_0 C hM hk0 gw_343 dX7_next_21 ?_
    refine gq_backv C hM (gq_runV (As := [.ref (gx_ad L (a0 + 1))]) (rest := []) C hM (kX_lt (kX_7_3 hk0) (by decide)) (cX_0 (kX_7_3 hk0)) rfl (c_X0_add l L (a0 + 77) (kX_7_3 hk0) (a0 + 1) (kX_7_0 hk0) I _ h) k_X0_add gw_393 rfl hl.1 rfl (Nat.le_of_ble_eq_true rfl) ⟨⟨rfl, rfl⟩, Nat.le_of_ble_eq_true rfl, Nat.le_of_ble_eq_true rfl⟩ ⟨Nat.zero_le _, Nat.zero_le _⟩ dX7_next_24) (fun I1 H locs h hM => ?_)
    refine lv_aload_n hx hb dX7_next_27 rfl (lv_at hl 0 rfl) ?_
    refine gX7_6 C hM hk0 gw_349 dX7_next_28 ?_
    refine lv_aload_n hx hb dX7_next_31 rfl (lv_at hl 0 rfl) ?_
    refine gX7_0 C hM hk0 gw_343 dX7_next_32 ?_
    refine gq_backv C hM (gq_runV (As := [.ref (gx_ad L (a0 + 1))]) (rest := []) C hM (kX_lt (kX_7_6 hk0) (by decide)) (cX_3 (kX_7_6 hk0)) rfl (c_X3_begin l L (a0 + 273) (kX_7_6 hk0) (a0 + 1) (kX_7_0 hk0) I1 _ h) k_X3_begin gw_549 rfl hl.1 rfl (Nat.le_of_ble_eq_true rfl) ⟨⟨rfl, rfl⟩, Nat.le_of_ble_eq_true rfl, Nat.le_of_ble_eq_true rfl⟩ ⟨Nat.zero_le _, Nat.zero_le _⟩ dX7_next_35) (fun I2 H locs h hM => ?_)
    refine lv_aload_n hx hb dX7_next_38 rfl (lv_at hl 0 rfl) ?_
    refine gX7_6 C hM hk0 gw_349 dX7_next_39 ?_
    refine lv_aload_n hx hb dX7_next_42 rfl (lv_at hl 0 rfl) ?_
    refine gX7_0 C hM hk0 gw_343 dX7_next_43 ?_
    refine gq_backv C hM (gq_runV (As := [.ref (gx_ad L (a0 + 1))]) (rest := []) C hM (kX_lt (kX_7_6 hk0) (by decide)) (cX_3 (kX_7_6 hk0)) rfl (c_X3_goOn l L (a0 + 273) (kX_7_6 hk0) (a0 + 1) (kX_7_0 hk0) I2 _ h) k_X3_goOn gw_553 rfl hl.1 rfl (Nat.le_of_ble_eq_true rfl) ⟨⟨rfl, rfl⟩, Nat.le_of_ble_eq_true rfl, Nat.le_of_ble_eq_true rfl⟩ ⟨Nat.zero_le _, Nat.zero_le _⟩ dX7_next_46) (fun I3 H locs h hM => ?_)
    refine lv_aload_n hx hb dX7_next_49 rfl (lv_at hl 0 rfl) ?_
    refine gX7_0 C hM hk0 gw_343 dX7_next_50 ?_
    refine gX6_1 C hM (kX_7_0 hk0) gw_176 dX7_next_53 ?_
    refine lv_aload_n hx hb dX7_next_56 rfl (lv_at hl 0 rfl) ?_
    refine gX7_6 C hM hk0 gw_349 dX7_next_57 ?_
    refine gX3_1 C hM (kX_7_6 hk0) gw_263 dX7_next_60 ?_
    refine lv_iconst (v := (0 : Int32)) hx hb dX7_next_63 (by decide) ?_
    refine gq_backi C hM (gq_runV (As := [.int (I3 (a0 + 273) 1), .int (0 : Int32)]) (rest := []) C hM (kX_lt (kX_6_1 (kX_7_0 hk0)) (by decide)) (cX_5 (kX_6_1 (kX_7_0 hk0))) rfl (c_X5_at l L ((a0 + 1) + 2) (kX_6_1 (kX_7_0 hk0)) (I3 (a0 + 273) 1) (0 : Int32) I3 _ h) k_X5_at gw_570 rfl hl.1 rfl (Nat.le_of_ble_eq_true rfl) ⟨⟨rfl, rfl⟩, Nat.le_of_ble_eq_true rfl, Nat.le_of_ble_eq_true rfl⟩ ⟨Nat.zero_le _, Nat.zero_le _⟩ dX7_next_64) (fun r1 I4 H locs h hM => ?_)
    refine lv_istore_n (lv' := [(1, .int r1), (0, .ref (gx_ad L a0))]) hx hb dX7_next_67 rfl hl (by decide) rfl (fun ls hl => ?_)
    refine lv_aload_n hx hb dX7_next_68 rfl (lv_at hl 1 rfl) ?_
    refine lv_aload_n hx hb dX7_next_69 rfl (lv_at hl 1 rfl) ?_
    refine gX7_6 C hM hk0 gw_349 dX7_next_70 ?_
    refine gX3_1 C hM (kX_7_6 hk0) gw_263 dX7_next_73 ?_
    refine gq_backv C hM (gq_runV (As := [.int (I4 (a0 + 273) 1)]) (rest := []) C hM (kX_lt hk0 (by decide)) (cX_7 hk0) rfl (c_X7_doJob l L a0 hk0 (I4 (a0 + 273) 1) I4 _ h) k_X7_doJob gw_571 rfl hl.1 rfl (Nat.le_of_ble_eq_true rfl) ⟨⟨rfl, rfl⟩, Nat.le_of_ble_eq_true rfl, Nat.le_of_ble_eq_true rfl⟩ ⟨Nat.zero_le _, Nat.zero_le _⟩ dX7_next_76) (fun I5 H locs h hM => ?_)
    refine lv_iload_n hx hb dX7_next_79 rfl (lv_at hl 0 rfl) ?_
    exact gq_iret C hM h dX7_next_80
  · replace h := h.1 hc
    refine gq_ldc (v := (-1000004 : Int32)) C gw_429 dX7_next_13 ?_
    exact gq_iret C hM h dX7_next_15
theorem k_X7_next : gx_kV yX7_next cX7_next 2 (some .int) 0 := ⟨⟨gw_548, gw_58, by decide, by decide, by decide +kernel⟩, gw_546, gw_547⟩
abbrev rm_X7_principal : Room := { frames := 5, cells := 0, slots := 0, locals := 110 }
set_option maxHeartbeats 4000000 in
set_option maxRecDepth 100000 in
theorem c_X7_principal (l : Launch) (L : gx_L) (a0 : Nat) (hk0 : kX a0 = 7) (p0 : Int32) (p1 : Int32) (I : gx_M) (Q : Int32 → gx_M → Prop) (h : wp_X7_principal a0 p0 p1 I Q) : Met l yX7_principal (gx_w yX7_principal cX7_principal 4 (some .int)) rm_X7_principal (va_Pc [.ref (gx_ad L a0), .int p0, .int p1] (gx_U L 282 (cellX L I))) (va_Qi Q (fun I' t => gx_U L 282 (cellX L I') t) (gx_A L)) 0 0 (gx_A L) := by
  refine gq_enter (by decide) (Nat.le_of_ble_eq_true rfl) (fun p e s m below meth c ls C hM hl => ?_)
  have C : gx_C L 282 p s m _ meth c RX7 cX7_principal 4 (some .int) := C
  have hl : lv_has ls 4 [(0, .ref (gx_ad L a0)), (1, .int p0), (2, .int p1)] := hl
  have hx := C.1
  have hb := C.2.1
  unfold wp_X7_principal at h
  refine lv_aload_n hx hb dX7_principal_0 rfl (lv_at hl 0 rfl) ?_
  refine gX7_0 C hM hk0 gw_343 dX7_principal_1 ?_
  refine lv_iload_n hx hb dX7_principal_4 rfl (lv_at hl 1 rfl) ?_
  refine gq_backe C hM (gq_runV (As := [.int p0]) (rest := []) C hM (kX_lt (kX_7_0 hk0) (by decide)) (cX_6 (kX_7_0 hk0)) rfl (c_X6_find l L (a0 + 1) (kX_7_0 hk0) p0 I _ h) k_X6_find gw_424 rfl hl.1 rfl (Nat.le_of_ble_eq_true rfl) ⟨⟨rfl, rfl⟩, Nat.le_of_ble_eq_true rfl, Nat.le_of_ble_eq_true rfl⟩ ⟨Nat.zero_le _, Nat.zero_le _⟩ dX7_principal_5) (fun r1 I1 H locs h hM => ?_)
  obtain ⟨hk1, h⟩ := h
  rcases r1 with _ | b1
  · replace h := h.1 rfl
    refine W.eq (g2 := F0 m 8 ls [.null]) rfl ?_
    refine lv_astore_nN (lv' := [(3, .null), (0, .ref (gx_ad L a0)), (1, .int p0), (2, .int p1)]) hx hb dX7_principal_8 rfl hl (by decide) rfl (fun ls hl => ?_)
    refine lv_aload_nN hx hb dX7_principal_9 rfl (lv_at hl 0 rfl) ?_
    refine lv_ifnonnullN hx hb dX7_principal_10 ?_
    refine gq_ldc (v := (-1000001 : Int32)) C gw_425 dX7_principal_13 ?_
    exact gq_iret C hM h dX7_principal_15
  · have hk := hk1 b1 rfl
    replace h := h.2 b1 rfl hk
    have hk2 := hk
    refine W.eq (g2 := F0 m 8 ls [.ref (gx_ad L b1)]) rfl ?_
    refine lv_astore_n (lv' := [(3, .ref (gx_ad L b1)), (0, .ref (gx_ad L a0)), (1, .int p0), (2, .int p1)]) hx hb dX7_principal_8 rfl hl (by decide) rfl (fun ls hl => ?_)
    refine lv_aload_n hx hb dX7_principal_9 rfl (lv_at hl 0 rfl) ?_
    refine lv_ifnonnull (tgt := 16) hx hb dX7_principal_10 (by decide) ?_
    refine lv_aload_n hx hb dX7_principal_16 rfl (lv_at hl 1 rfl) ?_
    refine gX7_7 C hM hk0 gw_350 dX7_principal_17 ?_
    refine lv_aload_n hx hb dX7_principal_20 rfl (lv_at hl 0 rfl) ?_
    refine lv_aload_n hx hb dX7_principal_21 rfl (lv_at hl 1 rfl) ?_
    refine gX7_0 C hM hk0 gw_343 dX7_principal_22 ?_
    refine gX6_4 C hM (kX_7_0 hk0) gw_182 dX7_principal_25 ?_
    refine gq_backv C hM (gq_runV (As := [.ref (gx_ad L b1), .int (I1 (a0 + 1) 4)]) (rest := []) C hM (kX_lt (kX_7_7 hk0) (by decide)) (cX_2 (kX_7_7 hk0)) rfl (c_X2_take l L (a0 + 275) (kX_7_7 hk0) b1 hk2 (I1 (a0 + 1) 4) I1 _ h) k_X2_take gw_430 rfl hl.1 rfl (Nat.le_of_ble_eq_true rfl) ⟨⟨rfl, rfl⟩, Nat.le_of_ble_eq_true rfl, Nat.le_of_ble_eq_true rfl⟩ ⟨Nat.zero_le _, Nat.zero_le _⟩ dX7_principal_28) (fun I2 H locs h hM => ?_)
    refine lv_iload_n hx hb dX7_principal_31 rfl (lv_at hl 3 rfl) ?_
    by_cases hs0 : p1 = (0 : Int32)
    · replace h := h.1 hs0
      refine lv_tableIn (tgt := 80) hx hb dX7_principal_32 (by rw [hs0]; decide) (by rw [hs0]; decide) (by rw [hs0]; rfl) (by decide) ?_
      refine lv_aload_n hx hb dX7_principal_80 rfl (lv_at hl 1 rfl) ?_
      refine gX7_7 C hM hk0 gw_350 dX7_principal_81 ?_
      refine gX2_12 C hM (kX_7_7 hk0) gw_307 dX7_principal_84 ?_
      refine lv_aload_n hx hb dX7_principal_87 rfl (lv_at hl 1 rfl) ?_
      refine gX7_7 C hM hk0 gw_350 dX7_principal_88 ?_
      refine gX2_14 C hM (kX_7_7 hk0) gw_311 dX7_principal_91 ?_
      refine lv_iadd hx hb dX7_principal_94 ?_
      exact gq_iret C hM h dX7_principal_95
    by_cases hs1 : p1 = (1 : Int32)
    · replace h := h.2.1 hs1
      refine lv_tableIn (tgt := 96) hx hb dX7_principal_32 (by rw [hs1]; decide) (by rw [hs1]; decide) (by rw [hs1]; rfl) (by decide) ?_
      refine lv_aload_n hx hb dX7_principal_96 rfl (lv_at hl 1 rfl) ?_
      refine gX7_7 C hM hk0 gw_350 dX7_principal_97 ?_
      refine gX2_12 C hM (kX_7_7 hk0) gw_307 dX7_principal_100 ?_
      refine lv_aload_n hx hb dX7_principal_103 rfl (lv_at hl 1 rfl) ?_
      refine gX7_7 C hM hk0 gw_350 dX7_principal_104 ?_
      refine gX2_14 C hM (kX_7_7 hk0) gw_311 dX7_principal_107 ?_
      refine lv_isub hx hb dX7_principal_110 ?_
      exact gq_iret C hM h dX7_principal_111
    by_cases hs2 : p1 = (2 : Int32)
    · replace h := h.2.2.1 hs2
      refine lv_tableIn (tgt := 112) hx hb dX7_principal_32 (by rw [hs2]; decide) (by rw [hs2]; decide) (by rw [hs2]; rfl) (by decide) ?_
      refine lv_aload_n hx hb dX7_principal_112 rfl (lv_at hl 1 rfl) ?_
      refine gX7_7 C hM hk0 gw_350 dX7_principal_113 ?_
      refine gX2_13 C hM (kX_7_7 hk0) gw_309 dX7_principal_116 ?_
      exact gq_iret C hM h dX7_principal_119
    by_cases hs3 : p1 = (3 : Int32)
    · replace h := h.2.2.2.1 hs3
      refine lv_tableIn (tgt := 120) hx hb dX7_principal_32 (by rw [hs3]; decide) (by rw [hs3]; decide) (by rw [hs3]; rfl) (by decide) ?_
      refine lv_aload_n hx hb dX7_principal_120 rfl (lv_at hl 1 rfl) ?_
      refine gX7_7 C hM hk0 gw_350 dX7_principal_121 ?_
      refine gX2_14 C hM (kX_7_7 hk0) gw_311 dX7_principal_124 ?_
      exact gq_iret C hM h dX7_principal_127
    by_cases hs4 : p1 = (4 : Int32)
    · replace h := h.2.2.2.2.1 hs4
      refine lv_tableIn (tgt := 128) hx hb dX7_principal_32 (by rw [hs4]; decide) (by rw [hs4]; decide) (by rw [hs4]; rfl) (by decide) ?_
      refine lv_aload_n hx hb dX7_principal_128 rfl (lv_at hl 1 rfl) ?_
      refine gX7_7 C hM hk0 gw_350 dX7_principal_129 ?_
      refine gX2_9 C hM (kX_7_7 hk0) gw_301 dX7_principal_132 ?_
      exact gq_iret C hM h dX7_principal_135
    by_cases hs5 : p1 = (5 : Int32)
    · replace h := h.2.2.2.2.2.1 hs5
      refine lv_tableIn (tgt := 136) hx hb dX7_principal_32 (by rw [hs5]; decide) (by rw [hs5]; decide) (by rw [hs5]; rfl) (by decide) ?_
      refine lv_aload_n hx hb dX7_principal_136 rfl (lv_at hl 1 rfl) ?_
      refine gX7_7 C hM hk0 gw_350 dX7_principal_137 ?_
      refine gX2_10 C hM (kX_7_7 hk0) gw_303 dX7_principal_140 ?_
      exact gq_iret C hM h dX7_principal_143
    by_cases hs6 : p1 = (6 : Int32)
    · replace h := h.2.2.2.2.2.2.1 hs6
      refine lv_tableIn (tgt := 144) hx hb dX7_principal_32 (by rw [hs6]; decide) (by rw [hs6]; decide) (by rw [hs6]; rfl) (by decide) ?_
      refine lv_aload_n hx hb dX7_principal_144 rfl (lv_at hl 1 rfl) ?_
      refine gX7_7 C hM hk0 gw_350 dX7_principal_145 ?_
      refine gX2_11 C hM (kX_7_7 hk0) gw_305 dX7_principal_148 ?_
      exact gq_iret C hM h dX7_principal_151
    by_cases hs7 : p1 = (7 : Int32)
    · replace h := h.2.2.2.2.2.2.2.1 hs7
      refine lv_tableIn (tgt := 152) hx hb dX7_principal_32 (by rw [hs7]; decide) (by rw [hs7]; decide) (by rw [hs7]; rfl) (by decide) ?_
      refine lv_aload_n hx hb dX7_principal_152 rfl (lv_at hl 1 rfl) ?_
      refine gX7_7 C hM hk0 gw_350 dX7_principal_153 ?_
      refine gX2_12 C hM (kX_7_7 hk0) gw_307 dX7_principal_156 ?_
      exact gq_iret C hM h dX7_principal_159
    replace h := h.2.2.2.2.2.2.2.2 hs0 hs1 hs2 hs3 hs4 hs5 hs6 hs7
    refine lv_tableOut (tgt := 160) hx hb dX7_principal_32 (by have q0 := lv_neT (a := 0) hs0 (by decide); have q1 := lv_neT (a := 1) hs1 (by decide); have q2 := lv_neT (a := 2) hs2 (by decide); have q3 := lv_neT (a := 3) hs3 (by decide); have q4 := lv_neT (a := 4) hs4 (by decide); have q5 := lv_neT (a := 5) hs5 (by decide); have q6 := lv_neT (a := 6) hs6 (by decide); have q7 := lv_neT (a := 7) hs7 (by decide); omega) (by decide) ?_
    refine gq_ldc (v := (-1000002 : Int32)) C gw_375 dX7_principal_160 ?_
    exact gq_iret C hM h dX7_principal_162
theorem k_X7_principal : gx_kV yX7_principal cX7_principal 4 (some .int) 2 := ⟨⟨gw_689, gw_58, by decide, by decide, by decide +kernel⟩, gw_687, gw_688⟩
abbrev rm_X7_pull : Room := { frames := 5, cells := 0, slots := 0, locals := 110 }
set_option maxHeartbeats 4000000 in
set_option maxRecDepth 100000 in
theorem c_X7_pull (l : Launch) (L : gx_L) (a0 : Nat) (hk0 : kX a0 = 7) (p0 : Int32) (p1 : Int32) (I : gx_M) (Q : Int32 → gx_M → Prop) (h : wp_X7_pull a0 p0 p1 I Q) : Met l yX7_pull (gx_w yX7_pull cX7_pull 4 (some .int)) rm_X7_pull (va_Pc [.ref (gx_ad L a0), .int p0, .int p1] (gx_U L 282 (cellX L I))) (va_Qi Q (fun I' t => gx_U L 282 (cellX L I') t) (gx_A L)) 0 0 (gx_A L) := by
  refine gq_enter (by decide) (Nat.le_of_ble_eq_true rfl) (fun p e s m below meth c ls C hM hl => ?_)
  have C : gx_C L 282 p s m _ meth c RX7 cX7_pull 4 (some .int) := C
  have hl : lv_has ls 4 [(0, .ref (gx_ad L a0)), (1, .int p0), (2, .int p1)] := hl
  have hx := C.1
  have hb := C.2.1
  unfold wp_X7_pull at h
  refine lv_aload_n hx hb dX7_pull_0 rfl (lv_at hl 0 rfl) ?_
  refine gX7_0 C hM hk0 gw_343 dX7_pull_1 ?_
  refine lv_iload_n hx hb dX7_pull_4 rfl (lv_at hl 1 rfl) ?_
  refine gq_backe C hM (gq_runV (As := [.int p0]) (rest := []) C hM (kX_lt (kX_7_0 hk0) (by decide)) (cX_6 (kX_7_0 hk0)) rfl (c_X6_find l L (a0 + 1) (kX_7_0 hk0) p0 I _ h) k_X6_find gw_424 rfl hl.1 rfl (Nat.le_of_ble_eq_true rfl) ⟨⟨rfl, rfl⟩, Nat.le_of_ble_eq_true rfl, Nat.le_of_ble_eq_true rfl⟩ ⟨Nat.zero_le _, Nat.zero_le _⟩ dX7_pull_5) (fun r1 I1 H locs h hM => ?_)
  obtain ⟨hk1, h⟩ := h
  rcases r1 with _ | b1
  · replace h := h.1 rfl
    refine W.eq (g2 := F0 m 8 ls [.null]) rfl ?_
    refine lv_astore_nN (lv' := [(3, .null), (0, .ref (gx_ad L a0)), (1, .int p0), (2, .int p1)]) hx hb dX7_pull_8 rfl hl (by decide) rfl (fun ls hl => ?_)
    refine lv_aload_nN hx hb dX7_pull_9 rfl (lv_at hl 0 rfl) ?_
    refine lv_ifnonnullN hx hb dX7_pull_10 ?_
    refine gq_ldc (v := (-1000001 : Int32)) C gw_425 dX7_pull_13 ?_
    exact gq_iret C hM h dX7_pull_15
  · have hk := hk1 b1 rfl
    replace h := h.2 b1 rfl hk
    have hk2 := hk
    refine W.eq (g2 := F0 m 8 ls [.ref (gx_ad L b1)]) rfl ?_
    refine lv_astore_n (lv' := [(3, .ref (gx_ad L b1)), (0, .ref (gx_ad L a0)), (1, .int p0), (2, .int p1)]) hx hb dX7_pull_8 rfl hl (by decide) rfl (fun ls hl => ?_)
    refine lv_aload_n hx hb dX7_pull_9 rfl (lv_at hl 0 rfl) ?_
    refine lv_ifnonnull (tgt := 16) hx hb dX7_pull_10 (by decide) ?_
    refine lv_iload_n hx hb dX7_pull_16 rfl (lv_at hl 3 rfl) ?_
    refine lv_iconst (v := (0 : Int32)) hx hb dX7_pull_17 (by decide) ?_
    refine lv_bipush (v := (23 : Int32)) hx hb dX7_pull_18 (by decide) ?_
    refine gq_backi C hM (gq_runS (As := [.int p1, .int (0 : Int32), .int (23 : Int32)]) (rest := []) C hM (c_X7_isWithin l L p1 (0 : Int32) (23 : Int32) I1 _ h) k_X7_isWithin gw_372 rfl hl.1 rfl (Nat.le_of_ble_eq_true rfl) ⟨⟨rfl, rfl⟩, Nat.le_of_ble_eq_true rfl, Nat.le_of_ble_eq_true rfl⟩ ⟨Nat.zero_le _, Nat.zero_le _⟩ dX7_pull_20) (fun r2 I2 H locs h hM => ?_)
    obtain ⟨hz1, h⟩ := h
    refine lv_if_ne (tgt := 29) hx hb dX7_pull_23 (by decide) (fun hc => ?_) (fun hc => ?_)
    · replace h := h.2 hc
      refine lv_aload_n hx hb dX7_pull_29 rfl (lv_at hl 1 rfl) ?_
      refine gX7_7 C hM hk0 gw_350 dX7_pull_30 ?_
      refine lv_aload_n hx hb dX7_pull_33 rfl (lv_at hl 0 rfl) ?_
      refine lv_aload_n hx hb dX7_pull_34 rfl (lv_at hl 1 rfl) ?_
      refine gX7_0 C hM hk0 gw_343 dX7_pull_35 ?_
      refine gX6_4 C hM (kX_7_0 hk0) gw_182 dX7_pull_38 ?_
      refine gq_backv C hM (gq_runV (As := [.ref (gx_ad L b1), .int (I2 (a0 + 1) 4)]) (rest := []) C hM (kX_lt (kX_7_7 hk0) (by decide)) (cX_2 (kX_7_7 hk0)) rfl (c_X2_take l L (a0 + 275) (kX_7_7 hk0) b1 hk2 (I2 (a0 + 1) 4) I2 _ h) k_X2_take gw_430 rfl hl.1 rfl (Nat.le_of_ble_eq_true rfl) ⟨⟨rfl, rfl⟩, Nat.le_of_ble_eq_true rfl, Nat.le_of_ble_eq_true rfl⟩ ⟨Nat.zero_le _, Nat.zero_le _⟩ dX7_pull_41) (fun I3 H locs h hM => ?_)
      refine lv_aload_n hx hb dX7_pull_44 rfl (lv_at hl 1 rfl) ?_
      refine gX7_7 C hM hk0 gw_350 dX7_pull_45 ?_
      refine lv_iload_n hx hb dX7_pull_48 rfl (lv_at hl 3 rfl) ?_
      refine gq_backl C hM (gq_runV (As := [.int p1]) (rest := []) C hM (kX_lt (kX_7_7 hk0) (by decide)) (cX_2 (kX_7_7 hk0)) rfl (c_X2_pullTo l L (a0 + 275) (kX_7_7 hk0) p1 I3 _ h) k_X2_pullTo gw_694 rfl hl.1 rfl (Nat.le_of_ble_eq_true rfl) ⟨⟨rfl, rfl⟩, Nat.le_of_ble_eq_true rfl, Nat.le_of_ble_eq_true rfl⟩ ⟨Nat.zero_le _, Nat.zero_le _⟩ dX7_pull_49) (fun r3 I4 H locs h hM => ?_)
      refine gq_ldc2 (v := (20000 : Int64)) C gw_695 dX7_pull_52 ?_
      refine lv_ldiv hx hb dX7_pull_55 (by decide) ?_
      refine lv_l2i hx hb dX7_pull_56 rfl ?_
      exact gq_iret C hM h dX7_pull_57
    · replace h := h.1 hc
      refine gq_ldc (v := (-1000002 : Int32)) C gw_375 dX7_pull_26 ?_
      exact gq_iret C hM h dX7_pull_28
theorem k_X7_pull : gx_kV yX7_pull cX7_pull 4 (some .int) 2 := ⟨⟨gw_693, gw_58, by decide, by decide, by decide +kernel⟩, gw_691, gw_692⟩
abbrev rm_X7_readJobs : Room := { frames := 5, cells := 0, slots := 0, locals := 110 }
set_option maxHeartbeats 4000000 in
set_option maxRecDepth 100000 in
theorem tl_X7_readJobs_100 (C : gx_C L 282 p s m args meth c RX7 cX7_readJobs 4 (some .int)) {Q : Int32 → gx_M → Prop} : ∀ (fu : Nat) (v0 : Nat) (v2 : Nat) (v3 : Int32) (hv0 : kX v0 = 7) (hv2 : kX v2 = 5) (I : gx_M) (H : Heap) (locs : List Loc) (ls : Array Slot), gx_S L 282 (cellX L I) s.heap H locs → lv_has ls 4 [(0, .ref (gx_ad L v0)), (2, .ref (gx_ad L v2)), (3, .int v3)] → wl_X7_readJobs_100 Q fu v0 v2 v3 I → W p l e rm_X7_readJobs s m args below meth c H locs 0 0 (MQ below (va_Qi Q (fun I' t => gx_U L 282 (cellX L I') t) (gx_A L)) args s 0 0 (gx_A L)) (F0 m 100 ls []) := by
  have hx := C.1
  have hb := C.2.1
  intro fu
  induction fu with
  | zero => intros; rename_i h; exact False.elim h
  | succ fu ih =>
    intro v0 v2 v3 hv0 hv2 I H locs ls hM hl h
    rw [wl_X7_readJobs_100] at h
    refine lv_iload_n hx hb dX7_readJobs_100 rfl (lv_at hl 2 rfl) ?_
    refine lv_aload_n hx hb dX7_readJobs_101 rfl (lv_at hl 1 rfl) ?_
    refine gX5_1 C hM hv2 gw_99 dX7_readJobs_102 ?_
    refine lv_icmp_ge (tgt := 140) hx hb dX7_readJobs_105 (by decide) (fun hc => ?_) (fun hc => ?_)
    · replace h := h.1 hc
      refine lv_aload_n hx hb dX7_readJobs_140 rfl (lv_at hl 1 rfl) ?_
      refine gX5_1 C hM hv2 gw_99 dX7_readJobs_141 ?_
      exact gq_iret C hM h dX7_readJobs_144
    · replace h := h.2 hc
      refine lv_aload_n hx hb dX7_readJobs_108 rfl (lv_at hl 0 rfl) ?_
      refine gX7_0 C hM hv0 gw_343 dX7_readJobs_109 ?_
      refine lv_aload_n hx hb dX7_readJobs_112 rfl (lv_at hl 1 rfl) ?_
      refine lv_iload_n hx hb dX7_readJobs_113 rfl (lv_at hl 2 rfl) ?_
      refine lv_iconst (v := (1 : Int32)) hx hb dX7_readJobs_114 (by decide) ?_
      refine gq_backi C hM (gq_runV (As := [.int v3, .int (1 : Int32)]) (rest := [.ref (gx_ad L (v0 + 1))]) C hM (kX_lt hv2 (by decide)) (cX_5 hv2) rfl (c_X5_at l L v2 hv2 v3 (1 : Int32) I _ h) k_X5_at gw_570 rfl hl.1 rfl (Nat.le_of_ble_eq_true rfl) ⟨⟨rfl, rfl⟩, Nat.le_of_ble_eq_true rfl, Nat.le_of_ble_eq_true rfl⟩ ⟨Nat.zero_le _, Nat.zero_le _⟩ dX7_readJobs_115) (fun r1 I1 H locs h hM => ?_)
      refine lv_aload_n hx hb dX7_readJobs_118 rfl (lv_at hl 1 rfl) ?_
      refine lv_iload_n hx hb dX7_readJobs_119 rfl (lv_at hl 2 rfl) ?_
      refine lv_iconst (v := (2 : Int32)) hx hb dX7_readJobs_120 (by decide) ?_
      refine gq_backi C hM (gq_runV (As := [.int v3, .int (2 : Int32)]) (rest := [.int r1, .ref (gx_ad L (v0 + 1))]) C hM (kX_lt hv2 (by decide)) (cX_5 hv2) rfl (c_X5_at l L v2 hv2 v3 (2 : Int32) I1 _ h) k_X5_at gw_570 rfl hl.1 rfl (Nat.le_of_ble_eq_true rfl) ⟨⟨rfl, rfl⟩, Nat.le_of_ble_eq_true rfl, Nat.le_of_ble_eq_true rfl⟩ ⟨Nat.zero_le _, Nat.zero_le _⟩ dX7_readJobs_121) (fun r2 I2 H locs h hM => ?_)
      refine lv_aload_n hx hb dX7_readJobs_124 rfl (lv_at hl 1 rfl) ?_
      refine lv_iload_n hx hb dX7_readJobs_125 rfl (lv_at hl 2 rfl) ?_
      refine lv_iconst (v := (3 : Int32)) hx hb dX7_readJobs_126 (by decide) ?_
      refine gq_backi C hM (gq_runV (As := [.int v3, .int (3 : Int32)]) (rest := [.int r2, .int r1, .ref (gx_ad L (v0 + 1))]) C hM (kX_lt hv2 (by decide)) (cX_5 hv2) rfl (c_X5_at l L v2 hv2 v3 (3 : Int32) I2 _ h) k_X5_at gw_570 rfl hl.1 rfl (Nat.le_of_ble_eq_true rfl) ⟨⟨rfl, rfl⟩, Nat.le_of_ble_eq_true rfl, Nat.le_of_ble_eq_true rfl⟩ ⟨Nat.zero_le _, Nat.zero_le _⟩ dX7_readJobs_127) (fun r3 I3 H locs h hM => ?_)
      refine gq_backi C hM (gq_runV (As := [.int r1, .int r2, .int r3]) (rest := []) C hM (kX_lt (kX_7_0 hv0) (by decide)) (cX_6 (kX_7_0 hv0)) rfl (c_X6_addJob l L (v0 + 1) (kX_7_0 hv0) r1 r2 r3 I3 _ h) k_X6_addJob gw_515 rfl hl.1 rfl (Nat.le_of_ble_eq_true rfl) ⟨⟨rfl, rfl⟩, Nat.le_of_ble_eq_true rfl, Nat.le_of_ble_eq_true rfl⟩ ⟨Nat.zero_le _, Nat.zero_le _⟩ dX7_readJobs_130) (fun r4 I4 H locs h hM => ?_)
      refine lv_pop hx hb dX7_readJobs_133 rfl ?_
      obtain ⟨x1, ex1⟩ : ∃ z : Int32, z = v3 + (1 : Int32) := ⟨_, rfl⟩
      replace h := h x1 ex1
      refine lv_iinc (v := x1) (lv' := [(3, .int x1), (0, .ref (gx_ad L v0)), (2, .ref (gx_ad L v2))]) hx hb dX7_readJobs_134 hl (k := 2) rfl (by rw [ex1]; rfl) (by decide) rfl (fun ls hl => ?_)
      refine lv_goto (tgt := 100) hx hb dX7_readJobs_137 (by decide) ?_
      exact ih v0 v2 x1 (hv0) (hv2) I4 _ _ _ hM (lv_sub hl [1, 2, 0] rfl) h
set_option maxHeartbeats 4000000 in
set_option maxRecDepth 100000 in
theorem tl_X7_readJobs_28 (C : gx_C L 282 p s m args meth c RX7 cX7_readJobs 4 (some .int)) {Q : Int32 → gx_M → Prop} : ∀ (fu : Nat) (v0 : Nat) (v2 : Nat) (v3 : Int32) (hv0 : kX v0 = 7) (hv2 : kX v2 = 5) (I : gx_M) (H : Heap) (locs : List Loc) (ls : Array Slot), gx_S L 282 (cellX L I) s.heap H locs → lv_has ls 4 [(0, .ref (gx_ad L v0)), (2, .ref (gx_ad L v2)), (3, .int v3)] → wl_X7_readJobs_28 Q fu v0 v2 v3 I → W p l e rm_X7_readJobs s m args below meth c H locs 0 0 (MQ below (va_Qi Q (fun I' t => gx_U L 282 (cellX L I') t) (gx_A L)) args s 0 0 (gx_A L)) (F0 m 28 ls []) := by
  have hx := C.1
  have hb := C.2.1
  intro fu
  induction fu with
  | zero => intros; rename_i h; exact False.elim h
  | succ fu ih =>
    intro v0 v2 v3 hv0 hv2 I H locs ls hM hl h
    rw [wl_X7_readJobs_28] at h
    refine lv_iload_n hx hb dX7_readJobs_28 rfl (lv_at hl 2 rfl) ?_
    refine lv_aload_n hx hb dX7_readJobs_29 rfl (lv_at hl 1 rfl) ?_
    refine gX5_1 C hM hv2 gw_99 dX7_readJobs_30 ?_
    refine lv_icmp_ge (tgt := 61) hx hb dX7_readJobs_33 (by decide) (fun hc => ?_) (fun hc => ?_)
    · replace h := h.1 hc
      refine lv_aload_n hx hb dX7_readJobs_61 rfl (lv_at hl 0 rfl) ?_
      refine gX7_0 C hM hv0 gw_343 dX7_readJobs_62 ?_
      refine gX6_1 C hM (kX_7_0 hv0) gw_176 dX7_readJobs_65 ?_
      refine gX5_1 C hM (kX_6_1 (kX_7_0 hv0)) gw_99 dX7_readJobs_68 ?_
      refine lv_aload_n hx hb dX7_readJobs_71 rfl (lv_at hl 1 rfl) ?_
      refine gX5_1 C hM hv2 gw_99 dX7_readJobs_72 ?_
      refine lv_iadd hx hb dX7_readJobs_75 ?_
      refine lv_bipush (v := (20 : Int32)) hx hb dX7_readJobs_76 (by decide) ?_
      refine lv_icmp_le (tgt := 87) hx hb dX7_readJobs_78 (by decide) (fun hc => ?_) (fun hc => ?_)
      · replace h := h.1 hc
        refine lv_aload_n hx hb dX7_readJobs_87 rfl (lv_at hl 0 rfl) ?_
        refine gX7_3 C hM hv0 gw_346 dX7_readJobs_88 ?_
        refine lv_aload_n hx hb dX7_readJobs_91 rfl (lv_at hl 0 rfl) ?_
        refine gX7_0 C hM hv0 gw_343 dX7_readJobs_92 ?_
        refine gq_backv C hM (gq_runV (As := [.ref (gx_ad L (v0 + 1))]) (rest := []) C hM (kX_lt (kX_7_3 hv0) (by decide)) (cX_0 (kX_7_3 hv0)) rfl (c_X0_add l L (v0 + 77) (kX_7_3 hv0) (v0 + 1) (kX_7_0 hv0) I _ h) k_X0_add gw_393 rfl hl.1 rfl (Nat.le_of_ble_eq_true rfl) ⟨⟨rfl, rfl⟩, Nat.le_of_ble_eq_true rfl, Nat.le_of_ble_eq_true rfl⟩ ⟨Nat.zero_le _, Nat.zero_le _⟩ dX7_readJobs_95) (fun I1 H locs h hM => ?_)
        refine lv_iconst (v := (0 : Int32)) hx hb dX7_readJobs_98 (by decide) ?_
        refine lv_istore_n (lv' := [(3, .int (0 : Int32)), (0, .ref (gx_ad L v0)), (2, .ref (gx_ad L v2))]) hx hb dX7_readJobs_99 rfl hl (by decide) rfl (fun ls hl => ?_)
        obtain ⟨fu, h⟩ := h
        exact tl_X7_readJobs_100 C fu v0 v2 (0 : Int32) (hv0) (hv2) I1 _ _ _ hM (lv_sub hl [1, 2, 0] rfl) h
      · replace h := h.2 hc
        refine lv_aload_n hx hb dX7_readJobs_81 rfl (lv_at hl 0 rfl) ?_
        refine lv_iconst (v := (1 : Int32)) hx hb dX7_readJobs_82 (by decide) ?_
        refine gq_backi C hM (gq_runV (As := [.int (1 : Int32)]) (rest := []) C hM (kX_lt hv0 (by decide)) (cX_7 hv0) rfl (c_X7_refuse l L v0 hv0 (1 : Int32) I _ h) k_X7_refuse gw_376 rfl hl.1 rfl (Nat.le_of_ble_eq_true rfl) ⟨⟨rfl, rfl⟩, Nat.le_of_ble_eq_true rfl, Nat.le_of_ble_eq_true rfl⟩ ⟨Nat.zero_le _, Nat.zero_le _⟩ dX7_readJobs_83) (fun r1 I2 H locs h hM => ?_)
        exact gq_iret C hM h dX7_readJobs_86
    · replace h := h.2 hc
      refine lv_aload_n hx hb dX7_readJobs_36 rfl (lv_at hl 0 rfl) ?_
      refine gX7_0 C hM hv0 gw_343 dX7_readJobs_37 ?_
      refine lv_aload_n hx hb dX7_readJobs_40 rfl (lv_at hl 1 rfl) ?_
      refine lv_iload_n hx hb dX7_readJobs_41 rfl (lv_at hl 2 rfl) ?_
      refine lv_iconst (v := (2 : Int32)) hx hb dX7_readJobs_42 (by decide) ?_
      refine gq_backi C hM (gq_runV (As := [.int v3, .int (2 : Int32)]) (rest := [.ref (gx_ad L (v0 + 1))]) C hM (kX_lt hv2 (by decide)) (cX_5 hv2) rfl (c_X5_at l L v2 hv2 v3 (2 : Int32) I _ h) k_X5_at gw_570 rfl hl.1 rfl (Nat.le_of_ble_eq_true rfl) ⟨⟨rfl, rfl⟩, Nat.le_of_ble_eq_true rfl, Nat.le_of_ble_eq_true rfl⟩ ⟨Nat.zero_le _, Nat.zero_le _⟩ dX7_readJobs_43) (fun r2 I3 H locs h hM => ?_)
      refine gq_backe C hM (gq_runV (As := [.int r2]) (rest := []) C hM (kX_lt (kX_7_0 hv0) (by decide)) (cX_6 (kX_7_0 hv0)) rfl (c_X6_find l L (v0 + 1) (kX_7_0 hv0) r2 I3 _ h) k_X6_find gw_424 rfl hl.1 rfl (Nat.le_of_ble_eq_true rfl) ⟨⟨rfl, rfl⟩, Nat.le_of_ble_eq_true rfl, Nat.le_of_ble_eq_true rfl⟩ ⟨Nat.zero_le _, Nat.zero_le _⟩ dX7_readJobs_46) (fun r3 I4 H locs h hM => ?_)
      obtain ⟨hk1, h⟩ := h
      rcases r3 with _ | b1
      · replace h := h.1 rfl
        refine W.eq (g2 := F0 m 49 ls [.null]) rfl ?_
        refine lv_ifnonnullN hx hb dX7_readJobs_49 ?_
        refine gq_ldc (v := (-1000001 : Int32)) C gw_425 dX7_readJobs_52 ?_
        exact gq_iret C hM h dX7_readJobs_54
      · have hk := hk1 b1 rfl
        replace h := h.2 b1 rfl hk
        have hk2 := hk
        refine W.eq (g2 := F0 m 49 ls [.ref (gx_ad L b1)]) rfl ?_
        refine lv_ifnonnull (tgt := 55) hx hb dX7_readJobs_49 (by decide) ?_
        obtain ⟨x1, ex1⟩ : ∃ z : Int32, z = v3 + (1 : Int32) := ⟨_, rfl⟩
        replace h := h x1 ex1
        refine lv_iinc (v := x1) (lv' := [(3, .int x1), (0, .ref (gx_ad L v0)), (2, .ref (gx_ad L v2))]) hx hb dX7_readJobs_55 hl (k := 2) rfl (by rw [ex1]; rfl) (by decide) rfl (fun ls hl => ?_)
        refine lv_goto (tgt := 28) hx hb dX7_readJobs_58 (by decide) ?_
        exact ih v0 v2 x1 (hv0) (hv2) I4 _ _ _ hM (lv_sub hl [1, 2, 0] rfl) h
set_option maxHeartbeats 4000000 in
set_option maxRecDepth 100000 in
theorem c_X7_readJobs (l : Launch) (L : gx_L) (a0 : Nat) (hk0 : kX a0 = 7) (I : gx_M) (Q : Int32 → gx_M → Prop) (h : wp_X7_readJobs a0 I Q) : Met l yX7_readJobs (gx_w yX7_readJobs cX7_readJobs 4 (some .int)) rm_X7_readJobs (va_Pc [.ref (gx_ad L a0)] (gx_U L 282 (cellX L I))) (va_Qi Q (fun I' t => gx_U L 282 (cellX L I') t) (gx_A L)) 0 0 (gx_A L) := by
  refine gq_enter (by decide) (Nat.le_of_ble_eq_true rfl) (fun p e s m below meth c ls C hM hl => ?_)
  have C : gx_C L 282 p s m _ meth c RX7 cX7_readJobs 4 (some .int) := C
  have hl : lv_has ls 4 [(0, .ref (gx_ad L a0))] := hl
  have hx := C.1
  have hb := C.2.1
  unfold wp_X7_readJobs at h
  refine lv_aload_n hx hb dX7_readJobs_0 rfl (lv_at hl 0 rfl) ?_
  refine gX7_4 C hM hk0 gw_347 dX7_readJobs_1 ?_
  refine gq_backi C hM (gq_runV (As := []) (rest := []) C hM (kX_lt (kX_7_4 hk0) (by decide)) (cX_1 (kX_7_4 hk0)) rfl (c_X1_findFault l L (a0 + 269) (kX_7_4 hk0) I _ h) k_X1_findFault gw_631 rfl hl.1 rfl (Nat.le_of_ble_eq_true rfl) ⟨⟨rfl, rfl⟩, Nat.le_of_ble_eq_true rfl, Nat.le_of_ble_eq_true rfl⟩ ⟨Nat.zero_le _, Nat.zero_le _⟩ dX7_readJobs_4) (fun r1 I1 H locs h hM => ?_)
  refine lv_istore_n (lv' := [(1, .int r1), (0, .ref (gx_ad L a0))]) hx hb dX7_readJobs_7 rfl hl (by decide) rfl (fun ls hl => ?_)
  refine lv_iload_n hx hb dX7_readJobs_8 rfl (lv_at hl 0 rfl) ?_
  refine lv_iconst (v := (-1 : Int32)) hx hb dX7_readJobs_9 (by decide) ?_
  refine lv_icmp_eq (tgt := 18) hx hb dX7_readJobs_10 (by decide) (fun hc => ?_) (fun hc => ?_)
  · replace h := h.1 hc
    refine lv_aload_n hx hb dX7_readJobs_18 rfl (lv_at hl 1 rfl) ?_
    refine gX7_4 C hM hk0 gw_347 dX7_readJobs_19 ?_
    refine gX1_1 C hM (kX_7_4 hk0) gw_242 dX7_readJobs_22 ?_
    refine lv_astore_n (lv' := [(2, .ref (gx_ad L ((a0 + 269) + 2))), (1, .int r1), (0, .ref (gx_ad L a0))]) hx hb dX7_readJobs_25 rfl hl (by decide) rfl (fun ls hl => ?_)
    refine lv_iconst (v := (0 : Int32)) hx hb dX7_readJobs_26 (by decide) ?_
    refine lv_istore_n (lv' := [(3, .int (0 : Int32)), (2, .ref (gx_ad L ((a0 + 269) + 2))), (1, .int r1), (0, .ref (gx_ad L a0))]) hx hb dX7_readJobs_27 rfl hl (by decide) rfl (fun ls hl => ?_)
    obtain ⟨fu, h⟩ := h
    exact tl_X7_readJobs_28 C fu a0 ((a0 + 269) + 2) (0 : Int32) (hk0) (kX_1_1 (kX_7_4 hk0)) I1 _ _ _ hM (lv_sub hl [3, 1, 0] rfl) h
  · replace h := h.2 hc
    refine lv_bipush (v := (-100 : Int32)) hx hb dX7_readJobs_13 (by decide) ?_
    refine lv_iload_n hx hb dX7_readJobs_15 rfl (lv_at hl 0 rfl) ?_
    refine lv_isub hx hb dX7_readJobs_16 ?_
    exact gq_iret C hM h dX7_readJobs_17
theorem k_X7_readJobs : gx_kV yX7_readJobs cX7_readJobs 4 (some .int) 0 := ⟨⟨gw_630, gw_58, by decide, by decide, by decide +kernel⟩, gw_628, gw_629⟩
abbrev rm_X7_record : Room := { frames := 2, cells := 0, slots := 0, locals := 44 }
set_option maxHeartbeats 4000000 in
set_option maxRecDepth 100000 in
theorem c_X7_record (l : Launch) (L : gx_L) (a0 : Nat) (hk0 : kX a0 = 7) (p0 : Int32) (p1 : Int32) (I : gx_M) (Q : Int32 → gx_M → Prop) (h : wp_X7_record a0 p0 p1 I Q) : Met l yX7_record (gx_w yX7_record cX7_record 4 (some .int)) rm_X7_record (va_Pc [.ref (gx_ad L a0), .int p0, .int p1] (gx_U L 282 (cellX L I))) (va_Qi Q (fun I' t => gx_U L 282 (cellX L I') t) (gx_A L)) 0 0 (gx_A L) := by
  refine gq_enter (by decide) (Nat.le_of_ble_eq_true rfl) (fun p e s m below meth c ls C hM hl => ?_)
  have C : gx_C L 282 p s m _ meth c RX7 cX7_record 4 (some .int) := C
  have hl : lv_has ls 4 [(0, .ref (gx_ad L a0)), (1, .int p0), (2, .int p1)] := hl
  have hx := C.1
  have hb := C.2.1
  unfold wp_X7_record at h
  refine lv_iload_n hx hb dX7_record_0 rfl (lv_at hl 1 rfl) ?_
  refine lv_if_lt (tgt := 13) hx hb dX7_record_1 (by decide) (fun hc => ?_) (fun hc => ?_)
  · replace h := h.1 hc
    refine gq_ldc (v := (-1000002 : Int32)) C gw_375 dX7_record_13 ?_
    exact gq_iret C hM h dX7_record_15
  · replace h := h.2 hc
    refine lv_iload_n hx hb dX7_record_4 rfl (lv_at hl 2 rfl) ?_
    refine lv_iconst (v := (0 : Int32)) hx hb dX7_record_5 (by decide) ?_
    refine lv_iconst (v := (3 : Int32)) hx hb dX7_record_6 (by decide) ?_
    refine gq_backi C hM (gq_runS (As := [.int p1, .int (0 : Int32), .int (3 : Int32)]) (rest := []) C hM (c_X7_isWithin l L p1 (0 : Int32) (3 : Int32) I _ h) k_X7_isWithin gw_372 rfl hl.1 rfl (Nat.le_of_ble_eq_true rfl) ⟨⟨rfl, rfl⟩, Nat.le_of_ble_eq_true rfl, Nat.le_of_ble_eq_true rfl⟩ ⟨Nat.zero_le _, Nat.zero_le _⟩ dX7_record_7) (fun r1 I1 H locs h hM => ?_)
    obtain ⟨hz1, h⟩ := h
    refine lv_if_ne (tgt := 16) hx hb dX7_record_10 (by decide) (fun hc => ?_) (fun hc => ?_)
    · replace h := h.2 hc
      refine lv_aload_n hx hb dX7_record_16 rfl (lv_at hl 0 rfl) ?_
      refine gX7_0 C hM hk0 gw_343 dX7_record_17 ?_
      refine gX6_2 C hM (kX_7_0 hk0) gw_178 dX7_record_20 ?_
      refine gX5_1 C hM (kX_6_2 (kX_7_0 hk0)) gw_99 dX7_record_23 ?_
      refine lv_topi (fun x1 ex1 => ?_)
      replace h := h x1 ex1
      refine lv_istore_n (lv' := [(3, .int x1), (0, .ref (gx_ad L a0)), (1, .int p0), (2, .int p1)]) hx hb dX7_record_26 rfl hl (by decide) rfl (fun ls hl => ?_)
      refine lv_iload_n hx hb dX7_record_27 rfl (lv_at hl 2 rfl) ?_
      refine lv_iload_n hx hb dX7_record_28 rfl (lv_at hl 0 rfl) ?_
      refine lv_icmp_lt (tgt := 37) hx hb dX7_record_29 (by decide) (fun hc => ?_) (fun hc => ?_)
      · replace h := h.1 hc
        refine lv_aload_n hx hb dX7_record_37 rfl (lv_at hl 1 rfl) ?_
        refine gX7_0 C hM hk0 gw_343 dX7_record_38 ?_
        refine gX6_2 C hM (kX_7_0 hk0) gw_178 dX7_record_41 ?_
        refine lv_iload_n hx hb dX7_record_44 rfl (lv_at hl 0 rfl) ?_
        refine lv_iconst (v := (1 : Int32)) hx hb dX7_record_45 (by decide) ?_
        refine lv_isub hx hb dX7_record_46 ?_
        refine lv_iload_n hx hb dX7_record_47 rfl (lv_at hl 2 rfl) ?_
        refine lv_isub hx hb dX7_record_48 ?_
        refine lv_iload_n hx hb dX7_record_49 rfl (lv_at hl 3 rfl) ?_
        refine gq_backi C hM (gq_runV (As := [.int ((x1 - (1 : Int32)) - p0), .int p1]) (rest := []) C hM (kX_lt (kX_6_2 (kX_7_0 hk0)) (by decide)) (cX_5 (kX_6_2 (kX_7_0 hk0))) rfl (c_X5_at l L ((a0 + 1) + 4) (kX_6_2 (kX_7_0 hk0)) ((x1 - (1 : Int32)) - p0) p1 I1 _ h) k_X5_at gw_570 rfl hl.1 rfl (Nat.le_of_ble_eq_true rfl) ⟨⟨rfl, rfl⟩, Nat.le_of_ble_eq_true rfl, Nat.le_of_ble_eq_true rfl⟩ ⟨Nat.zero_le _, Nat.zero_le _⟩ dX7_record_50) (fun r2 I2 H locs h hM => ?_)
        exact gq_iret C hM h dX7_record_53
      · replace h := h.2 hc
        refine gq_ldc (v := (-1000004 : Int32)) C gw_429 dX7_record_32 ?_
        refine lv_goto (tgt := 53) hx hb dX7_record_34 (by decide) ?_
        exact gq_iret C hM h dX7_record_53
    · replace h := h.1 hc
      refine gq_ldc (v := (-1000002 : Int32)) C gw_375 dX7_record_13 ?_
      exact gq_iret C hM h dX7_record_15
theorem k_X7_record : gx_kV yX7_record cX7_record 4 (some .int) 2 := ⟨⟨gw_703, gw_58, by decide, by decide, by decide +kernel⟩, gw_701, gw_702⟩
abbrev rm_X7_request : Room := { frames := 4, cells := 0, slots := 0, locals := 90 }
set_option maxHeartbeats 4000000 in
set_option maxRecDepth 100000 in
theorem c_X7_request (l : Launch) (L : gx_L) (a0 : Nat) (hk0 : kX a0 = 7) (p0 : Int32) (p1 : Int32) (p2 : Int32) (I : gx_M) (Q : Int32 → gx_M → Prop) (h : wp_X7_request a0 p0 p1 p2 I Q) : Met l yX7_request (gx_w yX7_request cX7_request 4 (some .int)) rm_X7_request (va_Pc [.ref (gx_ad L a0), .int p0, .int p1, .int p2] (gx_U L 282 (cellX L I))) (va_Qi Q (fun I' t => gx_U L 282 (cellX L I') t) (gx_A L)) 0 0 (gx_A L) := by
  refine gq_enter (by decide) (Nat.le_of_ble_eq_true rfl) (fun p e s m below meth c ls C hM hl => ?_)
  have C : gx_C L 282 p s m _ meth c RX7 cX7_request 4 (some .int) := C
  have hl : lv_has ls 4 [(0, .ref (gx_ad L a0)), (1, .int p0), (2, .int p1), (3, .int p2)] := hl
  have hx := C.1
  have hb := C.2.1
  unfold wp_X7_request at h
  refine lv_aload_n hx hb dX7_request_0 rfl (lv_at hl 0 rfl) ?_
  refine gX7_0 C hM hk0 gw_343 dX7_request_1 ?_
  refine lv_iload_n hx hb dX7_request_4 rfl (lv_at hl 2 rfl) ?_
  refine gq_backe C hM (gq_runV (As := [.int p1]) (rest := []) C hM (kX_lt (kX_7_0 hk0) (by decide)) (cX_6 (kX_7_0 hk0)) rfl (c_X6_find l L (a0 + 1) (kX_7_0 hk0) p1 I _ h) k_X6_find gw_424 rfl hl.1 rfl (Nat.le_of_ble_eq_true rfl) ⟨⟨rfl, rfl⟩, Nat.le_of_ble_eq_true rfl, Nat.le_of_ble_eq_true rfl⟩ ⟨Nat.zero_le _, Nat.zero_le _⟩ dX7_request_5) (fun r1 I1 H locs h hM => ?_)
  obtain ⟨hk1, h⟩ := h
  rcases r1 with _ | b1
  · replace h := h.1 rfl
    refine W.eq (g2 := F0 m 8 ls [.null]) rfl ?_
    refine lv_ifnonnullN hx hb dX7_request_8 ?_
    refine gq_ldc (v := (-1000001 : Int32)) C gw_425 dX7_request_11 ?_
    exact gq_iret C hM h dX7_request_13
  · have hk := hk1 b1 rfl
    replace h := h.2 b1 rfl hk
    have hk2 := hk
    refine W.eq (g2 := F0 m 8 ls [.ref (gx_ad L b1)]) rfl ?_
    refine lv_ifnonnull (tgt := 14) hx hb dX7_request_8 (by decide) ?_
    refine lv_iload_n hx hb dX7_request_14 rfl (lv_at hl 1 rfl) ?_
    refine lv_iconst (v := (0 : Int32)) hx hb dX7_request_15 (by decide) ?_
    refine lv_iconst (v := (2 : Int32)) hx hb dX7_request_16 (by decide) ?_
    refine gq_backi C hM (gq_runS (As := [.int p0, .int (0 : Int32), .int (2 : Int32)]) (rest := []) C hM (c_X7_isWithin l L p0 (0 : Int32) (2 : Int32) I1 _ h) k_X7_isWithin gw_372 rfl hl.1 rfl (Nat.le_of_ble_eq_true rfl) ⟨⟨rfl, rfl⟩, Nat.le_of_ble_eq_true rfl, Nat.le_of_ble_eq_true rfl⟩ ⟨Nat.zero_le _, Nat.zero_le _⟩ dX7_request_17) (fun r2 I2 H locs h hM => ?_)
    obtain ⟨hz1, h⟩ := h
    refine lv_if_eq (tgt := 33) hx hb dX7_request_20 (by decide) (fun hc => ?_) (fun hc => ?_)
    · replace h := h.1 hc
      refine gq_ldc (v := (-1000002 : Int32)) C gw_375 dX7_request_33 ?_
      exact gq_iret C hM h dX7_request_35
    · replace h := h.2 hc
      refine lv_iload_n hx hb dX7_request_23 rfl (lv_at hl 3 rfl) ?_
      refine lv_iconst (v := (0 : Int32)) hx hb dX7_request_24 (by decide) ?_
      refine lv_bipush (v := (9 : Int32)) hx hb dX7_request_25 (by decide) ?_
      refine gq_backi C hM (gq_runS (As := [.int p2, .int (0 : Int32), .int (9 : Int32)]) (rest := []) C hM (c_X7_isWithin l L p2 (0 : Int32) (9 : Int32) I2 _ h) k_X7_isWithin gw_372 rfl hl.1 rfl (Nat.le_of_ble_eq_true rfl) ⟨⟨rfl, rfl⟩, Nat.le_of_ble_eq_true rfl, Nat.le_of_ble_eq_true rfl⟩ ⟨Nat.zero_le _, Nat.zero_le _⟩ dX7_request_27) (fun r3 I3 H locs h hM => ?_)
      obtain ⟨hz2, h⟩ := h
      refine lv_if_ne (tgt := 36) hx hb dX7_request_30 (by decide) (fun hc => ?_) (fun hc => ?_)
      · replace h := h.2 hc
        refine lv_aload_n hx hb dX7_request_36 rfl (lv_at hl 0 rfl) ?_
        refine gX7_0 C hM hk0 gw_343 dX7_request_37 ?_
        refine gX6_1 C hM (kX_7_0 hk0) gw_176 dX7_request_40 ?_
        refine gX5_1 C hM (kX_6_1 (kX_7_0 hk0)) gw_99 dX7_request_43 ?_
        refine lv_bipush (v := (20 : Int32)) hx hb dX7_request_46 (by decide) ?_
        refine lv_icmp_lt (tgt := 57) hx hb dX7_request_48 (by decide) (fun hc => ?_) (fun hc => ?_)
        · replace h := h.1 hc
          refine lv_aload_n hx hb dX7_request_57 rfl (lv_at hl 0 rfl) ?_
          refine gX7_3 C hM hk0 gw_346 dX7_request_58 ?_
          refine lv_aload_n hx hb dX7_request_61 rfl (lv_at hl 0 rfl) ?_
          refine gX7_0 C hM hk0 gw_343 dX7_request_62 ?_
          refine gq_backv C hM (gq_runV (As := [.ref (gx_ad L (a0 + 1))]) (rest := []) C hM (kX_lt (kX_7_3 hk0) (by decide)) (cX_0 (kX_7_3 hk0)) rfl (c_X0_add l L (a0 + 77) (kX_7_3 hk0) (a0 + 1) (kX_7_0 hk0) I3 _ h) k_X0_add gw_393 rfl hl.1 rfl (Nat.le_of_ble_eq_true rfl) ⟨⟨rfl, rfl⟩, Nat.le_of_ble_eq_true rfl, Nat.le_of_ble_eq_true rfl⟩ ⟨Nat.zero_le _, Nat.zero_le _⟩ dX7_request_65) (fun I4 H locs h hM => ?_)
          refine lv_aload_n hx hb dX7_request_68 rfl (lv_at hl 0 rfl) ?_
          refine gX7_0 C hM hk0 gw_343 dX7_request_69 ?_
          refine lv_iload_n hx hb dX7_request_72 rfl (lv_at hl 1 rfl) ?_
          refine lv_iload_n hx hb dX7_request_73 rfl (lv_at hl 2 rfl) ?_
          refine lv_iload_n hx hb dX7_request_74 rfl (lv_at hl 3 rfl) ?_
          refine gq_backi C hM (gq_runV (As := [.int p0, .int p1, .int p2]) (rest := []) C hM (kX_lt (kX_7_0 hk0) (by decide)) (cX_6 (kX_7_0 hk0)) rfl (c_X6_addJob l L (a0 + 1) (kX_7_0 hk0) p0 p1 p2 I4 _ h) k_X6_addJob gw_515 rfl hl.1 rfl (Nat.le_of_ble_eq_true rfl) ⟨⟨rfl, rfl⟩, Nat.le_of_ble_eq_true rfl, Nat.le_of_ble_eq_true rfl⟩ ⟨Nat.zero_le _, Nat.zero_le _⟩ dX7_request_75) (fun r4 I5 H locs h hM => ?_)
          exact gq_iret C hM h dX7_request_78
        · replace h := h.2 hc
          refine lv_aload_n hx hb dX7_request_51 rfl (lv_at hl 0 rfl) ?_
          refine lv_iconst (v := (1 : Int32)) hx hb dX7_request_52 (by decide) ?_
          refine gq_backi C hM (gq_runV (As := [.int (1 : Int32)]) (rest := []) C hM (kX_lt hk0 (by decide)) (cX_7 hk0) rfl (c_X7_refuse l L a0 hk0 (1 : Int32) I3 _ h) k_X7_refuse gw_376 rfl hl.1 rfl (Nat.le_of_ble_eq_true rfl) ⟨⟨rfl, rfl⟩, Nat.le_of_ble_eq_true rfl, Nat.le_of_ble_eq_true rfl⟩ ⟨Nat.zero_le _, Nat.zero_le _⟩ dX7_request_53) (fun r5 I6 H locs h hM => ?_)
          exact gq_iret C hM h dX7_request_56
      · replace h := h.1 hc
        refine gq_ldc (v := (-1000002 : Int32)) C gw_375 dX7_request_33 ?_
        exact gq_iret C hM h dX7_request_35
theorem k_X7_request : gx_kV yX7_request cX7_request 4 (some .int) 3 := ⟨⟨gw_514, gw_58, by decide, by decide, by decide +kernel⟩, gw_512, gw_513⟩
abbrev rm_X7_restore : Room := { frames := 4, cells := 0, slots := 0, locals := 90 }
set_option maxHeartbeats 4000000 in
set_option maxRecDepth 100000 in
theorem c_X7_restore (l : Launch) (L : gx_L) (a0 : Nat) (hk0 : kX a0 = 7) (I : gx_M) (Q : Int32 → gx_M → Prop) (h : wp_X7_restore a0 I Q) : Met l yX7_restore (gx_w yX7_restore cX7_restore 1 (some .int)) rm_X7_restore (va_Pc [.ref (gx_ad L a0)] (gx_U L 282 (cellX L I))) (va_Qi Q (fun I' t => gx_U L 282 (cellX L I') t) (gx_A L)) 0 0 (gx_A L) := by
  refine gq_enter (by decide) (Nat.le_of_ble_eq_true rfl) (fun p e s m below meth c ls C hM hl => ?_)
  have C : gx_C L 282 p s m _ meth c RX7 cX7_restore 1 (some .int) := C
  have hl : lv_has ls 1 [(0, .ref (gx_ad L a0))] := hl
  have hx := C.1
  have hb := C.2.1
  unfold wp_X7_restore at h
  refine lv_aload_n hx hb dX7_restore_0 rfl (lv_at hl 0 rfl) ?_
  refine gX7_2 C hM hk0 gw_345 dX7_restore_1 ?_
  refine lv_if_ne (tgt := 10) hx hb dX7_restore_4 (by decide) (fun hc => ?_) (fun hc => ?_)
  · replace h := h.2 hc
    refine lv_aload_n hx hb dX7_restore_10 rfl (lv_at hl 0 rfl) ?_
    refine gX7_3 C hM hk0 gw_346 dX7_restore_11 ?_
    refine lv_aload_n hx hb dX7_restore_14 rfl (lv_at hl 0 rfl) ?_
    refine gX7_0 C hM hk0 gw_343 dX7_restore_15 ?_
    refine gq_backv C hM (gq_runV (As := [.ref (gx_ad L (a0 + 1))]) (rest := []) C hM (kX_lt (kX_7_3 hk0) (by decide)) (cX_0 (kX_7_3 hk0)) rfl (c_X0_add l L (a0 + 77) (kX_7_3 hk0) (a0 + 1) (kX_7_0 hk0) I _ h) k_X0_add gw_393 rfl hl.1 rfl (Nat.le_of_ble_eq_true rfl) ⟨⟨rfl, rfl⟩, Nat.le_of_ble_eq_true rfl, Nat.le_of_ble_eq_true rfl⟩ ⟨Nat.zero_le _, Nat.zero_le _⟩ dX7_restore_18) (fun I1 H locs h hM => ?_)
    refine lv_aload_n hx hb dX7_restore_21 rfl (lv_at hl 0 rfl) ?_
    refine gX7_0 C hM hk0 gw_343 dX7_restore_22 ?_
    refine lv_aload_n hx hb dX7_restore_25 rfl (lv_at hl 0 rfl) ?_
    refine gX7_1 C hM hk0 gw_344 dX7_restore_26 ?_
    refine gq_backv C hM (gq_runV (As := [.ref (gx_ad L (a0 + 39))]) (rest := []) C hM (kX_lt (kX_7_0 hk0) (by decide)) (cX_6 (kX_7_0 hk0)) rfl (c_X6_copyFrom l L (a0 + 1) (kX_7_0 hk0) (a0 + 39) (kX_7_1 hk0) I1 _ h) k_X6_copyFrom gw_669 rfl hl.1 rfl (Nat.le_of_ble_eq_true rfl) ⟨⟨rfl, rfl⟩, Nat.le_of_ble_eq_true rfl, Nat.le_of_ble_eq_true rfl⟩ ⟨Nat.zero_le _, Nat.zero_le _⟩ dX7_restore_29) (fun I2 H locs h hM => ?_)
    refine lv_aload_n hx hb dX7_restore_32 rfl (lv_at hl 0 rfl) ?_
    refine gX7_0 C hM hk0 gw_343 dX7_restore_33 ?_
    refine gX6_3 C hM (kX_7_0 hk0) gw_180 dX7_restore_36 ?_
    exact gq_iret C hM h dX7_restore_39
  · replace h := h.1 hc
    refine gq_ldc (v := (-1000004 : Int32)) C gw_429 dX7_restore_7 ?_
    exact gq_iret C hM h dX7_restore_9
theorem k_X7_restore : gx_kV yX7_restore cX7_restore 1 (some .int) 0 := ⟨⟨gw_677, gw_58, by decide, by decide, by decide +kernel⟩, gw_675, gw_676⟩
end
