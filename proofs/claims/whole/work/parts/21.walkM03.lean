section
variable {p : Program} {l : Launch} {e : Env} {s : State} {m : MethodId} {args : Array Value} {below : List Frame} {meth : Method} {c : Code} {L : gx_L}
abbrev rm_X8_first : Room := { frames := 2, cells := 0, slots := 0, locals := 44 }
set_option maxHeartbeats 4000000 in
set_option maxRecDepth 100000 in
theorem tj_X8_first_154 (C : gx_C L 7 p s m args meth c RX8 cX8_first 7 (some .int)) {Q : Int32 → gx_MM → Prop} {K6 : Nat → Int32 → Int32 → Int32 → Int32 → gx_MM → Prop} (hK6 : ∀ (v0 : Nat) (v1 : Int32) (v2 : Int32) (v3 : Int32) (v4 : Int32) (hv0 : kM v0 = 8) (I : gx_MM) (H : Heap) (locs : List Loc) (ls : Array Slot), gx_S L 7 (cellM L I) s.heap H locs → lv_has ls 7 [(0, .ref (gx_ad L v0)), (1, .int v1), (2, .int v2), (3, .int v3), (4, .int v4)] → K6 v0 v1 v2 v3 v4 I → W p l e rm_X8_first s m args below meth c H locs 0 0 (MQ below (va_Qi Q (fun I' t => gx_U L 7 (cellM L I') t) (gx_A L)) args s 0 0 (gx_A L)) (F0 m 6 ls [])) : ∀ (v0 : Nat) (v1 : Int32) (v2 : Int32) (v3 : Int32) (v4 : Int32) (hv0 : kM v0 = 8) (I : gx_MM) (H : Heap) (locs : List Loc) (ls : Array Slot), gx_S L 7 (cellM L I) s.heap H locs → lv_has ls 7 [(0, .ref (gx_ad L v0)), (1, .int v1), (2, .int v2), (3, .int v3), (4, .int v4)] → wj_X8_first_154 Q K6 v0 v1 v2 v3 v4 I → W p l e rm_X8_first s m args below meth c H locs 0 0 (MQ below (va_Qi Q (fun I' t => gx_U L 7 (cellM L I') t) (gx_A L)) args s 0 0 (gx_A L)) (F0 m 154 ls []) := by
  have hx := C.1
  have hb := C.2.1
  intro v0 v1 v2 v3 v4 hv0 I H locs ls hM hl h
  unfold wj_X8_first_154 at h
  obtain ⟨x1, ex1⟩ : ∃ z : Int32, z = v4 + (1 : Int32) := ⟨_, rfl⟩
  replace h := h x1 ex1
  refine lv_iinc (v := x1) (lv' := [(4, .int x1), (0, .ref (gx_ad L v0)), (1, .int v1), (2, .int v2), (3, .int v3)]) hx hb dX8_first_154 hl (k := 4) rfl (by rw [ex1]; rfl) (by decide) rfl (fun ls hl => ?_)
  refine lv_goto (tgt := 6) hx hb dX8_first_157 (by decide) ?_
  exact hK6 v0 v1 v2 v3 x1 (hv0) I _ _ _ hM (lv_sub hl [1, 2, 3, 4, 0] rfl) h
set_option maxHeartbeats 4000000 in
set_option maxRecDepth 100000 in
theorem tj_X8_first_153 (C : gx_C L 7 p s m args meth c RX8 cX8_first 7 (some .int)) {Q : Int32 → gx_MM → Prop} {K6 : Nat → Int32 → Int32 → Int32 → Int32 → gx_MM → Prop} (hK6 : ∀ (v0 : Nat) (v1 : Int32) (v2 : Int32) (v3 : Int32) (v4 : Int32) (hv0 : kM v0 = 8) (I : gx_MM) (H : Heap) (locs : List Loc) (ls : Array Slot), gx_S L 7 (cellM L I) s.heap H locs → lv_has ls 7 [(0, .ref (gx_ad L v0)), (1, .int v1), (2, .int v2), (3, .int v3), (4, .int v4)] → K6 v0 v1 v2 v3 v4 I → W p l e rm_X8_first s m args below meth c H locs 0 0 (MQ below (va_Qi Q (fun I' t => gx_U L 7 (cellM L I') t) (gx_A L)) args s 0 0 (gx_A L)) (F0 m 6 ls [])) : ∀ (v0 : Nat) (v1 : Int32) (v2 : Int32) (v4 : Int32) (u0 : Int32) (hv0 : kM v0 = 8) (I : gx_MM) (H : Heap) (locs : List Loc) (ls : Array Slot), gx_S L 7 (cellM L I) s.heap H locs → lv_has ls 7 [(0, .ref (gx_ad L v0)), (1, .int v1), (2, .int v2), (4, .int v4)] → wj_X8_first_153 Q K6 v0 v1 v2 v4 u0 I → W p l e rm_X8_first s m args below meth c H locs 0 0 (MQ below (va_Qi Q (fun I' t => gx_U L 7 (cellM L I') t) (gx_A L)) args s 0 0 (gx_A L)) (F0 m 153 ls [.int u0]) := by
  have hx := C.1
  have hb := C.2.1
  intro v0 v1 v2 v4 u0 hv0 I H locs ls hM hl h
  unfold wj_X8_first_153 at h
  refine lv_istore_n (lv' := [(3, .int u0), (0, .ref (gx_ad L v0)), (1, .int v1), (2, .int v2), (4, .int v4)]) hx hb dX8_first_153 rfl hl (by decide) rfl (fun ls hl => ?_)
  exact tj_X8_first_154 C hK6 v0 v1 v2 u0 v4 (hv0) I _ _ _ hM (lv_sub hl [1, 2, 3, 0, 4] rfl) h
set_option maxHeartbeats 4000000 in
set_option maxRecDepth 100000 in
theorem tj_X8_first_142 (C : gx_C L 7 p s m args meth c RX8 cX8_first 7 (some .int)) {Q : Int32 → gx_MM → Prop} {K6 : Nat → Int32 → Int32 → Int32 → Int32 → gx_MM → Prop} (hK6 : ∀ (v0 : Nat) (v1 : Int32) (v2 : Int32) (v3 : Int32) (v4 : Int32) (hv0 : kM v0 = 8) (I : gx_MM) (H : Heap) (locs : List Loc) (ls : Array Slot), gx_S L 7 (cellM L I) s.heap H locs → lv_has ls 7 [(0, .ref (gx_ad L v0)), (1, .int v1), (2, .int v2), (3, .int v3), (4, .int v4)] → K6 v0 v1 v2 v3 v4 I → W p l e rm_X8_first s m args below meth c H locs 0 0 (MQ below (va_Qi Q (fun I' t => gx_U L 7 (cellM L I') t) (gx_A L)) args s 0 0 (gx_A L)) (F0 m 6 ls [])) : ∀ (v0 : Nat) (v1 : Int32) (v2 : Int32) (v3 : Int32) (v4 : Int32) (v5 : Int32) (hv0 : kM v0 = 8) (I : gx_MM) (H : Heap) (locs : List Loc) (ls : Array Slot), gx_S L 7 (cellM L I) s.heap H locs → lv_has ls 7 [(0, .ref (gx_ad L v0)), (1, .int v1), (2, .int v2), (3, .int v3), (4, .int v4), (5, .int v5)] → wj_X8_first_142 Q K6 v0 v1 v2 v3 v4 v5 I → W p l e rm_X8_first s m args below meth c H locs 0 0 (MQ below (va_Qi Q (fun I' t => gx_U L 7 (cellM L I') t) (gx_A L)) args s 0 0 (gx_A L)) (F0 m 142 ls []) := by
  have hx := C.1
  have hb := C.2.1
  intro v0 v1 v2 v3 v4 v5 hv0 I H locs ls hM hl h
  unfold wj_X8_first_142 at h
  refine lv_iload hx hb dX8_first_142 (lv_at hl 5 rfl) ?_
  refine lv_if_eq (tgt := 152) hx hb dX8_first_144 (by decide) (fun hc => ?_) (fun hc => ?_)
  · replace h := h.1 hc
    refine lv_iload_n hx hb dX8_first_152 rfl (lv_at hl 3 rfl) ?_
    exact tj_X8_first_153 C hK6 v0 v1 v2 v4 v3 (hv0) I _ _ _ hM (lv_sub hl [0, 1, 2, 4] rfl) h
  · replace h := h.2 hc
    refine lv_iload hx hb dX8_first_147 (lv_at hl 4 rfl) ?_
    refine lv_goto (tgt := 153) hx hb dX8_first_149 (by decide) ?_
    exact tj_X8_first_153 C hK6 v0 v1 v2 v4 v4 (hv0) I _ _ _ hM (lv_sub hl [0, 1, 2, 4] rfl) h
set_option maxHeartbeats 4000000 in
set_option maxRecDepth 100000 in
theorem tj_X8_first_140 (C : gx_C L 7 p s m args meth c RX8 cX8_first 7 (some .int)) {Q : Int32 → gx_MM → Prop} {K6 : Nat → Int32 → Int32 → Int32 → Int32 → gx_MM → Prop} (hK6 : ∀ (v0 : Nat) (v1 : Int32) (v2 : Int32) (v3 : Int32) (v4 : Int32) (hv0 : kM v0 = 8) (I : gx_MM) (H : Heap) (locs : List Loc) (ls : Array Slot), gx_S L 7 (cellM L I) s.heap H locs → lv_has ls 7 [(0, .ref (gx_ad L v0)), (1, .int v1), (2, .int v2), (3, .int v3), (4, .int v4)] → K6 v0 v1 v2 v3 v4 I → W p l e rm_X8_first s m args below meth c H locs 0 0 (MQ below (va_Qi Q (fun I' t => gx_U L 7 (cellM L I') t) (gx_A L)) args s 0 0 (gx_A L)) (F0 m 6 ls [])) : ∀ (v0 : Nat) (v1 : Int32) (v2 : Int32) (v3 : Int32) (v4 : Int32) (u0 : Int32) (hv0 : kM v0 = 8) (I : gx_MM) (H : Heap) (locs : List Loc) (ls : Array Slot), gx_S L 7 (cellM L I) s.heap H locs → lv_has ls 7 [(0, .ref (gx_ad L v0)), (1, .int v1), (2, .int v2), (3, .int v3), (4, .int v4)] → wj_X8_first_140 Q K6 v0 v1 v2 v3 v4 u0 I → W p l e rm_X8_first s m args below meth c H locs 0 0 (MQ below (va_Qi Q (fun I' t => gx_U L 7 (cellM L I') t) (gx_A L)) args s 0 0 (gx_A L)) (F0 m 140 ls [.int u0]) := by
  have hx := C.1
  have hb := C.2.1
  intro v0 v1 v2 v3 v4 u0 hv0 I H locs ls hM hl h
  unfold wj_X8_first_140 at h
  refine lv_istore (lv' := [(5, .int u0), (0, .ref (gx_ad L v0)), (1, .int v1), (2, .int v2), (3, .int v3), (4, .int v4)]) hx hb dX8_first_140 hl (by decide) rfl (fun ls hl => ?_)
  exact tj_X8_first_142 C hK6 v0 v1 v2 v3 v4 u0 (hv0) I _ _ _ hM (lv_sub hl [1, 2, 3, 4, 5, 0] rfl) h
set_option maxHeartbeats 4000000 in
set_option maxRecDepth 100000 in
theorem tj_X8_first_57 (C : gx_C L 7 p s m args meth c RX8 cX8_first 7 (some .int)) {Q : Int32 → gx_MM → Prop} {K6 : Nat → Int32 → Int32 → Int32 → Int32 → gx_MM → Prop} (hK6 : ∀ (v0 : Nat) (v1 : Int32) (v2 : Int32) (v3 : Int32) (v4 : Int32) (hv0 : kM v0 = 8) (I : gx_MM) (H : Heap) (locs : List Loc) (ls : Array Slot), gx_S L 7 (cellM L I) s.heap H locs → lv_has ls 7 [(0, .ref (gx_ad L v0)), (1, .int v1), (2, .int v2), (3, .int v3), (4, .int v4)] → K6 v0 v1 v2 v3 v4 I → W p l e rm_X8_first s m args below meth c H locs 0 0 (MQ below (va_Qi Q (fun I' t => gx_U L 7 (cellM L I') t) (gx_A L)) args s 0 0 (gx_A L)) (F0 m 6 ls [])) : ∀ (v0 : Nat) (v1 : Int32) (v2 : Int32) (v3 : Int32) (v4 : Int32) (u0 : Int32) (hv0 : kM v0 = 8) (I : gx_MM) (H : Heap) (locs : List Loc) (ls : Array Slot), gx_S L 7 (cellM L I) s.heap H locs → lv_has ls 7 [(0, .ref (gx_ad L v0)), (1, .int v1), (2, .int v2), (3, .int v3), (4, .int v4)] → wj_X8_first_57 Q K6 v0 v1 v2 v3 v4 u0 I → W p l e rm_X8_first s m args below meth c H locs 0 0 (MQ below (va_Qi Q (fun I' t => gx_U L 7 (cellM L I') t) (gx_A L)) args s 0 0 (gx_A L)) (F0 m 57 ls [.int u0]) := by
  have hx := C.1
  have hb := C.2.1
  intro v0 v1 v2 v3 v4 u0 hv0 I H locs ls hM hl h
  unfold wj_X8_first_57 at h
  refine lv_istore (lv' := [(5, .int u0), (0, .ref (gx_ad L v0)), (1, .int v1), (2, .int v2), (3, .int v3), (4, .int v4)]) hx hb dX8_first_57 hl (by decide) rfl (fun ls hl => ?_)
  refine lv_iload hx hb dX8_first_59 (lv_at hl 0 rfl) ?_
  refine lv_if_ne (tgt := 142) hx hb dX8_first_61 (by decide) (fun hc => ?_) (fun hc => ?_)
  · replace h := h.2 hc
    exact tj_X8_first_142 C hK6 v0 v1 v2 v3 v4 u0 (hv0) I _ _ _ hM (lv_sub hl [1, 2, 3, 4, 5, 0] rfl) h
  · replace h := h.1 hc
    refine lv_aload_n hx hb dX8_first_64 rfl (lv_at hl 1 rfl) ?_
    refine lv_iload hx hb dX8_first_65 (lv_at hl 5 rfl) ?_
    refine lv_iconst (v := (3 : Int32)) hx hb dX8_first_67 (by decide) ?_
    refine gq_backi C hM (gq_runV (As := [.int v4, .int (3 : Int32)]) (rest := []) C hM (kM_lt hv0 (by decide)) (cM_8 hv0) rfl (c_X8_ofJob l L v0 hv0 v4 (3 : Int32) I _ h) k_X8_ofJob gw_877 rfl hl.1 rfl (Nat.le_of_ble_eq_true rfl) ⟨⟨rfl, rfl⟩, Nat.le_of_ble_eq_true rfl, Nat.le_of_ble_eq_true rfl⟩ ⟨Nat.zero_le _, Nat.zero_le _⟩ dX8_first_68) (fun r1 I1 H locs h hM => ?_)
    refine lv_aload_n hx hb dX8_first_71 rfl (lv_at hl 1 rfl) ?_
    refine lv_iload_n hx hb dX8_first_72 rfl (lv_at hl 4 rfl) ?_
    refine lv_iconst (v := (3 : Int32)) hx hb dX8_first_73 (by decide) ?_
    refine gq_backi C hM (gq_runV (As := [.int v3, .int (3 : Int32)]) (rest := [.int r1]) C hM (kM_lt hv0 (by decide)) (cM_8 hv0) rfl (c_X8_ofJob l L v0 hv0 v3 (3 : Int32) I1 _ h) k_X8_ofJob gw_877 rfl hl.1 rfl (Nat.le_of_ble_eq_true rfl) ⟨⟨rfl, rfl⟩, Nat.le_of_ble_eq_true rfl, Nat.le_of_ble_eq_true rfl⟩ ⟨Nat.zero_le _, Nat.zero_le _⟩ dX8_first_74) (fun r2 I2 H locs h hM => ?_)
    refine lv_icmp_ne (tgt := 142) hx hb dX8_first_77 (by decide) (fun hc => ?_) (fun hc => ?_)
    · replace h := h.2 hc
      exact tj_X8_first_142 C hK6 v0 v1 v2 v3 v4 u0 (hv0) I2 _ _ _ hM (lv_sub hl [1, 2, 3, 4, 5, 0] rfl) h
    · replace h := h.1 hc
      refine lv_aload_n hx hb dX8_first_80 rfl (lv_at hl 1 rfl) ?_
      refine lv_iload hx hb dX8_first_81 (lv_at hl 5 rfl) ?_
      refine lv_iload_n hx hb dX8_first_83 rfl (lv_at hl 3 rfl) ?_
      refine gq_backi C hM (gq_runV (As := [.int v4, .int v2]) (rest := []) C hM (kM_lt hv0 (by decide)) (cM_8 hv0) rfl (c_X8_wayTo l L v0 hv0 v4 v2 I2 _ h) k_X8_wayTo gw_893 rfl hl.1 rfl (Nat.le_of_ble_eq_true rfl) ⟨⟨rfl, rfl⟩, Nat.le_of_ble_eq_true rfl, Nat.le_of_ble_eq_true rfl⟩ ⟨Nat.zero_le _, Nat.zero_le _⟩ dX8_first_84) (fun r3 I3 H locs h hM => ?_)
      refine lv_istore (lv' := [(6, .int r3), (5, .int u0), (0, .ref (gx_ad L v0)), (1, .int v1), (2, .int v2), (3, .int v3), (4, .int v4)]) hx hb dX8_first_87 hl (by decide) rfl (fun ls hl => ?_)
      refine lv_iload hx hb dX8_first_89 (lv_at hl 0 rfl) ?_
      refine lv_aload_n hx hb dX8_first_91 rfl (lv_at hl 2 rfl) ?_
      refine lv_iload_n hx hb dX8_first_92 rfl (lv_at hl 5 rfl) ?_
      refine lv_iload_n hx hb dX8_first_93 rfl (lv_at hl 4 rfl) ?_
      refine gq_backi C hM (gq_runV (As := [.int v3, .int v2]) (rest := [.int r3]) C hM (kM_lt hv0 (by decide)) (cM_8 hv0) rfl (c_X8_wayTo l L v0 hv0 v3 v2 I3 _ h) k_X8_wayTo gw_893 rfl hl.1 rfl (Nat.le_of_ble_eq_true rfl) ⟨⟨rfl, rfl⟩, Nat.le_of_ble_eq_true rfl, Nat.le_of_ble_eq_true rfl⟩ ⟨Nat.zero_le _, Nat.zero_le _⟩ dX8_first_94) (fun r4 I4 H locs h hM => ?_)
      refine lv_icmp_eq (tgt := 119) hx hb dX8_first_97 (by decide) (fun hc => ?_) (fun hc => ?_)
      · replace h := h.1 hc
        refine lv_aload_n hx hb dX8_first_119 rfl (lv_at hl 2 rfl) ?_
        refine lv_iload hx hb dX8_first_120 (lv_at hl 6 rfl) ?_
        refine lv_iconst (v := (0 : Int32)) hx hb dX8_first_122 (by decide) ?_
        refine gq_backi C hM (gq_runV (As := [.int v4, .int (0 : Int32)]) (rest := []) C hM (kM_lt hv0 (by decide)) (cM_8 hv0) rfl (c_X8_ofJob l L v0 hv0 v4 (0 : Int32) I4 _ h) k_X8_ofJob gw_877 rfl hl.1 rfl (Nat.le_of_ble_eq_true rfl) ⟨⟨rfl, rfl⟩, Nat.le_of_ble_eq_true rfl, Nat.le_of_ble_eq_true rfl⟩ ⟨Nat.zero_le _, Nat.zero_le _⟩ dX8_first_123) (fun r5 I5 H locs h hM => ?_)
        refine lv_aload_n hx hb dX8_first_126 rfl (lv_at hl 2 rfl) ?_
        refine lv_iload_n hx hb dX8_first_127 rfl (lv_at hl 5 rfl) ?_
        refine lv_iconst (v := (0 : Int32)) hx hb dX8_first_128 (by decide) ?_
        refine gq_backi C hM (gq_runV (As := [.int v3, .int (0 : Int32)]) (rest := [.int r5]) C hM (kM_lt hv0 (by decide)) (cM_8 hv0) rfl (c_X8_ofJob l L v0 hv0 v3 (0 : Int32) I5 _ h) k_X8_ofJob gw_877 rfl hl.1 rfl (Nat.le_of_ble_eq_true rfl) ⟨⟨rfl, rfl⟩, Nat.le_of_ble_eq_true rfl, Nat.le_of_ble_eq_true rfl⟩ ⟨Nat.zero_le _, Nat.zero_le _⟩ dX8_first_129) (fun r6 I6 H locs h hM => ?_)
        refine lv_icmp_ge (tgt := 139) hx hb dX8_first_132 (by decide) (fun hc => ?_) (fun hc => ?_)
        · replace h := h.1 hc
          refine lv_iconst (v := (0 : Int32)) hx hb dX8_first_139 (by decide) ?_
          exact tj_X8_first_140 C hK6 v0 v1 v2 v3 v4 (0 : Int32) (hv0) I6 _ _ _ hM (lv_sub hl [2, 3, 4, 5, 6] rfl) h
        · replace h := h.2 hc
          refine lv_iconst (v := (1 : Int32)) hx hb dX8_first_135 (by decide) ?_
          refine lv_goto (tgt := 140) hx hb dX8_first_136 (by decide) ?_
          exact tj_X8_first_140 C hK6 v0 v1 v2 v3 v4 (1 : Int32) (hv0) I6 _ _ _ hM (lv_sub hl [2, 3, 4, 5, 6] rfl) h
      · replace h := h.2 hc
        refine lv_iload hx hb dX8_first_100 (lv_at hl 0 rfl) ?_
        refine lv_aload_n hx hb dX8_first_102 rfl (lv_at hl 2 rfl) ?_
        refine lv_iload_n hx hb dX8_first_103 rfl (lv_at hl 5 rfl) ?_
        refine lv_iload_n hx hb dX8_first_104 rfl (lv_at hl 4 rfl) ?_
        refine gq_backi C hM (gq_runV (As := [.int v3, .int v2]) (rest := [.int r3]) C hM (kM_lt hv0 (by decide)) (cM_8 hv0) rfl (c_X8_wayTo l L v0 hv0 v3 v2 I4 _ h) k_X8_wayTo gw_893 rfl hl.1 rfl (Nat.le_of_ble_eq_true rfl) ⟨⟨rfl, rfl⟩, Nat.le_of_ble_eq_true rfl, Nat.le_of_ble_eq_true rfl⟩ ⟨Nat.zero_le _, Nat.zero_le _⟩ dX8_first_105) (fun r7 I7 H locs h hM => ?_)
        refine lv_icmp_ge (tgt := 115) hx hb dX8_first_108 (by decide) (fun hc => ?_) (fun hc => ?_)
        · replace h := h.1 hc
          refine lv_iconst (v := (0 : Int32)) hx hb dX8_first_115 (by decide) ?_
          refine lv_goto (tgt := 140) hx hb dX8_first_116 (by decide) ?_
          exact tj_X8_first_140 C hK6 v0 v1 v2 v3 v4 (0 : Int32) (hv0) I7 _ _ _ hM (lv_sub hl [2, 3, 4, 5, 6] rfl) h
        · replace h := h.2 hc
          refine lv_iconst (v := (1 : Int32)) hx hb dX8_first_111 (by decide) ?_
          refine lv_goto (tgt := 140) hx hb dX8_first_112 (by decide) ?_
          exact tj_X8_first_140 C hK6 v0 v1 v2 v3 v4 (1 : Int32) (hv0) I7 _ _ _ hM (lv_sub hl [2, 3, 4, 5, 6] rfl) h
set_option maxHeartbeats 4000000 in
set_option maxRecDepth 100000 in
theorem tj_X8_first_52 (C : gx_C L 7 p s m args meth c RX8 cX8_first 7 (some .int)) {Q : Int32 → gx_MM → Prop} {K6 : Nat → Int32 → Int32 → Int32 → Int32 → gx_MM → Prop} (hK6 : ∀ (v0 : Nat) (v1 : Int32) (v2 : Int32) (v3 : Int32) (v4 : Int32) (hv0 : kM v0 = 8) (I : gx_MM) (H : Heap) (locs : List Loc) (ls : Array Slot), gx_S L 7 (cellM L I) s.heap H locs → lv_has ls 7 [(0, .ref (gx_ad L v0)), (1, .int v1), (2, .int v2), (3, .int v3), (4, .int v4)] → K6 v0 v1 v2 v3 v4 I → W p l e rm_X8_first s m args below meth c H locs 0 0 (MQ below (va_Qi Q (fun I' t => gx_U L 7 (cellM L I') t) (gx_A L)) args s 0 0 (gx_A L)) (F0 m 6 ls [])) : ∀ (v0 : Nat) (v1 : Int32) (v2 : Int32) (v3 : Int32) (v4 : Int32) (hv0 : kM v0 = 8) (I : gx_MM) (H : Heap) (locs : List Loc) (ls : Array Slot), gx_S L 7 (cellM L I) s.heap H locs → lv_has ls 7 [(0, .ref (gx_ad L v0)), (1, .int v1), (2, .int v2), (3, .int v3), (4, .int v4)] → wj_X8_first_52 Q K6 v0 v1 v2 v3 v4 I → W p l e rm_X8_first s m args below meth c H locs 0 0 (MQ below (va_Qi Q (fun I' t => gx_U L 7 (cellM L I') t) (gx_A L)) args s 0 0 (gx_A L)) (F0 m 52 ls []) := by
  have hx := C.1
  have hb := C.2.1
  intro v0 v1 v2 v3 v4 hv0 I H locs ls hM hl h
  unfold wj_X8_first_52 at h
  refine lv_iconst (v := (1 : Int32)) hx hb dX8_first_52 (by decide) ?_
  refine lv_goto (tgt := 57) hx hb dX8_first_53 (by decide) ?_
  exact tj_X8_first_57 C hK6 v0 v1 v2 v3 v4 (1 : Int32) (hv0) I _ _ _ hM (lv_sub hl [0, 1, 2, 3, 4] rfl) h
set_option maxHeartbeats 4000000 in
set_option maxRecDepth 100000 in
theorem tl_X8_first_6 (C : gx_C L 7 p s m args meth c RX8 cX8_first 7 (some .int)) {Q : Int32 → gx_MM → Prop} : ∀ (fu : Nat) (v0 : Nat) (v1 : Int32) (v2 : Int32) (v3 : Int32) (v4 : Int32) (hv0 : kM v0 = 8) (I : gx_MM) (H : Heap) (locs : List Loc) (ls : Array Slot), gx_S L 7 (cellM L I) s.heap H locs → lv_has ls 7 [(0, .ref (gx_ad L v0)), (1, .int v1), (2, .int v2), (3, .int v3), (4, .int v4)] → wl_X8_first_6 Q fu v0 v1 v2 v3 v4 I → W p l e rm_X8_first s m args below meth c H locs 0 0 (MQ below (va_Qi Q (fun I' t => gx_U L 7 (cellM L I') t) (gx_A L)) args s 0 0 (gx_A L)) (F0 m 6 ls []) := by
  have hx := C.1
  have hb := C.2.1
  intro fu
  induction fu with
  | zero => intros; rename_i h; exact False.elim h
  | succ fu ih =>
    intro v0 v1 v2 v3 v4 hv0 I H locs ls hM hl h
    rw [wl_X8_first_6] at h
    refine lv_iload hx hb dX8_first_6 (lv_at hl 4 rfl) ?_
    refine lv_aload_n hx hb dX8_first_8 rfl (lv_at hl 0 rfl) ?_
    refine gX8_0 C hM hv0 gw_719 dX8_first_9 ?_
    refine lv_iconst (v := (4 : Int32)) hx hb dX8_first_12 (by decide) ?_
    refine gialdM C hM (kM_8_0 hv0) h.1 dX8_first_13 ?_
    replace h := h.2
    refine lv_icmp_ge (tgt := 160) hx hb dX8_first_14 (by decide) (fun hc => ?_) (fun hc => ?_)
    · replace h := h.1 hc
      refine lv_iload_n hx hb dX8_first_160 rfl (lv_at hl 3 rfl) ?_
      exact gq_iret C hM h dX8_first_161
    · replace h := h.2 hc
      refine lv_iload_n hx hb dX8_first_17 rfl (lv_at hl 1 rfl) ?_
      refine lv_iload hx hb dX8_first_18 (lv_at hl 4 rfl) ?_
      refine lv_ishr hx hb dX8_first_20 ?_
      refine lv_iconst (v := (1 : Int32)) hx hb dX8_first_21 (by decide) ?_
      refine lv_iand hx hb dX8_first_22 ?_
      refine lv_iconst (v := (1 : Int32)) hx hb dX8_first_23 (by decide) ?_
      refine lv_icmp_ne (tgt := 30) hx hb dX8_first_24 (by decide) (fun hc => ?_) (fun hc => ?_)
      · replace h := h.2 hc
        refine lv_iload_n hx hb dX8_first_30 rfl (lv_at hl 3 rfl) ?_
        refine gq_ldc (v := (-1000004 : Int32)) C gw_793 dX8_first_31 ?_
        refine lv_icmp_eq (tgt := 52) hx hb dX8_first_33 (by decide) (fun hc => ?_) (fun hc => ?_)
        · replace h := h.1 hc
          exact tj_X8_first_52 C ih v0 v1 v2 v3 v4 (hv0) I _ _ _ hM (lv_sub hl [0, 1, 2, 3, 4] rfl) h
        · replace h := h.2 hc
          refine lv_aload_n hx hb dX8_first_36 rfl (lv_at hl 0 rfl) ?_
          refine lv_iload hx hb dX8_first_37 (lv_at hl 4 rfl) ?_
          refine lv_iconst (v := (3 : Int32)) hx hb dX8_first_39 (by decide) ?_
          refine gq_backi C hM (gq_runV (As := [.int v4, .int (3 : Int32)]) (rest := []) C hM (kM_lt hv0 (by decide)) (cM_8 hv0) rfl (c_X8_ofJob l L v0 hv0 v4 (3 : Int32) I _ h) k_X8_ofJob gw_877 rfl hl.1 rfl (Nat.le_of_ble_eq_true rfl) ⟨⟨rfl, rfl⟩, Nat.le_of_ble_eq_true rfl, Nat.le_of_ble_eq_true rfl⟩ ⟨Nat.zero_le _, Nat.zero_le _⟩ dX8_first_40) (fun r1 I1 H locs h hM => ?_)
          refine lv_aload_n hx hb dX8_first_43 rfl (lv_at hl 0 rfl) ?_
          refine lv_iload_n hx hb dX8_first_44 rfl (lv_at hl 3 rfl) ?_
          refine lv_iconst (v := (3 : Int32)) hx hb dX8_first_45 (by decide) ?_
          refine gq_backi C hM (gq_runV (As := [.int v3, .int (3 : Int32)]) (rest := [.int r1]) C hM (kM_lt hv0 (by decide)) (cM_8 hv0) rfl (c_X8_ofJob l L v0 hv0 v3 (3 : Int32) I1 _ h) k_X8_ofJob gw_877 rfl hl.1 rfl (Nat.le_of_ble_eq_true rfl) ⟨⟨rfl, rfl⟩, Nat.le_of_ble_eq_true rfl, Nat.le_of_ble_eq_true rfl⟩ ⟨Nat.zero_le _, Nat.zero_le _⟩ dX8_first_46) (fun r2 I2 H locs h hM => ?_)
          refine lv_icmp_le (tgt := 56) hx hb dX8_first_49 (by decide) (fun hc => ?_) (fun hc => ?_)
          · replace h := h.1 hc
            refine lv_iconst (v := (0 : Int32)) hx hb dX8_first_56 (by decide) ?_
            exact tj_X8_first_57 C ih v0 v1 v2 v3 v4 (0 : Int32) (hv0) I2 _ _ _ hM (lv_sub hl [0, 1, 2, 3, 4] rfl) h
          · replace h := h.2 hc
            exact tj_X8_first_52 C ih v0 v1 v2 v3 v4 (hv0) I2 _ _ _ hM (lv_sub hl [0, 1, 2, 3, 4] rfl) h
      · replace h := h.1 hc
        refine lv_goto (tgt := 154) hx hb dX8_first_27 (by decide) ?_
        exact tj_X8_first_154 C ih v0 v1 v2 v3 v4 (hv0) I _ _ _ hM (lv_sub hl [0, 1, 2, 3, 4] rfl) h
set_option maxHeartbeats 4000000 in
set_option maxRecDepth 100000 in
theorem c_X8_first (l : Launch) (L : gx_L) (a0 : Nat) (hk0 : kM a0 = 8) (p0 : Int32) (p1 : Int32) (I : gx_MM) (Q : Int32 → gx_MM → Prop) (h : wp_X8_first a0 p0 p1 I Q) : Met l yX8_first (gx_w yX8_first cX8_first 7 (some .int)) rm_X8_first (va_Pc [.ref (gx_ad L a0), .int p0, .int p1] (gx_U L 7 (cellM L I))) (va_Qi Q (fun I' t => gx_U L 7 (cellM L I') t) (gx_A L)) 0 0 (gx_A L) := by
  refine gq_enter (by decide) (Nat.le_of_ble_eq_true rfl) (fun p e s m below meth c ls C hM hl => ?_)
  have C : gx_C L 7 p s m _ meth c RX8 cX8_first 7 (some .int) := C
  have hl : lv_has ls 7 [(0, .ref (gx_ad L a0)), (1, .int p0), (2, .int p1)] := hl
  have hx := C.1
  have hb := C.2.1
  unfold wp_X8_first at h
  refine gq_ldc (v := (-1000004 : Int32)) C gw_793 dX8_first_0 ?_
  refine lv_istore_n (lv' := [(3, .int (-1000004 : Int32)), (0, .ref (gx_ad L a0)), (1, .int p0), (2, .int p1)]) hx hb dX8_first_2 rfl hl (by decide) rfl (fun ls hl => ?_)
  refine lv_iconst (v := (0 : Int32)) hx hb dX8_first_3 (by decide) ?_
  refine lv_istore (lv' := [(4, .int (0 : Int32)), (3, .int (-1000004 : Int32)), (0, .ref (gx_ad L a0)), (1, .int p0), (2, .int p1)]) hx hb dX8_first_4 hl (by decide) rfl (fun ls hl => ?_)
  obtain ⟨fu, h⟩ := h
  exact tl_X8_first_6 C fu a0 p0 p1 (-1000004 : Int32) (0 : Int32) (hk0) I _ _ _ hM (lv_sub hl [2, 3, 4, 1, 0] rfl) h
theorem k_X8_first : gx_kV yX8_first cX8_first 7 (some .int) 2 := ⟨⟨gw_892, gw_67, by decide, by decide, by decide +kernel⟩, gw_891, gw_39⟩
abbrev rm_X8_note : Room := { frames := 0, cells := 0, slots := 0, locals := 0 }
set_option maxHeartbeats 4000000 in
set_option maxRecDepth 100000 in
theorem tj_X8_note_58 (C : gx_C L 7 p s m args meth c RX8 cX8_note 6 none) {Q : gx_MM → Prop} : ∀ (v0 : Nat) (v1 : Int32) (v2 : Int32) (v3 : Int32) (v4 : Int32) (hv0 : kM v0 = 8) (I : gx_MM) (H : Heap) (locs : List Loc) (ls : Array Slot), gx_S L 7 (cellM L I) s.heap H locs → lv_has ls 6 [(0, .ref (gx_ad L v0)), (1, .int v1), (2, .int v2), (3, .int v3), (4, .int v4)] → wj_X8_note_58 Q v0 v1 v2 v3 v4 I → W p l e rm_X8_note s m args below meth c H locs 0 0 (MQ below (va_Qv Q (fun I' t => gx_U L 7 (cellM L I') t) (gx_A L)) args s 0 0 (gx_A L)) (F0 m 58 ls []) := by
  have hx := C.1
  have hb := C.2.1
  intro v0 v1 v2 v3 v4 hv0 I H locs ls hM hl h
  unfold wj_X8_note_58 at h
  refine lv_sipush (v := (250 : Int32)) hx hb dX8_note_58 (by decide) ?_
  refine lv_iconst (v := (4 : Int32)) hx hb dX8_note_61 (by decide) ?_
  refine lv_aload_n hx hb dX8_note_62 rfl (lv_at hl 0 rfl) ?_
  refine gX8_0 C hM hv0 gw_719 dX8_note_63 ?_
  refine lv_bipush (v := (8 : Int32)) hx hb dX8_note_66 (by decide) ?_
  refine gialdM C hM (kM_8_0 hv0) h.1 dX8_note_68 ?_
  replace h := h.2
  refine lv_imul hx hb dX8_note_69 ?_
  refine lv_iadd hx hb dX8_note_70 ?_
  refine lv_topi (fun x1 ex1 => ?_)
  replace h := h x1 ex1
  refine lv_istore (lv' := [(5, .int x1), (0, .ref (gx_ad L v0)), (1, .int v1), (2, .int v2), (3, .int v3), (4, .int v4)]) hx hb dX8_note_71 hl (by decide) rfl (fun ls hl => ?_)
  refine lv_aload_n hx hb dX8_note_73 rfl (lv_at hl 1 rfl) ?_
  refine gX8_0 C hM hv0 gw_719 dX8_note_74 ?_
  refine lv_iload hx hb dX8_note_77 (lv_at hl 0 rfl) ?_
  refine lv_iload_n hx hb dX8_note_79 rfl (lv_at hl 2 rfl) ?_
  have hi := h.1
  replace h := h.2
  obtain ⟨I1, eI1⟩ : ∃ z : gx_MM, z = um I (v0 + 1) x1.toNatClampNeg v1 := ⟨_, rfl⟩
  replace h := h I1 eI1
  refine giastM C hM (kM_8_0 hv0) hi eI1 dX8_note_80 (fun H locs hM => ?_)
  refine lv_aload_n hx hb dX8_note_81 rfl (lv_at hl 1 rfl) ?_
  refine gX8_0 C hM hv0 gw_719 dX8_note_82 ?_
  refine lv_iload hx hb dX8_note_85 (lv_at hl 0 rfl) ?_
  refine lv_iconst (v := (1 : Int32)) hx hb dX8_note_87 (by decide) ?_
  refine lv_iadd hx hb dX8_note_88 ?_
  refine lv_iload_n hx hb dX8_note_89 rfl (lv_at hl 3 rfl) ?_
  have hi := h.1
  replace h := h.2
  obtain ⟨I2, eI2⟩ : ∃ z : gx_MM, z = um I1 (v0 + 1) (x1 + (1 : Int32)).toNatClampNeg v2 := ⟨_, rfl⟩
  replace h := h I2 eI2
  refine giastM C hM (kM_8_0 hv0) hi eI2 dX8_note_90 (fun H locs hM => ?_)
  refine lv_aload_n hx hb dX8_note_91 rfl (lv_at hl 1 rfl) ?_
  refine gX8_0 C hM hv0 gw_719 dX8_note_92 ?_
  refine lv_iload hx hb dX8_note_95 (lv_at hl 0 rfl) ?_
  refine lv_iconst (v := (2 : Int32)) hx hb dX8_note_97 (by decide) ?_
  refine lv_iadd hx hb dX8_note_98 ?_
  refine lv_iload_n hx hb dX8_note_99 rfl (lv_at hl 4 rfl) ?_
  have hi := h.1
  replace h := h.2
  obtain ⟨I3, eI3⟩ : ∃ z : gx_MM, z = um I2 (v0 + 1) (x1 + (2 : Int32)).toNatClampNeg v3 := ⟨_, rfl⟩
  replace h := h I3 eI3
  refine giastM C hM (kM_8_0 hv0) hi eI3 dX8_note_100 (fun H locs hM => ?_)
  refine lv_aload_n hx hb dX8_note_101 rfl (lv_at hl 1 rfl) ?_
  refine gX8_0 C hM hv0 gw_719 dX8_note_102 ?_
  refine lv_iload hx hb dX8_note_105 (lv_at hl 0 rfl) ?_
  refine lv_iconst (v := (3 : Int32)) hx hb dX8_note_107 (by decide) ?_
  refine lv_iadd hx hb dX8_note_108 ?_
  refine lv_iload hx hb dX8_note_109 (lv_at hl 5 rfl) ?_
  have hi := h.1
  replace h := h.2
  obtain ⟨I4, eI4⟩ : ∃ z : gx_MM, z = um I3 (v0 + 1) (x1 + (3 : Int32)).toNatClampNeg v4 := ⟨_, rfl⟩
  replace h := h I4 eI4
  refine giastM C hM (kM_8_0 hv0) hi eI4 dX8_note_111 (fun H locs hM => ?_)
  refine lv_aload_n hx hb dX8_note_112 rfl (lv_at hl 1 rfl) ?_
  refine gX8_0 C hM hv0 gw_719 dX8_note_113 ?_
  refine lv_bipush (v := (8 : Int32)) hx hb dX8_note_116 (by decide) ?_
  refine lv_dup2_11 hx hb dX8_note_118 rfl rfl ?_
  refine gialdM C hM (kM_8_0 hv0) h.1 dX8_note_119 ?_
  replace h := h.2
  refine lv_iconst (v := (1 : Int32)) hx hb dX8_note_120 (by decide) ?_
  refine lv_iadd hx hb dX8_note_121 ?_
  have hi := h.1
  replace h := h.2
  obtain ⟨I5, eI5⟩ : ∃ z : gx_MM, z = um I4 (v0 + 1) (8 : Int32).toNatClampNeg ((I4.1 (v0 + 1) (8 : Int32).toNatClampNeg) + (1 : Int32)) := ⟨_, rfl⟩
  replace h := h I5 eI5
  refine giastM C hM (kM_8_0 hv0) hi eI5 dX8_note_122 (fun H locs hM => ?_)
  exact gq_vret C hM h dX8_note_123
set_option maxHeartbeats 4000000 in
set_option maxRecDepth 100000 in
theorem tl_X8_note_17 (C : gx_C L 7 p s m args meth c RX8 cX8_note 6 none) {Q : gx_MM → Prop} : ∀ (fu : Nat) (v0 : Nat) (v1 : Int32) (v2 : Int32) (v3 : Int32) (v4 : Int32) (v5 : Int32) (hv0 : kM v0 = 8) (I : gx_MM) (H : Heap) (locs : List Loc) (ls : Array Slot), gx_S L 7 (cellM L I) s.heap H locs → lv_has ls 6 [(0, .ref (gx_ad L v0)), (1, .int v1), (2, .int v2), (3, .int v3), (4, .int v4), (5, .int v5)] → wl_X8_note_17 Q fu v0 v1 v2 v3 v4 v5 I → W p l e rm_X8_note s m args below meth c H locs 0 0 (MQ below (va_Qv Q (fun I' t => gx_U L 7 (cellM L I') t) (gx_A L)) args s 0 0 (gx_A L)) (F0 m 17 ls []) := by
  have hx := C.1
  have hb := C.2.1
  intro fu
  induction fu with
  | zero => intros; rename_i h; exact False.elim h
  | succ fu ih =>
    intro v0 v1 v2 v3 v4 v5 hv0 I H locs ls hM hl h
    rw [wl_X8_note_17] at h
    refine lv_iload hx hb dX8_note_17 (lv_at hl 5 rfl) ?_
    refine lv_sipush (v := (294 : Int32)) hx hb dX8_note_19 (by decide) ?_
    refine lv_icmp_ge (tgt := 47) hx hb dX8_note_22 (by decide) (fun hc => ?_) (fun hc => ?_)
    · replace h := h.1 hc
      refine lv_aload_n hx hb dX8_note_47 rfl (lv_at hl 0 rfl) ?_
      refine gX8_0 C hM hv0 gw_719 dX8_note_48 ?_
      refine lv_bipush (v := (8 : Int32)) hx hb dX8_note_51 (by decide) ?_
      refine lv_dup2_11 hx hb dX8_note_53 rfl rfl ?_
      refine gialdM C hM (kM_8_0 hv0) h.1 dX8_note_54 ?_
      replace h := h.2
      refine lv_iconst (v := (1 : Int32)) hx hb dX8_note_55 (by decide) ?_
      refine lv_isub hx hb dX8_note_56 ?_
      have hi := h.1
      replace h := h.2
      obtain ⟨I1, eI1⟩ : ∃ z : gx_MM, z = um I (v0 + 1) (8 : Int32).toNatClampNeg ((I.1 (v0 + 1) (8 : Int32).toNatClampNeg) - (1 : Int32)) := ⟨_, rfl⟩
      replace h := h I1 eI1
      refine giastM C hM (kM_8_0 hv0) hi eI1 dX8_note_57 (fun H locs hM => ?_)
      exact tj_X8_note_58 C v0 v1 v2 v3 v4 (hv0) I1 _ _ _ hM (lv_sub hl [0, 1, 2, 3, 4] rfl) h
    · replace h := h.2 hc
      refine lv_aload_n hx hb dX8_note_25 rfl (lv_at hl 0 rfl) ?_
      refine gX8_0 C hM hv0 gw_719 dX8_note_26 ?_
      refine lv_iload hx hb dX8_note_29 (lv_at hl 5 rfl) ?_
      refine lv_aload_n hx hb dX8_note_31 rfl (lv_at hl 0 rfl) ?_
      refine gX8_0 C hM hv0 gw_719 dX8_note_32 ?_
      refine lv_iload hx hb dX8_note_35 (lv_at hl 5 rfl) ?_
      refine lv_iconst (v := (4 : Int32)) hx hb dX8_note_37 (by decide) ?_
      refine lv_iadd hx hb dX8_note_38 ?_
      refine gialdM C hM (kM_8_0 hv0) h.1 dX8_note_39 ?_
      replace h := h.2
      have hi := h.1
      replace h := h.2
      obtain ⟨I2, eI2⟩ : ∃ z : gx_MM, z = um I (v0 + 1) v5.toNatClampNeg (I.1 (v0 + 1) (v5 + (4 : Int32)).toNatClampNeg) := ⟨_, rfl⟩
      replace h := h I2 eI2
      refine giastM C hM (kM_8_0 hv0) hi eI2 dX8_note_40 (fun H locs hM => ?_)
      obtain ⟨x1, ex1⟩ : ∃ z : Int32, z = v5 + (1 : Int32) := ⟨_, rfl⟩
      replace h := h x1 ex1
      refine lv_iinc (v := x1) (lv' := [(5, .int x1), (0, .ref (gx_ad L v0)), (1, .int v1), (2, .int v2), (3, .int v3), (4, .int v4)]) hx hb dX8_note_41 hl (k := 5) rfl (by rw [ex1]; rfl) (by decide) rfl (fun ls hl => ?_)
      refine lv_goto (tgt := 17) hx hb dX8_note_44 (by decide) ?_
      exact ih v0 v1 v2 v3 v4 x1 (hv0) I2 _ _ _ hM (lv_sub hl [1, 2, 3, 4, 5, 0] rfl) h
set_option maxHeartbeats 4000000 in
set_option maxRecDepth 100000 in
theorem c_X8_note (l : Launch) (L : gx_L) (a0 : Nat) (hk0 : kM a0 = 8) (p0 : Int32) (p1 : Int32) (p2 : Int32) (p3 : Int32) (I : gx_MM) (Q : gx_MM → Prop) (h : wp_X8_note a0 p0 p1 p2 p3 I Q) : Met l yX8_note (gx_w yX8_note cX8_note 6 none) rm_X8_note (va_Pc [.ref (gx_ad L a0), .int p0, .int p1, .int p2, .int p3] (gx_U L 7 (cellM L I))) (va_Qv Q (fun I' t => gx_U L 7 (cellM L I') t) (gx_A L)) 0 0 (gx_A L) := by
  refine gq_enter (by decide) (Nat.le_of_ble_eq_true rfl) (fun p e s m below meth c ls C hM hl => ?_)
  have C : gx_C L 7 p s m _ meth c RX8 cX8_note 6 none := C
  have hl : lv_has ls 6 [(0, .ref (gx_ad L a0)), (1, .int p0), (2, .int p1), (3, .int p2), (4, .int p3)] := hl
  have hx := C.1
  have hb := C.2.1
  unfold wp_X8_note at h
  refine lv_aload_n hx hb dX8_note_0 rfl (lv_at hl 0 rfl) ?_
  refine gX8_0 C hM hk0 gw_719 dX8_note_1 ?_
  refine lv_bipush (v := (8 : Int32)) hx hb dX8_note_4 (by decide) ?_
  refine gialdM C hM (kM_8_0 hk0) h.1 dX8_note_6 ?_
  replace h := h.2
  refine lv_bipush (v := (12 : Int32)) hx hb dX8_note_7 (by decide) ?_
  refine lv_icmp_ne (tgt := 58) hx hb dX8_note_9 (by decide) (fun hc => ?_) (fun hc => ?_)
  · replace h := h.2 hc
    exact tj_X8_note_58 C a0 p0 p1 p2 p3 (hk0) I _ _ _ hM (lv_sub hl [0, 1, 2, 3, 4] rfl) h
  · replace h := h.1 hc
    refine lv_sipush (v := (250 : Int32)) hx hb dX8_note_12 (by decide) ?_
    refine lv_istore (lv' := [(5, .int (250 : Int32)), (0, .ref (gx_ad L a0)), (1, .int p0), (2, .int p1), (3, .int p2), (4, .int p3)]) hx hb dX8_note_15 hl (by decide) rfl (fun ls hl => ?_)
    obtain ⟨fu, h⟩ := h
    exact tl_X8_note_17 C fu a0 p0 p1 p2 p3 (250 : Int32) (hk0) I _ _ _ hM (lv_sub hl [1, 2, 3, 4, 5, 0] rfl) h
theorem k_X8_note : gx_kV yX8_note cX8_note 6 none 4 := ⟨⟨gw_966, gw_67, by decide, by decide, by decide +kernel⟩, gw_965, gw_53⟩
abbrev rm_X8_sin : Room := { frames := 2, cells := 0, slots := 0, locals := 41 }
set_option maxHeartbeats 4000000 in
set_option maxRecDepth 100000 in
theorem c_X8_sin (l : Launch) (L : gx_L) (p0 : Int32) (I : gx_MM) (Q : Int32 → gx_MM → Prop) (h : wp_X8_sin p0 I Q) : Met l yX8_sin (gx_w yX8_sin cX8_sin 1 (some .int)) rm_X8_sin (va_Pc [.int p0] (gx_U L 7 (cellM L I))) (va_Qi Q (fun I' t => gx_U L 7 (cellM L I') t) (gx_A L)) 0 0 (gx_A L) := by
  refine gq_enter (by decide) (Nat.le_of_ble_eq_true rfl) (fun p e s m below meth c ls C hM hl => ?_)
  have C : gx_C L 7 p s m _ meth c RX8 cX8_sin 1 (some .int) := C
  have hl : lv_has ls 1 [(0, .int p0)] := hl
  have hx := C.1
  have hb := C.2.1
  unfold wp_X8_sin at h
  refine lv_iload_n hx hb dX8_sin_0 rfl (lv_at hl 0 rfl) ?_
  refine lv_bipush (v := (6 : Int32)) hx hb dX8_sin_1 (by decide) ?_
  refine lv_icmp_lt (tgt := 16) hx hb dX8_sin_3 (by decide) (fun hc => ?_) (fun hc => ?_)
  · replace h := h.1 hc
    refine lv_bipush (v := (6 : Int32)) hx hb dX8_sin_16 (by decide) ?_
    refine lv_iload_n hx hb dX8_sin_18 rfl (lv_at hl 0 rfl) ?_
    refine lv_isub hx hb dX8_sin_19 ?_
    refine gq_backi C hM (gq_runS (As := [.int ((6 : Int32) - p0)]) (rest := []) C hM (c_X8_cos l L ((6 : Int32) - p0) I _ h) k_X8_cos gw_945 rfl hl.1 rfl (Nat.le_of_ble_eq_true rfl) ⟨⟨rfl, rfl⟩, Nat.le_of_ble_eq_true rfl, Nat.le_of_ble_eq_true rfl⟩ ⟨Nat.zero_le _, Nat.zero_le _⟩ dX8_sin_20) (fun r1 I1 H locs h hM => ?_)
    exact gq_iret C hM h dX8_sin_23
  · replace h := h.2 hc
    refine lv_iload_n hx hb dX8_sin_6 rfl (lv_at hl 0 rfl) ?_
    refine lv_bipush (v := (6 : Int32)) hx hb dX8_sin_7 (by decide) ?_
    refine lv_isub hx hb dX8_sin_9 ?_
    refine gq_backi C hM (gq_runS (As := [.int (p0 - (6 : Int32))]) (rest := []) C hM (c_X8_cos l L (p0 - (6 : Int32)) I _ h) k_X8_cos gw_945 rfl hl.1 rfl (Nat.le_of_ble_eq_true rfl) ⟨⟨rfl, rfl⟩, Nat.le_of_ble_eq_true rfl, Nat.le_of_ble_eq_true rfl⟩ ⟨Nat.zero_le _, Nat.zero_le _⟩ dX8_sin_10) (fun r2 I2 H locs h hM => ?_)
    refine lv_goto (tgt := 23) hx hb dX8_sin_13 (by decide) ?_
    exact gq_iret C hM h dX8_sin_23
theorem k_X8_sin : gx_kS yX8_sin cX8_sin 1 (some .int) 1 := ⟨⟨gw_953, gw_67, by decide, by decide, by decide +kernel⟩, gw_952⟩
abbrev rm_X8_pullOf : Room := { frames := 3, cells := 0, slots := 0, locals := 61 }
set_option maxHeartbeats 4000000 in
set_option maxRecDepth 100000 in
theorem c_X8_pullOf (l : Launch) (L : gx_L) (a0 : Nat) (hk0 : kM a0 = 8) (p0 : Int32) (I : gx_MM) (Q : Int64 → gx_MM → Prop) (h : wp_X8_pullOf a0 p0 I Q) : Met l yX8_pullOf (gx_w yX8_pullOf cX8_pullOf 2 (some .long)) rm_X8_pullOf (va_Pc [.ref (gx_ad L a0), .int p0] (gx_U L 7 (cellM L I))) (va_Ql Q (fun I' t => gx_U L 7 (cellM L I') t) (gx_A L)) 0 0 (gx_A L) := by
  refine gq_enter (by decide) (Nat.le_of_ble_eq_true rfl) (fun p e s m below meth c ls C hM hl => ?_)
  have C : gx_C L 7 p s m _ meth c RX8 cX8_pullOf 2 (some .long) := C
  have hl : lv_has ls 2 [(0, .ref (gx_ad L a0)), (1, .int p0)] := hl
  have hx := C.1
  have hb := C.2.1
  unfold wp_X8_pullOf at h
  refine lv_aload_n hx hb dX8_pullOf_0 rfl (lv_at hl 0 rfl) ?_
  refine gX8_6 C hM hk0 gw_725 dX8_pullOf_1 ?_
  refine lv_aload_n hx hb dX8_pullOf_4 rfl (lv_at hl 0 rfl) ?_
  refine gX8_7 C hM hk0 gw_726 dX8_pullOf_5 ?_
  refine lv_lsub hx hb dX8_pullOf_8 ?_
  refine lv_iload_n hx hb dX8_pullOf_9 rfl (lv_at hl 1 rfl) ?_
  refine gq_backi C hM (gq_runS (As := [.int p0]) (rest := [.long ((I.2 6) - (I.2 7))]) C hM (c_X8_cos l L p0 I _ h) k_X8_cos gw_945 rfl hl.1 rfl (Nat.le_of_ble_eq_true rfl) ⟨⟨rfl, rfl⟩, Nat.le_of_ble_eq_true rfl, Nat.le_of_ble_eq_true rfl⟩ ⟨Nat.zero_le _, Nat.zero_le _⟩ dX8_pullOf_10) (fun r1 I1 H locs h hM => ?_)
  refine lv_i2l hx hb dX8_pullOf_13 rfl ?_
  refine lv_lmul hx hb dX8_pullOf_14 ?_
  refine lv_aload_n hx hb dX8_pullOf_15 rfl (lv_at hl 0 rfl) ?_
  refine gX8_8 C hM hk0 gw_727 dX8_pullOf_16 ?_
  refine lv_iload_n hx hb dX8_pullOf_19 rfl (lv_at hl 1 rfl) ?_
  refine gq_backi C hM (gq_runS (As := [.int p0]) (rest := [.long (I1.2 8), .long (((I.2 6) - (I.2 7)) * (Int32.toInt64 r1))]) C hM (c_X8_sin l L p0 I1 _ h) k_X8_sin gw_951 rfl hl.1 rfl (Nat.le_of_ble_eq_true rfl) ⟨⟨rfl, rfl⟩, Nat.le_of_ble_eq_true rfl, Nat.le_of_ble_eq_true rfl⟩ ⟨Nat.zero_le _, Nat.zero_le _⟩ dX8_pullOf_20) (fun r2 I2 H locs h hM => ?_)
  refine lv_i2l hx hb dX8_pullOf_23 rfl ?_
  refine lv_lmul hx hb dX8_pullOf_24 ?_
  refine lv_ladd hx hb dX8_pullOf_25 ?_
  exact gq_lret C hM h dX8_pullOf_26
theorem k_X8_pullOf : gx_kV yX8_pullOf cX8_pullOf 2 (some .long) 1 := ⟨⟨gw_944, gw_67, by decide, by decide, by decide +kernel⟩, gw_943, gw_50⟩
abbrev rm_X8_find : Room := { frames := 6, cells := 0, slots := 0, locals := 143 }
set_option maxHeartbeats 4000000 in
set_option maxRecDepth 100000 in
theorem tj_X8_find_158 (C : gx_C L 7 p s m args meth c RX8 cX8_find 9 none) {Q : gx_MM → Prop} {K121 : Nat → Int32 → gx_MM → Prop} (hK121 : ∀ (v0 : Nat) (v8 : Int32) (hv0 : kM v0 = 8) (I : gx_MM) (H : Heap) (locs : List Loc) (ls : Array Slot), gx_S L 7 (cellM L I) s.heap H locs → lv_has ls 9 [(0, .ref (gx_ad L v0)), (8, .int v8)] → K121 v0 v8 I → W p l e rm_X8_find s m args below meth c H locs 0 0 (MQ below (va_Qv Q (fun I' t => gx_U L 7 (cellM L I') t) (gx_A L)) args s 0 0 (gx_A L)) (F0 m 121 ls [])) : ∀ (v0 : Nat) (v8 : Int32) (hv0 : kM v0 = 8) (I : gx_MM) (H : Heap) (locs : List Loc) (ls : Array Slot), gx_S L 7 (cellM L I) s.heap H locs → lv_has ls 9 [(0, .ref (gx_ad L v0)), (8, .int v8)] → wj_X8_find_158 Q K121 v0 v8 I → W p l e rm_X8_find s m args below meth c H locs 0 0 (MQ below (va_Qv Q (fun I' t => gx_U L 7 (cellM L I') t) (gx_A L)) args s 0 0 (gx_A L)) (F0 m 158 ls []) := by
  have hx := C.1
  have hb := C.2.1
  intro v0 v8 hv0 I H locs ls hM hl h
  unfold wj_X8_find_158 at h
  obtain ⟨x1, ex1⟩ : ∃ z : Int32, z = v8 + (1 : Int32) := ⟨_, rfl⟩
  replace h := h x1 ex1
  refine lv_iinc (v := x1) (lv' := [(8, .int x1), (0, .ref (gx_ad L v0))]) hx hb dX8_find_158 hl (k := 1) rfl (by rw [ex1]; rfl) (by decide) rfl (fun ls hl => ?_)
  refine lv_goto (tgt := 121) hx hb dX8_find_161 (by decide) ?_
  exact hK121 v0 x1 (hv0) I _ _ _ hM (lv_sub hl [1, 0] rfl) h
set_option maxHeartbeats 4000000 in
set_option maxRecDepth 100000 in
theorem tl_X8_find_121 (C : gx_C L 7 p s m args meth c RX8 cX8_find 9 none) {Q : gx_MM → Prop} : ∀ (fu : Nat) (v0 : Nat) (v8 : Int32) (hv0 : kM v0 = 8) (I : gx_MM) (H : Heap) (locs : List Loc) (ls : Array Slot), gx_S L 7 (cellM L I) s.heap H locs → lv_has ls 9 [(0, .ref (gx_ad L v0)), (8, .int v8)] → wl_X8_find_121 Q fu v0 v8 I → W p l e rm_X8_find s m args below meth c H locs 0 0 (MQ below (va_Qv Q (fun I' t => gx_U L 7 (cellM L I') t) (gx_A L)) args s 0 0 (gx_A L)) (F0 m 121 ls []) := by
  have hx := C.1
  have hb := C.2.1
  intro fu
  induction fu with
  | zero => intros; rename_i h; exact False.elim h
  | succ fu ih =>
    intro v0 v8 hv0 I H locs ls hM hl h
    rw [wl_X8_find_121] at h
    refine lv_iload hx hb dX8_find_121 (lv_at hl 1 rfl) ?_
    refine lv_bipush (v := (24 : Int32)) hx hb dX8_find_123 (by decide) ?_
    refine lv_icmp_ge (tgt := 164) hx hb dX8_find_125 (by decide) (fun hc => ?_) (fun hc => ?_)
    · replace h := h.1 hc
      exact gq_vret C hM h dX8_find_164
    · replace h := h.2 hc
      refine lv_aload_n hx hb dX8_find_128 rfl (lv_at hl 0 rfl) ?_
      refine lv_iload hx hb dX8_find_129 (lv_at hl 1 rfl) ?_
      refine gq_backl C hM (gq_runV (As := [.int v8]) (rest := []) C hM (kM_lt hv0 (by decide)) (cM_8 hv0) rfl (c_X8_pullOf l L v0 hv0 v8 I _ h) k_X8_pullOf gw_941 rfl hl.1 rfl (Nat.le_of_ble_eq_true rfl) ⟨⟨rfl, rfl⟩, Nat.le_of_ble_eq_true rfl, Nat.le_of_ble_eq_true rfl⟩ ⟨Nat.zero_le _, Nat.zero_le _⟩ dX8_find_131) (fun r1 I1 H locs h hM => ?_)
      refine lv_aload_n hx hb dX8_find_134 rfl (lv_at hl 0 rfl) ?_
      refine gX8_10 C hM hv0 gw_729 dX8_find_135 ?_
      refine W.lcmp hx hb dX8_find_138 ?_
      refine lv_if_le (tgt := 158) hx hb dX8_find_139 (by decide) (fun hc => ?_) (fun hc => ?_)
      · replace h := h.1 hc
        exact tj_X8_find_158 C ih v0 v8 (hv0) I1 _ _ _ hM (lv_sub hl [0, 1] rfl) h
      · replace h := h.2 hc
        refine lv_aload_n hx hb dX8_find_142 rfl (lv_at hl 0 rfl) ?_
        refine lv_aload_n hx hb dX8_find_143 rfl (lv_at hl 0 rfl) ?_
        refine lv_iload hx hb dX8_find_144 (lv_at hl 1 rfl) ?_
        refine gq_backl C hM (gq_runV (As := [.int v8]) (rest := [.ref (gx_ad L v0)]) C hM (kM_lt hv0 (by decide)) (cM_8 hv0) rfl (c_X8_pullOf l L v0 hv0 v8 I1 _ h) k_X8_pullOf gw_941 rfl hl.1 rfl (Nat.le_of_ble_eq_true rfl) ⟨⟨rfl, rfl⟩, Nat.le_of_ble_eq_true rfl, Nat.le_of_ble_eq_true rfl⟩ ⟨Nat.zero_le _, Nat.zero_le _⟩ dX8_find_146) (fun r2 I2 H locs h hM => ?_)
        obtain ⟨I3, eI3⟩ : ∃ z : gx_MM, z = ul I2 10 r2 := ⟨_, rfl⟩
        replace h := h I3 eI3
        refine pX8_10 C hM hv0 eI3 gw_729 dX8_find_149 (fun H locs hM => ?_)
        refine lv_aload_n hx hb dX8_find_152 rfl (lv_at hl 0 rfl) ?_
        refine lv_iload hx hb dX8_find_153 (lv_at hl 1 rfl) ?_
        obtain ⟨I4, eI4⟩ : ∃ z : gx_MM, z = um I3 v0 9 v8 := ⟨_, rfl⟩
        replace h := h I4 eI4
        refine pX8_9 C hM hv0 eI4 gw_728 dX8_find_155 (fun H locs hM => ?_)
        exact tj_X8_find_158 C ih v0 v8 (hv0) I4 _ _ _ hM (lv_sub hl [0, 1] rfl) h
set_option maxHeartbeats 4000000 in
set_option maxRecDepth 100000 in
theorem tj_X8_find_104 (C : gx_C L 7 p s m args meth c RX8 cX8_find 9 none) {Q : gx_MM → Prop} : ∀ (v0 : Nat) (hv0 : kM v0 = 8) (I : gx_MM) (H : Heap) (locs : List Loc) (ls : Array Slot), gx_S L 7 (cellM L I) s.heap H locs → lv_has ls 9 [(0, .ref (gx_ad L v0))] → wj_X8_find_104 Q v0 I → W p l e rm_X8_find s m args below meth c H locs 0 0 (MQ below (va_Qv Q (fun I' t => gx_U L 7 (cellM L I') t) (gx_A L)) args s 0 0 (gx_A L)) (F0 m 104 ls []) := by
  have hx := C.1
  have hb := C.2.1
  intro v0 hv0 I H locs ls hM hl h
  unfold wj_X8_find_104 at h
  refine lv_aload_n hx hb dX8_find_104 rfl (lv_at hl 0 rfl) ?_
  refine lv_iconst (v := (0 : Int32)) hx hb dX8_find_105 (by decide) ?_
  obtain ⟨I1, eI1⟩ : ∃ z : gx_MM, z = um I v0 9 (0 : Int32) := ⟨_, rfl⟩
  replace h := h I1 eI1
  refine pX8_9 C hM hv0 eI1 gw_728 dX8_find_106 (fun H locs hM => ?_)
  refine lv_aload_n hx hb dX8_find_109 rfl (lv_at hl 0 rfl) ?_
  refine lv_aload_n hx hb dX8_find_110 rfl (lv_at hl 0 rfl) ?_
  refine lv_iconst (v := (0 : Int32)) hx hb dX8_find_111 (by decide) ?_
  refine gq_backl C hM (gq_runV (As := [.int (0 : Int32)]) (rest := [.ref (gx_ad L v0)]) C hM (kM_lt hv0 (by decide)) (cM_8 hv0) rfl (c_X8_pullOf l L v0 hv0 (0 : Int32) I1 _ h) k_X8_pullOf gw_941 rfl hl.1 rfl (Nat.le_of_ble_eq_true rfl) ⟨⟨rfl, rfl⟩, Nat.le_of_ble_eq_true rfl, Nat.le_of_ble_eq_true rfl⟩ ⟨Nat.zero_le _, Nat.zero_le _⟩ dX8_find_112) (fun r1 I2 H locs h hM => ?_)
  obtain ⟨I3, eI3⟩ : ∃ z : gx_MM, z = ul I2 10 r1 := ⟨_, rfl⟩
  replace h := h I3 eI3
  refine pX8_10 C hM hv0 eI3 gw_729 dX8_find_115 (fun H locs hM => ?_)
  refine lv_iconst (v := (1 : Int32)) hx hb dX8_find_118 (by decide) ?_
  refine lv_istore (lv' := [(8, .int (1 : Int32)), (0, .ref (gx_ad L v0))]) hx hb dX8_find_119 hl (by decide) rfl (fun ls hl => ?_)
  obtain ⟨fu, h⟩ := h
  exact tl_X8_find_121 C fu v0 (1 : Int32) (hv0) I3 _ _ _ hM (lv_sub hl [1, 0] rfl) h
set_option maxHeartbeats 4000000 in
set_option maxRecDepth 100000 in
theorem c_X8_find (l : Launch) (L : gx_L) (a0 : Nat) (hk0 : kM a0 = 8) (p0 : Int32) (I : gx_MM) (Q : gx_MM → Prop) (h : wp_X8_find a0 p0 I Q) : Met l yX8_find (gx_w yX8_find cX8_find 9 none) rm_X8_find (va_Pc [.ref (gx_ad L a0), .int p0] (gx_U L 7 (cellM L I))) (va_Qv Q (fun I' t => gx_U L 7 (cellM L I') t) (gx_A L)) 0 0 (gx_A L) := by
  refine gq_enter (by decide) (Nat.le_of_ble_eq_true rfl) (fun p e s m below meth c ls C hM hl => ?_)
  have C : gx_C L 7 p s m _ meth c RX8 cX8_find 9 none := C
  have hl : lv_has ls 9 [(0, .ref (gx_ad L a0)), (1, .int p0)] := hl
  have hx := C.1
  have hb := C.2.1
  unfold wp_X8_find at h
  refine lv_aload_n hx hb dX8_find_0 rfl (lv_at hl 0 rfl) ?_
  refine lv_iload_n hx hb dX8_find_1 rfl (lv_at hl 1 rfl) ?_
  refine lv_iconst (v := (0 : Int32)) hx hb dX8_find_2 (by decide) ?_
  refine gq_backi C hM (gq_runV (As := [.int p0, .int (0 : Int32)]) (rest := []) C hM (kM_lt hk0 (by decide)) (cM_8 hk0) rfl (c_X8_correctedOf l L a0 hk0 p0 (0 : Int32) I _ h) k_X8_correctedOf gw_932 rfl hl.1 rfl (Nat.le_of_ble_eq_true rfl) ⟨⟨rfl, rfl⟩, Nat.le_of_ble_eq_true rfl, Nat.le_of_ble_eq_true rfl⟩ ⟨Nat.zero_le _, Nat.zero_le _⟩ dX8_find_3) (fun r1 I1 H locs h hM => ?_)
  refine lv_i2l hx hb dX8_find_6 rfl ?_
  refine lv_topl (fun x1 ex1 => ?_)
  replace h := h x1 ex1
  refine lv_lstore_n (lv' := [(2, .long x1), (0, .ref (gx_ad L a0)), (1, .int p0)]) hx hb dX8_find_7 rfl hl (by decide) rfl (fun ls hl => ?_)
  refine lv_aload_n hx hb dX8_find_8 rfl (lv_at hl 1 rfl) ?_
  refine lv_iload_n hx hb dX8_find_9 rfl (lv_at hl 2 rfl) ?_
  refine lv_iconst (v := (1 : Int32)) hx hb dX8_find_10 (by decide) ?_
  refine gq_backi C hM (gq_runV (As := [.int p0, .int (1 : Int32)]) (rest := []) C hM (kM_lt hk0 (by decide)) (cM_8 hk0) rfl (c_X8_correctedOf l L a0 hk0 p0 (1 : Int32) I1 _ h) k_X8_correctedOf gw_932 rfl hl.1 rfl (Nat.le_of_ble_eq_true rfl) ⟨⟨rfl, rfl⟩, Nat.le_of_ble_eq_true rfl, Nat.le_of_ble_eq_true rfl⟩ ⟨Nat.zero_le _, Nat.zero_le _⟩ dX8_find_11) (fun r2 I2 H locs h hM => ?_)
  refine lv_i2l hx hb dX8_find_14 rfl ?_
  refine lv_topl (fun x2 ex2 => ?_)
  replace h := h x2 ex2
  refine lv_lstore (lv' := [(4, .long x2), (2, .long x1), (0, .ref (gx_ad L a0)), (1, .int p0)]) hx hb dX8_find_15 hl (by decide) rfl (fun ls hl => ?_)
  refine lv_aload_n hx hb dX8_find_17 rfl (lv_at hl 2 rfl) ?_
  refine lv_iload_n hx hb dX8_find_18 rfl (lv_at hl 3 rfl) ?_
  refine lv_iconst (v := (2 : Int32)) hx hb dX8_find_19 (by decide) ?_
  refine gq_backi C hM (gq_runV (As := [.int p0, .int (2 : Int32)]) (rest := []) C hM (kM_lt hk0 (by decide)) (cM_8 hk0) rfl (c_X8_correctedOf l L a0 hk0 p0 (2 : Int32) I2 _ h) k_X8_correctedOf gw_932 rfl hl.1 rfl (Nat.le_of_ble_eq_true rfl) ⟨⟨rfl, rfl⟩, Nat.le_of_ble_eq_true rfl, Nat.le_of_ble_eq_true rfl⟩ ⟨Nat.zero_le _, Nat.zero_le _⟩ dX8_find_20) (fun r3 I3 H locs h hM => ?_)
  refine lv_i2l hx hb dX8_find_23 rfl ?_
  refine lv_topl (fun x3 ex3 => ?_)
  replace h := h x3 ex3
  refine lv_lstore (lv' := [(6, .long x3), (4, .long x2), (2, .long x1), (0, .ref (gx_ad L a0)), (1, .int p0)]) hx hb dX8_find_24 hl (by decide) rfl (fun ls hl => ?_)
  refine lv_aload_n hx hb dX8_find_26 rfl (lv_at hl 3 rfl) ?_
  refine lv_lload_n hx hb dX8_find_27 rfl (lv_at hl 2 rfl) ?_
  obtain ⟨I4, eI4⟩ : ∃ z : gx_MM, z = ul I3 6 x1 := ⟨_, rfl⟩
  replace h := h I4 eI4
  refine pX8_6 C hM hk0 eI4 gw_725 dX8_find_28 (fun H locs hM => ?_)
  refine lv_aload_n hx hb dX8_find_31 rfl (lv_at hl 3 rfl) ?_
  refine lv_iload_n hx hb dX8_find_32 rfl (lv_at hl 4 rfl) ?_
  refine lv_iconst (v := (1 : Int32)) hx hb dX8_find_33 (by decide) ?_
  refine gq_backi C hM (gq_runV (As := [.int p0, .int (1 : Int32)]) (rest := []) C hM (kM_lt hk0 (by decide)) (cM_8 hk0) rfl (c_X8_of l L a0 hk0 p0 (1 : Int32) I4 _ h) k_X8_of gw_789 rfl hl.1 rfl (Nat.le_of_ble_eq_true rfl) ⟨⟨rfl, rfl⟩, Nat.le_of_ble_eq_true rfl, Nat.le_of_ble_eq_true rfl⟩ ⟨Nat.zero_le _, Nat.zero_le _⟩ dX8_find_34) (fun r4 I5 H locs h hM => ?_)
  refine lv_if_ne (tgt := 64) hx hb dX8_find_37 (by decide) (fun hc => ?_) (fun hc => ?_)
  · replace h := h.2 hc
    refine lv_aload_n hx hb dX8_find_64 rfl (lv_at hl 3 rfl) ?_
    refine gq_ldc2 (v := (2 : Int64)) C gw_937 dX8_find_65 ?_
    refine lv_lload hx hb dX8_find_68 (lv_at hl 1 rfl) ?_
    refine lv_lmul hx hb dX8_find_70 ?_
    refine gq_ldc2 (v := (2 : Int64)) C gw_937 dX8_find_71 ?_
    refine lv_lload hx hb dX8_find_74 (lv_at hl 0 rfl) ?_
    refine lv_lmul hx hb dX8_find_76 ?_
    refine lv_ladd hx hb dX8_find_77 ?_
    refine lv_lload_n hx hb dX8_find_78 rfl (lv_at hl 2 rfl) ?_
    refine lv_lsub hx hb dX8_find_79 ?_
    refine gq_ldc2 (v := (3 : Int64)) C gw_938 dX8_find_80 ?_
    refine lv_ldiv hx hb dX8_find_83 (by decide) ?_
    obtain ⟨I6, eI6⟩ : ∃ z : gx_MM, z = ul I5 7 (((((2 : Int64) * x2) + ((2 : Int64) * x3)) - x1) / (3 : Int64)) := ⟨_, rfl⟩
    replace h := h I6 eI6
    refine pX8_7 C hM hk0 eI6 gw_726 dX8_find_84 (fun H locs hM => ?_)
    refine lv_aload_n hx hb dX8_find_87 rfl (lv_at hl 3 rfl) ?_
    refine lv_lload hx hb dX8_find_88 (lv_at hl 1 rfl) ?_
    refine lv_lload hx hb dX8_find_90 (lv_at hl 0 rfl) ?_
    refine lv_lsub hx hb dX8_find_92 ?_
    refine gq_ldc2 (v := (11547 : Int64)) C gw_939 dX8_find_93 ?_
    refine lv_lmul hx hb dX8_find_96 ?_
    refine gq_ldc2 (v := (10000 : Int64)) C gw_940 dX8_find_97 ?_
    refine lv_ldiv hx hb dX8_find_100 (by decide) ?_
    obtain ⟨I7, eI7⟩ : ∃ z : gx_MM, z = ul I6 8 (((x2 - x3) * (11547 : Int64)) / (10000 : Int64)) := ⟨_, rfl⟩
    replace h := h I7 eI7
    refine pX8_8 C hM hk0 eI7 gw_727 dX8_find_101 (fun H locs hM => ?_)
    exact tj_X8_find_104 C a0 (hk0) I7 _ _ _ hM (lv_sub hl [3] rfl) h
  · replace h := h.1 hc
    refine lv_aload_n hx hb dX8_find_40 rfl (lv_at hl 3 rfl) ?_
    refine lv_lload hx hb dX8_find_41 (lv_at hl 0 rfl) ?_
    obtain ⟨I8, eI8⟩ : ∃ z : gx_MM, z = ul I5 7 x3 := ⟨_, rfl⟩
    replace h := h I8 eI8
    refine pX8_7 C hM hk0 eI8 gw_726 dX8_find_43 (fun H locs hM => ?_)
    refine lv_aload_n hx hb dX8_find_46 rfl (lv_at hl 3 rfl) ?_
    refine gq_ldc2 (v := (2 : Int64)) C gw_937 dX8_find_47 ?_
    refine lv_lload hx hb dX8_find_50 (lv_at hl 1 rfl) ?_
    refine lv_lmul hx hb dX8_find_52 ?_
    refine lv_lload_n hx hb dX8_find_53 rfl (lv_at hl 2 rfl) ?_
    refine lv_lsub hx hb dX8_find_54 ?_
    refine lv_lload hx hb dX8_find_55 (lv_at hl 0 rfl) ?_
    refine lv_lsub hx hb dX8_find_57 ?_
    obtain ⟨I9, eI9⟩ : ∃ z : gx_MM, z = ul I8 8 ((((2 : Int64) * x2) - x1) - x3) := ⟨_, rfl⟩
    replace h := h I9 eI9
    refine pX8_8 C hM hk0 eI9 gw_727 dX8_find_58 (fun H locs hM => ?_)
    refine lv_goto (tgt := 104) hx hb dX8_find_61 (by decide) ?_
    exact tj_X8_find_104 C a0 (hk0) I9 _ _ _ hM (lv_sub hl [3] rfl) h
theorem k_X8_find : gx_kV yX8_find cX8_find 9 none 1 := ⟨⟨gw_931, gw_67, by decide, by decide, by decide +kernel⟩, gw_930, gw_48⟩
abbrev rm_X8_mean : Room := { frames := 0, cells := 0, slots := 0, locals := 0 }
set_option maxHeartbeats 4000000 in
set_option maxRecDepth 100000 in
theorem c_X8_mean (l : Launch) (L : gx_L) (a0 : Nat) (hk0 : kM a0 = 8) (I : gx_MM) (Q : Int64 → gx_MM → Prop) (h : wp_X8_mean a0 I Q) : Met l yX8_mean (gx_w yX8_mean cX8_mean 1 (some .long)) rm_X8_mean (va_Pc [.ref (gx_ad L a0)] (gx_U L 7 (cellM L I))) (va_Ql Q (fun I' t => gx_U L 7 (cellM L I') t) (gx_A L)) 0 0 (gx_A L) := by
  refine gq_enter (by decide) (Nat.le_of_ble_eq_true rfl) (fun p e s m below meth c ls C hM hl => ?_)
  have C : gx_C L 7 p s m _ meth c RX8 cX8_mean 1 (some .long) := C
  have hl : lv_has ls 1 [(0, .ref (gx_ad L a0))] := hl
  have hx := C.1
  have hb := C.2.1
  unfold wp_X8_mean at h
  refine lv_aload_n hx hb dX8_mean_0 rfl (lv_at hl 0 rfl) ?_
  refine gX8_6 C hM hk0 gw_725 dX8_mean_1 ?_
  refine lv_aload_n hx hb dX8_mean_4 rfl (lv_at hl 0 rfl) ?_
  refine gX8_7 C hM hk0 gw_726 dX8_mean_5 ?_
  refine lv_ladd hx hb dX8_mean_8 ?_
  refine gq_ldc2 (v := (2 : Int64)) C gw_937 dX8_mean_9 ?_
  refine lv_ldiv hx hb dX8_mean_12 (by decide) ?_
  exact gq_lret C hM h dX8_mean_13
theorem k_X8_mean : gx_kV yX8_mean cX8_mean 1 (some .long) 0 := ⟨⟨gw_957, gw_67, by decide, by decide, by decide +kernel⟩, gw_956, gw_51⟩
abbrev rm_X8_radius : Room := { frames := 0, cells := 0, slots := 0, locals := 0 }
set_option maxHeartbeats 4000000 in
set_option maxRecDepth 100000 in
theorem c_X8_radius (l : Launch) (L : gx_L) (a0 : Nat) (hk0 : kM a0 = 8) (I : gx_MM) (Q : Int64 → gx_MM → Prop) (h : wp_X8_radius a0 I Q) : Met l yX8_radius (gx_w yX8_radius cX8_radius 1 (some .long)) rm_X8_radius (va_Pc [.ref (gx_ad L a0)] (gx_U L 7 (cellM L I))) (va_Ql Q (fun I' t => gx_U L 7 (cellM L I') t) (gx_A L)) 0 0 (gx_A L) := by
  refine gq_enter (by decide) (Nat.le_of_ble_eq_true rfl) (fun p e s m below meth c ls C hM hl => ?_)
  have C : gx_C L 7 p s m _ meth c RX8 cX8_radius 1 (some .long) := C
  have hl : lv_has ls 1 [(0, .ref (gx_ad L a0))] := hl
  have hx := C.1
  have hb := C.2.1
  unfold wp_X8_radius at h
  refine lv_aload_n hx hb dX8_radius_0 rfl (lv_at hl 0 rfl) ?_
  refine gX8_10 C hM hk0 gw_729 dX8_radius_1 ?_
  refine gq_ldc2 (v := (20000 : Int64)) C gw_962 dX8_radius_4 ?_
  refine lv_ldiv hx hb dX8_radius_7 (by decide) ?_
  exact gq_lret C hM h dX8_radius_8
theorem k_X8_radius : gx_kV yX8_radius cX8_radius 1 (some .long) 0 := ⟨⟨gw_961, gw_67, by decide, by decide, by decide +kernel⟩, gw_960, gw_52⟩
abbrev rm_X8_works : Room := { frames := 7, cells := 0, slots := 0, locals := 171 }
set_option maxHeartbeats 4000000 in
set_option maxRecDepth 100000 in
theorem tj_X8_works_97 (C : gx_C L 7 p s m args meth c RX8 cX8_works 7 (some .int)) {Q : Int32 → gx_MM → Prop} {K25 : Nat → Int32 → Int32 → Int32 → Int32 → gx_MM → Prop} (hK25 : ∀ (v0 : Nat) (v1 : Int32) (v2 : Int32) (v3 : Int32) (v4 : Int32) (hv0 : kM v0 = 8) (I : gx_MM) (H : Heap) (locs : List Loc) (ls : Array Slot), gx_S L 7 (cellM L I) s.heap H locs → lv_has ls 7 [(0, .ref (gx_ad L v0)), (1, .int v1), (2, .int v2), (3, .int v3), (4, .int v4)] → K25 v0 v1 v2 v3 v4 I → W p l e rm_X8_works s m args below meth c H locs 0 0 (MQ below (va_Qi Q (fun I' t => gx_U L 7 (cellM L I') t) (gx_A L)) args s 0 0 (gx_A L)) (F0 m 25 ls [])) : ∀ (v0 : Nat) (v1 : Int32) (v2 : Int32) (v4 : Int32) (v5 : Int32) (v6 : Int32) (u0 : Int32) (u1 : Int32) (hv0 : kM v0 = 8) (I : gx_MM) (H : Heap) (locs : List Loc) (ls : Array Slot), gx_S L 7 (cellM L I) s.heap H locs → lv_has ls 7 [(0, .ref (gx_ad L v0)), (1, .int v1), (2, .int v2), (4, .int v4), (5, .int v5), (6, .int v6)] → wj_X8_works_97 Q K25 v0 v1 v2 v4 v5 v6 u0 u1 I → W p l e rm_X8_works s m args below meth c H locs 0 0 (MQ below (va_Qi Q (fun I' t => gx_U L 7 (cellM L I') t) (gx_A L)) args s 0 0 (gx_A L)) (F0 m 97 ls [.int u0, .int u1]) := by
  have hx := C.1
  have hb := C.2.1
  intro v0 v1 v2 v4 v5 v6 u0 u1 hv0 I H locs ls hM hl h
  unfold wj_X8_works_97 at h
  refine lv_iadd hx hb dX8_works_97 ?_
  refine lv_topi (fun x1 ex1 => ?_)
  replace h := h x1 ex1
  refine lv_istore_n (lv' := [(3, .int x1), (0, .ref (gx_ad L v0)), (1, .int v1), (2, .int v2), (4, .int v4), (5, .int v5), (6, .int v6)]) hx hb dX8_works_98 rfl hl (by decide) rfl (fun ls hl => ?_)
  refine lv_aload_n hx hb dX8_works_99 rfl (lv_at hl 1 rfl) ?_
  refine lv_iload_n hx hb dX8_works_100 rfl (lv_at hl 3 rfl) ?_
  refine lv_iload hx hb dX8_works_101 (lv_at hl 4 rfl) ?_
  refine lv_iload hx hb dX8_works_103 (lv_at hl 5 rfl) ?_
  refine lv_iload hx hb dX8_works_105 (lv_at hl 6 rfl) ?_
  refine gq_backv C hM (gq_runV (As := [.int v2, .int v4, .int v5, .int v6]) (rest := []) C hM (kM_lt hv0 (by decide)) (cM_8 hv0) rfl (c_X8_putGauge l L v0 hv0 v2 v4 v5 v6 I _ h) k_X8_putGauge gw_802 rfl hl.1 rfl (Nat.le_of_ble_eq_true rfl) ⟨⟨rfl, rfl⟩, Nat.le_of_ble_eq_true rfl, Nat.le_of_ble_eq_true rfl⟩ ⟨Nat.zero_le _, Nat.zero_le _⟩ dX8_works_107) (fun I1 H locs h hM => ?_)
  obtain ⟨x2, ex2⟩ : ∃ z : Int32, z = v4 + (1 : Int32) := ⟨_, rfl⟩
  replace h := h x2 ex2
  refine lv_iinc (v := x2) (lv' := [(4, .int x2), (3, .int x1), (0, .ref (gx_ad L v0)), (1, .int v1), (2, .int v2), (5, .int v5), (6, .int v6)]) hx hb dX8_works_110 hl (k := 4) rfl (by rw [ex2]; rfl) (by decide) rfl (fun ls hl => ?_)
  refine lv_goto (tgt := 25) hx hb dX8_works_113 (by decide) ?_
  exact hK25 v0 v1 v2 x1 x2 (hv0) I1 _ _ _ hM (lv_sub hl [2, 3, 4, 1, 0] rfl) h
set_option maxHeartbeats 4000000 in
set_option maxRecDepth 100000 in
theorem tj_X8_works_75 (C : gx_C L 7 p s m args meth c RX8 cX8_works 7 (some .int)) {Q : Int32 → gx_MM → Prop} {K25 : Nat → Int32 → Int32 → Int32 → Int32 → gx_MM → Prop} (hK25 : ∀ (v0 : Nat) (v1 : Int32) (v2 : Int32) (v3 : Int32) (v4 : Int32) (hv0 : kM v0 = 8) (I : gx_MM) (H : Heap) (locs : List Loc) (ls : Array Slot), gx_S L 7 (cellM L I) s.heap H locs → lv_has ls 7 [(0, .ref (gx_ad L v0)), (1, .int v1), (2, .int v2), (3, .int v3), (4, .int v4)] → K25 v0 v1 v2 v3 v4 I → W p l e rm_X8_works s m args below meth c H locs 0 0 (MQ below (va_Qi Q (fun I' t => gx_U L 7 (cellM L I') t) (gx_A L)) args s 0 0 (gx_A L)) (F0 m 25 ls [])) : ∀ (v0 : Nat) (v1 : Int32) (v2 : Int32) (v3 : Int32) (v4 : Int32) (v5 : Int32) (u0 : Int32) (hv0 : kM v0 = 8) (I : gx_MM) (H : Heap) (locs : List Loc) (ls : Array Slot), gx_S L 7 (cellM L I) s.heap H locs → lv_has ls 7 [(0, .ref (gx_ad L v0)), (1, .int v1), (2, .int v2), (3, .int v3), (4, .int v4), (5, .int v5)] → wj_X8_works_75 Q K25 v0 v1 v2 v3 v4 v5 u0 I → W p l e rm_X8_works s m args below meth c H locs 0 0 (MQ below (va_Qi Q (fun I' t => gx_U L 7 (cellM L I') t) (gx_A L)) args s 0 0 (gx_A L)) (F0 m 75 ls [.int u0]) := by
  have hx := C.1
  have hb := C.2.1
  intro v0 v1 v2 v3 v4 v5 u0 hv0 I H locs ls hM hl h
  unfold wj_X8_works_75 at h
  refine lv_istore (lv' := [(6, .int u0), (0, .ref (gx_ad L v0)), (1, .int v1), (2, .int v2), (3, .int v3), (4, .int v4), (5, .int v5)]) hx hb dX8_works_75 hl (by decide) rfl (fun ls hl => ?_)
  refine lv_iload_n hx hb dX8_works_77 rfl (lv_at hl 4 rfl) ?_
  refine lv_iload hx hb dX8_works_78 (lv_at hl 0 rfl) ?_
  refine lv_aload_n hx hb dX8_works_80 rfl (lv_at hl 1 rfl) ?_
  refine lv_iload_n hx hb dX8_works_81 rfl (lv_at hl 3 rfl) ?_
  refine lv_iload hx hb dX8_works_82 (lv_at hl 5 rfl) ?_
  refine lv_iload hx hb dX8_works_84 (lv_at hl 6 rfl) ?_
  refine gq_backi C hM (gq_runV (As := [.int v2, .int v4, .int v5]) (rest := [.int u0, .int v3]) C hM (kM_lt hv0 (by decide)) (cM_8 hv0) rfl (c_X8_ofGauge l L v0 hv0 v2 v4 v5 I _ h) k_X8_ofGauge gw_827 rfl hl.1 rfl (Nat.le_of_ble_eq_true rfl) ⟨⟨rfl, rfl⟩, Nat.le_of_ble_eq_true rfl, Nat.le_of_ble_eq_true rfl⟩ ⟨Nat.zero_le _, Nat.zero_le _⟩ dX8_works_86) (fun r1 I1 H locs h hM => ?_)
  refine lv_icmp_eq (tgt := 96) hx hb dX8_works_89 (by decide) (fun hc => ?_) (fun hc => ?_)
  · replace h := h.1 hc
    refine lv_iconst (v := (0 : Int32)) hx hb dX8_works_96 (by decide) ?_
    exact tj_X8_works_97 C hK25 v0 v1 v2 v4 v5 u0 (0 : Int32) v3 (hv0) I1 _ _ _ hM (lv_sub hl [1, 2, 3, 5, 6, 0] rfl) h
  · replace h := h.2 hc
    refine lv_iconst (v := (1 : Int32)) hx hb dX8_works_92 (by decide) ?_
    refine lv_goto (tgt := 97) hx hb dX8_works_93 (by decide) ?_
    exact tj_X8_works_97 C hK25 v0 v1 v2 v4 v5 u0 (1 : Int32) v3 (hv0) I1 _ _ _ hM (lv_sub hl [1, 2, 3, 5, 6, 0] rfl) h
set_option maxHeartbeats 4000000 in
set_option maxRecDepth 100000 in
theorem tj_X8_works_41 (C : gx_C L 7 p s m args meth c RX8 cX8_works 7 (some .int)) {Q : Int32 → gx_MM → Prop} {K25 : Nat → Int32 → Int32 → Int32 → Int32 → gx_MM → Prop} (hK25 : ∀ (v0 : Nat) (v1 : Int32) (v2 : Int32) (v3 : Int32) (v4 : Int32) (hv0 : kM v0 = 8) (I : gx_MM) (H : Heap) (locs : List Loc) (ls : Array Slot), gx_S L 7 (cellM L I) s.heap H locs → lv_has ls 7 [(0, .ref (gx_ad L v0)), (1, .int v1), (2, .int v2), (3, .int v3), (4, .int v4)] → K25 v0 v1 v2 v3 v4 I → W p l e rm_X8_works s m args below meth c H locs 0 0 (MQ below (va_Qi Q (fun I' t => gx_U L 7 (cellM L I') t) (gx_A L)) args s 0 0 (gx_A L)) (F0 m 25 ls [])) : ∀ (v0 : Nat) (v1 : Int32) (v2 : Int32) (v3 : Int32) (v4 : Int32) (u0 : Int32) (hv0 : kM v0 = 8) (I : gx_MM) (H : Heap) (locs : List Loc) (ls : Array Slot), gx_S L 7 (cellM L I) s.heap H locs → lv_has ls 7 [(0, .ref (gx_ad L v0)), (1, .int v1), (2, .int v2), (3, .int v3), (4, .int v4)] → wj_X8_works_41 Q K25 v0 v1 v2 v3 v4 u0 I → W p l e rm_X8_works s m args below meth c H locs 0 0 (MQ below (va_Qi Q (fun I' t => gx_U L 7 (cellM L I') t) (gx_A L)) args s 0 0 (gx_A L)) (F0 m 41 ls [.int u0]) := by
  have hx := C.1
  have hb := C.2.1
  intro v0 v1 v2 v3 v4 u0 hv0 I H locs ls hM hl h
  unfold wj_X8_works_41 at h
  refine lv_istore (lv' := [(5, .int u0), (0, .ref (gx_ad L v0)), (1, .int v1), (2, .int v2), (3, .int v3), (4, .int v4)]) hx hb dX8_works_41 hl (by decide) rfl (fun ls hl => ?_)
  refine lv_iload_n hx hb dX8_works_43 rfl (lv_at hl 2 rfl) ?_
  refine lv_iconst (v := (1 : Int32)) hx hb dX8_works_44 (by decide) ?_
  refine lv_icmp_ne (tgt := 58) hx hb dX8_works_45 (by decide) (fun hc => ?_) (fun hc => ?_)
  · replace h := h.2 hc
    refine lv_aload_n hx hb dX8_works_58 rfl (lv_at hl 1 rfl) ?_
    refine lv_iload_n hx hb dX8_works_59 rfl (lv_at hl 3 rfl) ?_
    refine gq_backi C hM (gq_runV (As := [.int v2]) (rest := []) C hM (kM_lt hv0 (by decide)) (cM_8 hv0) rfl (c_X8_shuntValue l L v0 hv0 v2 I _ h) k_X8_shuntValue gw_840 rfl hl.1 rfl (Nat.le_of_ble_eq_true rfl) ⟨⟨rfl, rfl⟩, Nat.le_of_ble_eq_true rfl, Nat.le_of_ble_eq_true rfl⟩ ⟨Nat.zero_le _, Nat.zero_le _⟩ dX8_works_60) (fun r1 I1 H locs h hM => ?_)
    refine lv_sipush (v := (1000 : Int32)) hx hb dX8_works_63 (by decide) ?_
    refine lv_imul hx hb dX8_works_66 ?_
    refine lv_aload_n hx hb dX8_works_67 rfl (lv_at hl 1 rfl) ?_
    refine lv_iload_n hx hb dX8_works_68 rfl (lv_at hl 3 rfl) ?_
    refine lv_iload hx hb dX8_works_69 (lv_at hl 5 rfl) ?_
    refine gq_backi C hM (gq_runV (As := [.int v2, .int v4]) (rest := [.int (r1 * (1000 : Int32))]) C hM (kM_lt hv0 (by decide)) (cM_8 hv0) rfl (c_X8_stepOf l L v0 hv0 v2 v4 I1 _ h) k_X8_stepOf gw_920 rfl hl.1 rfl (Nat.le_of_ble_eq_true rfl) ⟨⟨rfl, rfl⟩, Nat.le_of_ble_eq_true rfl, Nat.le_of_ble_eq_true rfl⟩ ⟨Nat.zero_le _, Nat.zero_le _⟩ dX8_works_71) (fun r2 I2 H locs h hM => ?_)
    refine lv_idiv hx hb dX8_works_74 h.1 ?_
    replace h := h.2
    exact tj_X8_works_75 C hK25 v0 v1 v2 v3 v4 u0 ((r1 * (1000 : Int32)) / r2) (hv0) I2 _ _ _ hM (lv_sub hl [1, 2, 3, 4, 5, 0] rfl) h
  · replace h := h.1 hc
    refine lv_aload_n hx hb dX8_works_48 rfl (lv_at hl 1 rfl) ?_
    refine lv_iload_n hx hb dX8_works_49 rfl (lv_at hl 3 rfl) ?_
    refine lv_iload hx hb dX8_works_50 (lv_at hl 5 rfl) ?_
    refine gq_backi C hM (gq_runV (As := [.int v2, .int v4]) (rest := []) C hM (kM_lt hv0 (by decide)) (cM_8 hv0) rfl (c_X8_zeroDue l L v0 hv0 v2 v4 I _ h) k_X8_zeroDue gw_916 rfl hl.1 rfl (Nat.le_of_ble_eq_true rfl) ⟨⟨rfl, rfl⟩, Nat.le_of_ble_eq_true rfl, Nat.le_of_ble_eq_true rfl⟩ ⟨Nat.zero_le _, Nat.zero_le _⟩ dX8_works_52) (fun r3 I3 H locs h hM => ?_)
    refine lv_goto (tgt := 75) hx hb dX8_works_55 (by decide) ?_
    exact tj_X8_works_75 C hK25 v0 v1 v2 v3 v4 u0 r3 (hv0) I3 _ _ _ hM (lv_sub hl [1, 2, 3, 4, 5, 0] rfl) h
set_option maxHeartbeats 4000000 in
set_option maxRecDepth 100000 in
theorem tl_X8_works_25 (C : gx_C L 7 p s m args meth c RX8 cX8_works 7 (some .int)) {Q : Int32 → gx_MM → Prop} : ∀ (fu : Nat) (v0 : Nat) (v1 : Int32) (v2 : Int32) (v3 : Int32) (v4 : Int32) (hv0 : kM v0 = 8) (I : gx_MM) (H : Heap) (locs : List Loc) (ls : Array Slot), gx_S L 7 (cellM L I) s.heap H locs → lv_has ls 7 [(0, .ref (gx_ad L v0)), (1, .int v1), (2, .int v2), (3, .int v3), (4, .int v4)] → wl_X8_works_25 Q fu v0 v1 v2 v3 v4 I → W p l e rm_X8_works s m args below meth c H locs 0 0 (MQ below (va_Qi Q (fun I' t => gx_U L 7 (cellM L I') t) (gx_A L)) args s 0 0 (gx_A L)) (F0 m 25 ls []) := by
  have hx := C.1
  have hb := C.2.1
  intro fu
  induction fu with
  | zero => intros; rename_i h; exact False.elim h
  | succ fu ih =>
    intro v0 v1 v2 v3 v4 hv0 I H locs ls hM hl h
    rw [wl_X8_works_25] at h
    refine lv_iload hx hb dX8_works_25 (lv_at hl 4 rfl) ?_
    refine lv_iconst (v := (3 : Int32)) hx hb dX8_works_27 (by decide) ?_
    refine lv_icmp_ge (tgt := 116) hx hb dX8_works_28 (by decide) (fun hc => ?_) (fun hc => ?_)
    · replace h := h.1 hc
      refine lv_iload_n hx hb dX8_works_116 rfl (lv_at hl 3 rfl) ?_
      exact gq_iret C hM h dX8_works_117
    · replace h := h.2 hc
      refine lv_iload_n hx hb dX8_works_31 rfl (lv_at hl 1 rfl) ?_
      refine lv_iconst (v := (1 : Int32)) hx hb dX8_works_32 (by decide) ?_
      refine lv_icmp_ne (tgt := 40) hx hb dX8_works_33 (by decide) (fun hc => ?_) (fun hc => ?_)
      · replace h := h.2 hc
        refine lv_iconst (v := (2 : Int32)) hx hb dX8_works_40 (by decide) ?_
        exact tj_X8_works_41 C ih v0 v1 v2 v3 v4 (2 : Int32) (hv0) I _ _ _ hM (lv_sub hl [0, 1, 2, 3, 4] rfl) h
      · replace h := h.1 hc
        refine lv_iconst (v := (1 : Int32)) hx hb dX8_works_36 (by decide) ?_
        refine lv_goto (tgt := 41) hx hb dX8_works_37 (by decide) ?_
        exact tj_X8_works_41 C ih v0 v1 v2 v3 v4 (1 : Int32) (hv0) I _ _ _ hM (lv_sub hl [0, 1, 2, 3, 4] rfl) h
set_option maxHeartbeats 4000000 in
set_option maxRecDepth 100000 in
theorem c_X8_works (l : Launch) (L : gx_L) (a0 : Nat) (hk0 : kM a0 = 8) (p0 : Int32) (p1 : Int32) (I : gx_MM) (Q : Int32 → gx_MM → Prop) (h : wp_X8_works a0 p0 p1 I Q) : Met l yX8_works (gx_w yX8_works cX8_works 7 (some .int)) rm_X8_works (va_Pc [.ref (gx_ad L a0), .int p0, .int p1] (gx_U L 7 (cellM L I))) (va_Qi Q (fun I' t => gx_U L 7 (cellM L I') t) (gx_A L)) 0 0 (gx_A L) := by
  refine gq_enter (by decide) (Nat.le_of_ble_eq_true rfl) (fun p e s m below meth c ls C hM hl => ?_)
  have C : gx_C L 7 p s m _ meth c RX8 cX8_works 7 (some .int) := C
  have hl : lv_has ls 7 [(0, .ref (gx_ad L a0)), (1, .int p0), (2, .int p1)] := hl
  have hx := C.1
  have hb := C.2.1
  unfold wp_X8_works at h
  refine lv_iload_n hx hb dX8_works_0 rfl (lv_at hl 1 rfl) ?_
  refine lv_if_ne (tgt := 20) hx hb dX8_works_1 (by decide) (fun hc => ?_) (fun hc => ?_)
  · replace h := h.2 hc
    refine lv_iconst (v := (0 : Int32)) hx hb dX8_works_20 (by decide) ?_
    refine lv_istore_n (lv' := [(3, .int (0 : Int32)), (0, .ref (gx_ad L a0)), (1, .int p0), (2, .int p1)]) hx hb dX8_works_21 rfl hl (by decide) rfl (fun ls hl => ?_)
    refine lv_iconst (v := (0 : Int32)) hx hb dX8_works_22 (by decide) ?_
    refine lv_istore (lv' := [(4, .int (0 : Int32)), (3, .int (0 : Int32)), (0, .ref (gx_ad L a0)), (1, .int p0), (2, .int p1)]) hx hb dX8_works_23 hl (by decide) rfl (fun ls hl => ?_)
    obtain ⟨fu, h⟩ := h
    exact tl_X8_works_25 C fu a0 p0 p1 (0 : Int32) (0 : Int32) (hk0) I _ _ _ hM (lv_sub hl [2, 3, 4, 1, 0] rfl) h
  · replace h := h.1 hc
    refine lv_aload_n hx hb dX8_works_4 rfl (lv_at hl 0 rfl) ?_
    refine lv_iload_n hx hb dX8_works_5 rfl (lv_at hl 2 rfl) ?_
    refine gq_backv C hM (gq_runV (As := [.int p1]) (rest := []) C hM (kM_lt hk0 (by decide)) (cM_8 hk0) rfl (c_X8_find l L a0 hk0 p1 I _ h) k_X8_find gw_928 rfl hl.1 rfl (Nat.le_of_ble_eq_true rfl) ⟨⟨rfl, rfl⟩, Nat.le_of_ble_eq_true rfl, Nat.le_of_ble_eq_true rfl⟩ ⟨Nat.zero_le _, Nat.zero_le _⟩ dX8_works_6) (fun I1 H locs h hM => ?_)
    refine lv_aload_n hx hb dX8_works_9 rfl (lv_at hl 0 rfl) ?_
    refine gq_backl C hM (gq_runV (As := []) (rest := []) C hM (kM_lt hk0 (by decide)) (cM_8 hk0) rfl (c_X8_mean l L a0 hk0 I1 _ h) k_X8_mean gw_954 rfl hl.1 rfl (Nat.le_of_ble_eq_true rfl) ⟨⟨rfl, rfl⟩, Nat.le_of_ble_eq_true rfl, Nat.le_of_ble_eq_true rfl⟩ ⟨Nat.zero_le _, Nat.zero_le _⟩ dX8_works_10) (fun r1 I2 H locs h hM => ?_)
    refine lv_aload_n hx hb dX8_works_13 rfl (lv_at hl 0 rfl) ?_
    refine gq_backl C hM (gq_runV (As := []) (rest := [.long r1]) C hM (kM_lt hk0 (by decide)) (cM_8 hk0) rfl (c_X8_radius l L a0 hk0 I2 _ h) k_X8_radius gw_958 rfl hl.1 rfl (Nat.le_of_ble_eq_true rfl) ⟨⟨rfl, rfl⟩, Nat.le_of_ble_eq_true rfl, Nat.le_of_ble_eq_true rfl⟩ ⟨Nat.zero_le _, Nat.zero_le _⟩ dX8_works_14) (fun r2 I3 H locs h hM => ?_)
    refine lv_ladd hx hb dX8_works_17 ?_
    refine lv_l2i hx hb dX8_works_18 rfl ?_
    exact gq_iret C hM h dX8_works_19
theorem k_X8_works : gx_kV yX8_works cX8_works 7 (some .int) 2 := ⟨⟨gw_927, gw_67, by decide, by decide, by decide +kernel⟩, gw_926, gw_47⟩
abbrev rm_X8_doNext : Room := { frames := 8, cells := 0, slots := 0, locals := 197 }
set_option maxHeartbeats 4000000 in
set_option maxRecDepth 100000 in
theorem tj_X8_doNext_123 (C : gx_C L 7 p s m args meth c RX8 cX8_doNext 5 (some .boolean)) {Q : Int32 → gx_MM → Prop} : ∀ (v4 : Int32) (u0 : Int32) (u1 : Int32) (u2 : Int32) (u3 : Nat) (hu3 : kM u3 = 8) (I : gx_MM) (H : Heap) (locs : List Loc) (ls : Array Slot), gx_S L 7 (cellM L I) s.heap H locs → lv_has ls 5 [(4, .int v4)] → wj_X8_doNext_123 Q v4 u0 u1 u2 u3 I → W p l e rm_X8_doNext s m args below meth c H locs 0 0 (MQ below (va_Qi (fun r I' => r &&& 1 = r ∧ Q r I') (fun I' t => gx_U L 7 (cellM L I') t) (gx_A L)) args s 0 0 (gx_A L)) (F0 m 123 ls [.int u0, .int u1, .int u2, .ref (gx_ad L u3)]) := by
  have hx := C.1
  have hb := C.2.1
  intro v4 u0 u1 u2 u3 hu3 I H locs ls hM hl h
  unfold wj_X8_doNext_123 at h
  refine lv_iload hx hb dX8_doNext_123 (lv_at hl 0 rfl) ?_
  refine gq_backv C hM (gq_runV (As := [.int u2, .int u1, .int u0, .int v4]) (rest := []) C hM (kM_lt hu3 (by decide)) (cM_8 hu3) rfl (c_X8_note l L u3 hu3 u2 u1 u0 v4 I _ h) k_X8_note gw_963 rfl hl.1 rfl (Nat.le_of_ble_eq_true rfl) ⟨⟨rfl, rfl⟩, Nat.le_of_ble_eq_true rfl, Nat.le_of_ble_eq_true rfl⟩ ⟨Nat.zero_le _, Nat.zero_le _⟩ dX8_doNext_125) (fun I1 H locs h hM => ?_)
  refine lv_iload hx hb dX8_doNext_128 (lv_at hl 0 rfl) ?_
  refine lv_if_ne (tgt := 137) hx hb dX8_doNext_130 (by decide) (fun hc => ?_) (fun hc => ?_)
  · replace h := h.2 hc
    refine lv_iconst (v := (0 : Int32)) hx hb dX8_doNext_137 (by decide) ?_
    exact gq_zret C hM ⟨rfl, h⟩ (rfl) dX8_doNext_138
  · replace h := h.1 hc
    refine lv_iconst (v := (1 : Int32)) hx hb dX8_doNext_133 (by decide) ?_
    refine lv_goto (tgt := 138) hx hb dX8_doNext_134 (by decide) ?_
    exact gq_zret C hM ⟨rfl, h⟩ (rfl) dX8_doNext_138
set_option maxHeartbeats 4000000 in
set_option maxRecDepth 100000 in
theorem tj_X8_doNext_104 (C : gx_C L 7 p s m args meth c RX8 cX8_doNext 5 (some .boolean)) {Q : Int32 → gx_MM → Prop} : ∀ (v0 : Nat) (v2 : Int32) (v3 : Int32) (v4 : Int32) (hv0 : kM v0 = 8) (I : gx_MM) (H : Heap) (locs : List Loc) (ls : Array Slot), gx_S L 7 (cellM L I) s.heap H locs → lv_has ls 5 [(0, .ref (gx_ad L v0)), (2, .int v2), (3, .int v3), (4, .int v4)] → wj_X8_doNext_104 Q v0 v2 v3 v4 I → W p l e rm_X8_doNext s m args below meth c H locs 0 0 (MQ below (va_Qi (fun r I' => r &&& 1 = r ∧ Q r I') (fun I' t => gx_U L 7 (cellM L I') t) (gx_A L)) args s 0 0 (gx_A L)) (F0 m 104 ls []) := by
  have hx := C.1
  have hb := C.2.1
  intro v0 v2 v3 v4 hv0 I H locs ls hM hl h
  unfold wj_X8_doNext_104 at h
  refine lv_aload_n hx hb dX8_doNext_104 rfl (lv_at hl 0 rfl) ?_
  refine lv_iload_n hx hb dX8_doNext_105 rfl (lv_at hl 1 rfl) ?_
  refine lv_iload_n hx hb dX8_doNext_106 rfl (lv_at hl 2 rfl) ?_
  refine lv_iload hx hb dX8_doNext_107 (lv_at hl 3 rfl) ?_
  refine lv_if_le (tgt := 117) hx hb dX8_doNext_109 (by decide) (fun hc => ?_) (fun hc => ?_)
  · replace h := h.1 hc
    refine lv_aload_n hx hb dX8_doNext_117 rfl (lv_at hl 0 rfl) ?_
    refine lv_iload_n hx hb dX8_doNext_118 rfl (lv_at hl 1 rfl) ?_
    refine lv_iload_n hx hb dX8_doNext_119 rfl (lv_at hl 2 rfl) ?_
    refine gq_backi C hM (gq_runV (As := [.int v2, .int v3]) (rest := [.int v3, .int v2, .ref (gx_ad L v0)]) C hM (kM_lt hv0 (by decide)) (cM_8 hv0) rfl (c_X8_works l L v0 hv0 v2 v3 I _ h) k_X8_works gw_924 rfl hl.1 rfl (Nat.le_of_ble_eq_true rfl) ⟨⟨rfl, rfl⟩, Nat.le_of_ble_eq_true rfl, Nat.le_of_ble_eq_true rfl⟩ ⟨Nat.zero_le _, Nat.zero_le _⟩ dX8_doNext_120) (fun r1 I1 H locs h hM => ?_)
    exact tj_X8_doNext_123 C v4 r1 v3 v2 v0 (hv0) I1 _ _ _ hM (lv_sub hl [3] rfl) h
  · replace h := h.2 hc
    refine gq_ldc (v := (-1000004 : Int32)) C gw_793 dX8_doNext_112 ?_
    refine lv_goto (tgt := 123) hx hb dX8_doNext_114 (by decide) ?_
    exact tj_X8_doNext_123 C v4 (-1000004 : Int32) v3 v2 v0 (hv0) I _ _ _ hM (lv_sub hl [3] rfl) h
set_option maxHeartbeats 4000000 in
set_option maxRecDepth 100000 in
theorem c_X8_doNext (l : Launch) (L : gx_L) (a0 : Nat) (hk0 : kM a0 = 8) (I : gx_MM) (Q : Int32 → gx_MM → Prop) (h : wp_X8_doNext a0 I Q) : Met l yX8_doNext (gx_w yX8_doNext cX8_doNext 5 (some .boolean)) rm_X8_doNext (va_Pc [.ref (gx_ad L a0)] (gx_U L 7 (cellM L I))) (va_Qi (fun r I' => r &&& 1 = r ∧ Q r I') (fun I' t => gx_U L 7 (cellM L I') t) (gx_A L)) 0 0 (gx_A L) := by
  refine gq_enter (by decide) (Nat.le_of_ble_eq_true rfl) (fun p e s m below meth c ls C hM hl => ?_)
  have C : gx_C L 7 p s m _ meth c RX8 cX8_doNext 5 (some .boolean) := C
  have hl : lv_has ls 5 [(0, .ref (gx_ad L a0))] := hl
  have hx := C.1
  have hb := C.2.1
  unfold wp_X8_doNext at h
  refine lv_aload_n hx hb dX8_doNext_0 rfl (lv_at hl 0 rfl) ?_
  refine lv_iconst (v := (0 : Int32)) hx hb dX8_doNext_1 (by decide) ?_
  refine lv_aload_n hx hb dX8_doNext_2 rfl (lv_at hl 0 rfl) ?_
  refine gX8_0 C hM hk0 gw_719 dX8_doNext_3 ?_
  refine lv_iconst (v := (1 : Int32)) hx hb dX8_doNext_6 (by decide) ?_
  refine gialdM C hM (kM_8_0 hk0) h.1 dX8_doNext_7 ?_
  replace h := h.2
  refine gq_backi C hM (gq_runV (As := [.int (0 : Int32), .int (I.1 (a0 + 1) (1 : Int32).toNatClampNeg)]) (rest := []) C hM (kM_lt hk0 (by decide)) (cM_8 hk0) rfl (c_X8_first l L a0 hk0 (0 : Int32) (I.1 (a0 + 1) (1 : Int32).toNatClampNeg) I _ h) k_X8_first gw_889 rfl hl.1 rfl (Nat.le_of_ble_eq_true rfl) ⟨⟨rfl, rfl⟩, Nat.le_of_ble_eq_true rfl, Nat.le_of_ble_eq_true rfl⟩ ⟨Nat.zero_le _, Nat.zero_le _⟩ dX8_doNext_8) (fun r1 I1 H locs h hM => ?_)
  refine lv_istore_n (lv' := [(1, .int r1), (0, .ref (gx_ad L a0))]) hx hb dX8_doNext_11 rfl hl (by decide) rfl (fun ls hl => ?_)
  refine lv_aload_n hx hb dX8_doNext_12 rfl (lv_at hl 1 rfl) ?_
  refine lv_iload_n hx hb dX8_doNext_13 rfl (lv_at hl 0 rfl) ?_
  refine lv_iconst (v := (1 : Int32)) hx hb dX8_doNext_14 (by decide) ?_
  refine gq_backi C hM (gq_runV (As := [.int r1, .int (1 : Int32)]) (rest := []) C hM (kM_lt hk0 (by decide)) (cM_8 hk0) rfl (c_X8_ofJob l L a0 hk0 r1 (1 : Int32) I1 _ h) k_X8_ofJob gw_877 rfl hl.1 rfl (Nat.le_of_ble_eq_true rfl) ⟨⟨rfl, rfl⟩, Nat.le_of_ble_eq_true rfl, Nat.le_of_ble_eq_true rfl⟩ ⟨Nat.zero_le _, Nat.zero_le _⟩ dX8_doNext_15) (fun r2 I2 H locs h hM => ?_)
  refine lv_istore_n (lv' := [(2, .int r2), (1, .int r1), (0, .ref (gx_ad L a0))]) hx hb dX8_doNext_18 rfl hl (by decide) rfl (fun ls hl => ?_)
  refine lv_aload_n hx hb dX8_doNext_19 rfl (lv_at hl 2 rfl) ?_
  refine lv_iload_n hx hb dX8_doNext_20 rfl (lv_at hl 1 rfl) ?_
  refine lv_iconst (v := (2 : Int32)) hx hb dX8_doNext_21 (by decide) ?_
  refine gq_backi C hM (gq_runV (As := [.int r1, .int (2 : Int32)]) (rest := []) C hM (kM_lt hk0 (by decide)) (cM_8 hk0) rfl (c_X8_ofJob l L a0 hk0 r1 (2 : Int32) I2 _ h) k_X8_ofJob gw_877 rfl hl.1 rfl (Nat.le_of_ble_eq_true rfl) ⟨⟨rfl, rfl⟩, Nat.le_of_ble_eq_true rfl, Nat.le_of_ble_eq_true rfl⟩ ⟨Nat.zero_le _, Nat.zero_le _⟩ dX8_doNext_22) (fun r3 I3 H locs h hM => ?_)
  refine lv_istore_n (lv' := [(3, .int r3), (2, .int r2), (1, .int r1), (0, .ref (gx_ad L a0))]) hx hb dX8_doNext_25 rfl hl (by decide) rfl (fun ls hl => ?_)
  refine lv_aload_n hx hb dX8_doNext_26 rfl (lv_at hl 3 rfl) ?_
  refine gX8_0 C hM hk0 gw_719 dX8_doNext_27 ?_
  refine lv_iconst (v := (2 : Int32)) hx hb dX8_doNext_30 (by decide) ?_
  refine lv_dup2_11 hx hb dX8_doNext_31 rfl rfl ?_
  refine gialdM C hM (kM_8_0 hk0) h.1 dX8_doNext_32 ?_
  replace h := h.2
  refine lv_aload_n hx hb dX8_doNext_33 rfl (lv_at hl 3 rfl) ?_
  refine lv_iload_n hx hb dX8_doNext_34 rfl (lv_at hl 2 rfl) ?_
  refine lv_aload_n hx hb dX8_doNext_35 rfl (lv_at hl 3 rfl) ?_
  refine gX8_0 C hM hk0 gw_719 dX8_doNext_36 ?_
  refine lv_iconst (v := (1 : Int32)) hx hb dX8_doNext_39 (by decide) ?_
  refine gialdM C hM (kM_8_0 hk0) h.1 dX8_doNext_40 ?_
  replace h := h.2
  refine gq_backi C hM (gq_runV (As := [.int r1, .int (I3.1 (a0 + 1) (1 : Int32).toNatClampNeg)]) (rest := [.int (I3.1 (a0 + 1) (2 : Int32).toNatClampNeg), .int (2 : Int32), .ref (gx_ad L (a0 + 1))]) C hM (kM_lt hk0 (by decide)) (cM_8 hk0) rfl (c_X8_wayTo l L a0 hk0 r1 (I3.1 (a0 + 1) (1 : Int32).toNatClampNeg) I3 _ h) k_X8_wayTo gw_893 rfl hl.1 rfl (Nat.le_of_ble_eq_true rfl) ⟨⟨rfl, rfl⟩, Nat.le_of_ble_eq_true rfl, Nat.le_of_ble_eq_true rfl⟩ ⟨Nat.zero_le _, Nat.zero_le _⟩ dX8_doNext_41) (fun r4 I4 H locs h hM => ?_)
  refine lv_iadd hx hb dX8_doNext_44 ?_
  have hi := h.1
  replace h := h.2
  obtain ⟨I5, eI5⟩ : ∃ z : gx_MM, z = um I4 (a0 + 1) (2 : Int32).toNatClampNeg ((I3.1 (a0 + 1) (2 : Int32).toNatClampNeg) + r4) := ⟨_, rfl⟩
  replace h := h I5 eI5
  refine giastM C hM (kM_8_0 hk0) hi eI5 dX8_doNext_45 (fun H locs hM => ?_)
  refine lv_aload_n hx hb dX8_doNext_46 rfl (lv_at hl 3 rfl) ?_
  refine gX8_0 C hM hk0 gw_719 dX8_doNext_47 ?_
  refine lv_iconst (v := (1 : Int32)) hx hb dX8_doNext_50 (by decide) ?_
  refine lv_aload_n hx hb dX8_doNext_51 rfl (lv_at hl 3 rfl) ?_
  refine lv_iload_n hx hb dX8_doNext_52 rfl (lv_at hl 0 rfl) ?_
  refine lv_iconst (v := (0 : Int32)) hx hb dX8_doNext_53 (by decide) ?_
  refine gq_backi C hM (gq_runV (As := [.int r3, .int (0 : Int32)]) (rest := [.int (1 : Int32), .ref (gx_ad L (a0 + 1))]) C hM (kM_lt hk0 (by decide)) (cM_8 hk0) rfl (c_X8_of l L a0 hk0 r3 (0 : Int32) I5 _ h) k_X8_of gw_789 rfl hl.1 rfl (Nat.le_of_ble_eq_true rfl) ⟨⟨rfl, rfl⟩, Nat.le_of_ble_eq_true rfl, Nat.le_of_ble_eq_true rfl⟩ ⟨Nat.zero_le _, Nat.zero_le _⟩ dX8_doNext_54) (fun r5 I6 H locs h hM => ?_)
  have hi := h.1
  replace h := h.2
  obtain ⟨I7, eI7⟩ : ∃ z : gx_MM, z = um I6 (a0 + 1) (1 : Int32).toNatClampNeg r5 := ⟨_, rfl⟩
  replace h := h I7 eI7
  refine giastM C hM (kM_8_0 hk0) hi eI7 dX8_doNext_57 (fun H locs hM => ?_)
  refine lv_aload_n hx hb dX8_doNext_58 rfl (lv_at hl 3 rfl) ?_
  refine lv_iload_n hx hb dX8_doNext_59 rfl (lv_at hl 2 rfl) ?_
  refine gq_backv C hM (gq_runV (As := [.int r1]) (rest := []) C hM (kM_lt hk0 (by decide)) (cM_8 hk0) rfl (c_X8_takeOut l L a0 hk0 r1 I7 _ h) k_X8_takeOut gw_881 rfl hl.1 rfl (Nat.le_of_ble_eq_true rfl) ⟨⟨rfl, rfl⟩, Nat.le_of_ble_eq_true rfl, Nat.le_of_ble_eq_true rfl⟩ ⟨Nat.zero_le _, Nat.zero_le _⟩ dX8_doNext_60) (fun I8 H locs h hM => ?_)
  refine lv_aload_n hx hb dX8_doNext_63 rfl (lv_at hl 3 rfl) ?_
  refine gX8_0 C hM hk0 gw_719 dX8_doNext_64 ?_
  refine lv_bipush (v := (6 : Int32)) hx hb dX8_doNext_67 (by decide) ?_
  refine lv_dup2_11 hx hb dX8_doNext_69 rfl rfl ?_
  refine gialdM C hM (kM_8_0 hk0) h.1 dX8_doNext_70 ?_
  replace h := h.2
  refine lv_iconst (v := (1 : Int32)) hx hb dX8_doNext_71 (by decide) ?_
  refine lv_iadd hx hb dX8_doNext_72 ?_
  have hi := h.1
  replace h := h.2
  obtain ⟨I9, eI9⟩ : ∃ z : gx_MM, z = um I8 (a0 + 1) (6 : Int32).toNatClampNeg ((I8.1 (a0 + 1) (6 : Int32).toNatClampNeg) + (1 : Int32)) := ⟨_, rfl⟩
  replace h := h I9 eI9
  refine giastM C hM (kM_8_0 hk0) hi eI9 dX8_doNext_73 (fun H locs hM => ?_)
  refine lv_aload_n hx hb dX8_doNext_74 rfl (lv_at hl 3 rfl) ?_
  refine lv_iload_n hx hb dX8_doNext_75 rfl (lv_at hl 1 rfl) ?_
  refine lv_iload_n hx hb dX8_doNext_76 rfl (lv_at hl 0 rfl) ?_
  refine gq_backi C hM (gq_runV (As := [.int r2, .int r3]) (rest := []) C hM (kM_lt hk0 (by decide)) (cM_8 hk0) rfl (c_X8_against l L a0 hk0 r2 r3 I9 _ h) k_X8_against gw_904 rfl hl.1 rfl (Nat.le_of_ble_eq_true rfl) ⟨⟨rfl, rfl⟩, Nat.le_of_ble_eq_true rfl, Nat.le_of_ble_eq_true rfl⟩ ⟨Nat.zero_le _, Nat.zero_le _⟩ dX8_doNext_77) (fun r6 I10 H locs h hM => ?_)
  refine lv_istore (lv' := [(4, .int r6), (3, .int r3), (2, .int r2), (1, .int r1), (0, .ref (gx_ad L a0))]) hx hb dX8_doNext_80 hl (by decide) rfl (fun ls hl => ?_)
  refine lv_iload hx hb dX8_doNext_82 (lv_at hl 0 rfl) ?_
  refine lv_if_le (tgt := 104) hx hb dX8_doNext_84 (by decide) (fun hc => ?_) (fun hc => ?_)
  · replace h := h.1 hc
    exact tj_X8_doNext_104 C a0 r2 r3 r6 (hk0) I10 _ _ _ hM (lv_sub hl [4, 2, 1, 0] rfl) h
  · replace h := h.2 hc
    refine lv_aload_n hx hb dX8_doNext_87 rfl (lv_at hl 4 rfl) ?_
    refine lv_iload hx hb dX8_doNext_88 (lv_at hl 0 rfl) ?_
    obtain ⟨I11, eI11⟩ : ∃ z : gx_MM, z = um I10 a0 5 r6 := ⟨_, rfl⟩
    replace h := h I11 eI11
    refine pX8_5 C hM hk0 eI11 gw_724 dX8_doNext_90 (fun H locs hM => ?_)
    refine lv_aload_n hx hb dX8_doNext_93 rfl (lv_at hl 4 rfl) ?_
    refine gX8_0 C hM hk0 gw_719 dX8_doNext_94 ?_
    refine lv_bipush (v := (7 : Int32)) hx hb dX8_doNext_97 (by decide) ?_
    refine lv_dup2_11 hx hb dX8_doNext_99 rfl rfl ?_
    refine gialdM C hM (kM_8_0 hk0) h.1 dX8_doNext_100 ?_
    replace h := h.2
    refine lv_iconst (v := (1 : Int32)) hx hb dX8_doNext_101 (by decide) ?_
    refine lv_iadd hx hb dX8_doNext_102 ?_
    have hi := h.1
    replace h := h.2
    obtain ⟨I12, eI12⟩ : ∃ z : gx_MM, z = um I11 (a0 + 1) (7 : Int32).toNatClampNeg ((I11.1 (a0 + 1) (7 : Int32).toNatClampNeg) + (1 : Int32)) := ⟨_, rfl⟩
    replace h := h I12 eI12
    refine giastM C hM (kM_8_0 hk0) hi eI12 dX8_doNext_103 (fun H locs hM => ?_)
    exact tj_X8_doNext_104 C a0 r2 r3 r6 (hk0) I12 _ _ _ hM (lv_sub hl [4, 2, 1, 0] rfl) h
theorem k_X8_doNext : gx_kV yX8_doNext cX8_doNext 5 (some .boolean) 0 := ⟨⟨gw_903, gw_67, by decide, by decide, by decide +kernel⟩, gw_902, gw_41⟩
end
