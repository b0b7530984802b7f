section
variable {p : Program} {l : Launch} {e : Env} {s : State} {m : MethodId} {args : Array Value} {below : List Frame} {meth : Method} {c : Code} {L : gx_L}
abbrev rm_X8_readJobs : Room := { frames := 3, cells := 0, slots := 0, locals := 64 }
set_option maxHeartbeats 4000000 in
set_option maxRecDepth 100000 in
theorem tj_X8_readJobs_62 (C : gx_C L 7 p s m args meth c RX8 cX8_readJobs 3 (some .int)) {Q : Int32 → gx_MM → Prop} {K12 : Nat → Int32 → gx_MM → Prop} (hK12 : ∀ (v0 : Nat) (v1 : Int32) (hv0 : kM v0 = 8) (I : gx_MM) (H : Heap) (locs : List Loc) (ls : Array Slot), gx_S L 7 (cellM L I) s.heap H locs → lv_has ls 3 [(0, .ref (gx_ad L v0)), (1, .int v1)] → K12 v0 v1 I → W p l e rm_X8_readJobs s m args below meth c H locs 0 0 (MQ below (va_Qi Q (fun I' t => gx_U L 7 (cellM L I') t) (gx_A L)) args s 0 0 (gx_A L)) (F0 m 12 ls [])) : ∀ (v0 : Nat) (v1 : Int32) (u0 : Int32) (u1 : Int32) (u2 : Nat) (hv0 : kM v0 = 8) (hu2 : kM u2 = 8) (I : gx_MM) (H : Heap) (locs : List Loc) (ls : Array Slot), gx_S L 7 (cellM L I) s.heap H locs → lv_has ls 3 [(0, .ref (gx_ad L v0)), (1, .int v1)] → wj_X8_readJobs_62 Q K12 v0 v1 u0 u1 u2 I → W p l e rm_X8_readJobs s m args below meth c H locs 0 0 (MQ below (va_Qi Q (fun I' t => gx_U L 7 (cellM L I') t) (gx_A L)) args s 0 0 (gx_A L)) (F0 m 62 ls [.int u0, .int u1, .ref (gx_ad L u2)]) := by
  have hx := C.1
  have hb := C.2.1
  intro v0 v1 u0 u1 u2 hv0 hu2 I H locs ls hM hl h
  unfold wj_X8_readJobs_62 at h
  refine lv_iadd hx hb dX8_readJobs_62 ?_
  obtain ⟨I1, eI1⟩ : ∃ z : gx_MM, z = um I u2 14 (u1 + u0) := ⟨_, rfl⟩
  replace h := h I1 eI1
  refine pX8_14 C hM hu2 eI1 gw_733 dX8_readJobs_63 (fun H locs hM => ?_)
  refine lv_goto (tgt := 12) hx hb dX8_readJobs_66 (by decide) ?_
  exact hK12 v0 v1 (hv0) I1 _ _ _ hM (lv_sub hl [0, 1] rfl) h
set_option maxHeartbeats 4000000 in
set_option maxRecDepth 100000 in
theorem tj_X8_readJobs_47 (C : gx_C L 7 p s m args meth c RX8 cX8_readJobs 3 (some .int)) {Q : Int32 → gx_MM → Prop} {K12 : Nat → Int32 → gx_MM → Prop} (hK12 : ∀ (v0 : Nat) (v1 : Int32) (hv0 : kM v0 = 8) (I : gx_MM) (H : Heap) (locs : List Loc) (ls : Array Slot), gx_S L 7 (cellM L I) s.heap H locs → lv_has ls 3 [(0, .ref (gx_ad L v0)), (1, .int v1)] → K12 v0 v1 I → W p l e rm_X8_readJobs s m args below meth c H locs 0 0 (MQ below (va_Qi Q (fun I' t => gx_U L 7 (cellM L I') t) (gx_A L)) args s 0 0 (gx_A L)) (F0 m 12 ls [])) : ∀ (v0 : Nat) (u0 : Int32) (hv0 : kM v0 = 8) (I : gx_MM) (H : Heap) (locs : List Loc) (ls : Array Slot), gx_S L 7 (cellM L I) s.heap H locs → lv_has ls 3 [(0, .ref (gx_ad L v0))] → wj_X8_readJobs_47 Q K12 v0 u0 I → W p l e rm_X8_readJobs s m args below meth c H locs 0 0 (MQ below (va_Qi Q (fun I' t => gx_U L 7 (cellM L I') t) (gx_A L)) args s 0 0 (gx_A L)) (F0 m 47 ls [.int u0]) := by
  have hx := C.1
  have hb := C.2.1
  intro v0 u0 hv0 I H locs ls hM hl h
  unfold wj_X8_readJobs_47 at h
  refine lv_istore_n (lv' := [(1, .int u0), (0, .ref (gx_ad L v0))]) hx hb dX8_readJobs_47 rfl hl (by decide) rfl (fun ls hl => ?_)
  refine lv_aload_n hx hb dX8_readJobs_48 rfl (lv_at hl 1 rfl) ?_
  refine lv_dup hx hb dX8_readJobs_49 rfl ?_
  refine gX8_14 C hM hv0 gw_733 dX8_readJobs_50 ?_
  refine lv_iload_n hx hb dX8_readJobs_53 rfl (lv_at hl 0 rfl) ?_
  refine lv_if_eq (tgt := 61) hx hb dX8_readJobs_54 (by decide) (fun hc => ?_) (fun hc => ?_)
  · replace h := h.1 hc
    refine lv_iconst (v := (0 : Int32)) hx hb dX8_readJobs_61 (by decide) ?_
    exact tj_X8_readJobs_62 C hK12 v0 u0 (0 : Int32) (I.1 v0 14) v0 (hv0) (hv0) I _ _ _ hM (lv_sub hl [1, 0] rfl) h
  · replace h := h.2 hc
    refine lv_iconst (v := (1 : Int32)) hx hb dX8_readJobs_57 (by decide) ?_
    refine lv_goto (tgt := 62) hx hb dX8_readJobs_58 (by decide) ?_
    exact tj_X8_readJobs_62 C hK12 v0 u0 (1 : Int32) (I.1 v0 14) v0 (hv0) (hv0) I _ _ _ hM (lv_sub hl [1, 0] rfl) h
set_option maxHeartbeats 4000000 in
set_option maxRecDepth 100000 in
theorem tl_X8_readJobs_133 (C : gx_C L 7 p s m args meth c RX8 cX8_readJobs 3 (some .int)) {Q : Int32 → gx_MM → Prop} : ∀ (fu : Nat) (v0 : Nat) (v2 : Int32) (hv0 : kM v0 = 8) (I : gx_MM) (H : Heap) (locs : List Loc) (ls : Array Slot), gx_S L 7 (cellM L I) s.heap H locs → lv_has ls 3 [(0, .ref (gx_ad L v0)), (2, .int v2)] → wl_X8_readJobs_133 Q fu v0 v2 I → W p l e rm_X8_readJobs s m args below meth c H locs 0 0 (MQ below (va_Qi Q (fun I' t => gx_U L 7 (cellM L I') t) (gx_A L)) args s 0 0 (gx_A L)) (F0 m 133 ls []) := by
  have hx := C.1
  have hb := C.2.1
  intro fu
  induction fu with
  | zero => intros; rename_i h; exact False.elim h
  | succ fu ih =>
    intro v0 v2 hv0 I H locs ls hM hl h
    rw [wl_X8_readJobs_133] at h
    refine lv_iload_n hx hb dX8_readJobs_133 rfl (lv_at hl 1 rfl) ?_
    refine lv_aload_n hx hb dX8_readJobs_134 rfl (lv_at hl 0 rfl) ?_
    refine gX8_15 C hM hv0 gw_734 dX8_readJobs_135 ?_
    refine lv_icmp_ge (tgt := 179) hx hb dX8_readJobs_138 (by decide) (fun hc => ?_) (fun hc => ?_)
    · replace h := h.1 hc
      refine lv_aload_n hx hb dX8_readJobs_179 rfl (lv_at hl 0 rfl) ?_
      refine gX8_15 C hM hv0 gw_734 dX8_readJobs_180 ?_
      exact gq_iret C hM h dX8_readJobs_183
    · replace h := h.2 hc
      refine lv_aload_n hx hb dX8_readJobs_141 rfl (lv_at hl 0 rfl) ?_
      refine lv_aload_n hx hb dX8_readJobs_142 rfl (lv_at hl 0 rfl) ?_
      refine gX8_16 C hM hv0 gw_735 dX8_readJobs_143 ?_
      refine lv_iconst (v := (3 : Int32)) hx hb dX8_readJobs_146 (by decide) ?_
      refine lv_iload_n hx hb dX8_readJobs_147 rfl (lv_at hl 1 rfl) ?_
      refine lv_imul hx hb dX8_readJobs_148 ?_
      refine gialdM C hM (kM_8_16 hv0) h.1 dX8_readJobs_149 ?_
      replace h := h.2
      refine lv_aload_n hx hb dX8_readJobs_150 rfl (lv_at hl 0 rfl) ?_
      refine gX8_16 C hM hv0 gw_735 dX8_readJobs_151 ?_
      refine lv_iconst (v := (3 : Int32)) hx hb dX8_readJobs_154 (by decide) ?_
      refine lv_iload_n hx hb dX8_readJobs_155 rfl (lv_at hl 1 rfl) ?_
      refine lv_imul hx hb dX8_readJobs_156 ?_
      refine lv_iconst (v := (1 : Int32)) hx hb dX8_readJobs_157 (by decide) ?_
      refine lv_iadd hx hb dX8_readJobs_158 ?_
      refine gialdM C hM (kM_8_16 hv0) h.1 dX8_readJobs_159 ?_
      replace h := h.2
      refine lv_aload_n hx hb dX8_readJobs_160 rfl (lv_at hl 0 rfl) ?_
      refine gX8_16 C hM hv0 gw_735 dX8_readJobs_161 ?_
      refine lv_iconst (v := (3 : Int32)) hx hb dX8_readJobs_164 (by decide) ?_
      refine lv_iload_n hx hb dX8_readJobs_165 rfl (lv_at hl 1 rfl) ?_
      refine lv_imul hx hb dX8_readJobs_166 ?_
      refine lv_iconst (v := (2 : Int32)) hx hb dX8_readJobs_167 (by decide) ?_
      refine lv_iadd hx hb dX8_readJobs_168 ?_
      refine gialdM C hM (kM_8_16 hv0) h.1 dX8_readJobs_169 ?_
      replace h := h.2
      refine gq_backv C hM (gq_runV (As := [.int (I.1 (v0 + 6) ((3 : Int32) * v2).toNatClampNeg), .int (I.1 (v0 + 6) (((3 : Int32) * v2) + (1 : Int32)).toNatClampNeg), .int (I.1 (v0 + 6) (((3 : Int32) * v2) + (2 : Int32)).toNatClampNeg)]) (rest := []) C hM (kM_lt hv0 (by decide)) (cM_8 hv0) rfl (c_X8_ask l L v0 hv0 (I.1 (v0 + 6) ((3 : Int32) * v2).toNatClampNeg) (I.1 (v0 + 6) (((3 : Int32) * v2) + (1 : Int32)).toNatClampNeg) (I.1 (v0 + 6) (((3 : Int32) * v2) + (2 : Int32)).toNatClampNeg) I _ h) k_X8_ask gw_865 rfl hl.1 rfl (Nat.le_of_ble_eq_true rfl) ⟨⟨rfl, rfl⟩, Nat.le_of_ble_eq_true rfl, Nat.le_of_ble_eq_true rfl⟩ ⟨Nat.zero_le _, Nat.zero_le _⟩ dX8_readJobs_170) (fun I1 H locs h hM => ?_)
      obtain ⟨x1, ex1⟩ : ∃ z : Int32, z = v2 + (1 : Int32) := ⟨_, rfl⟩
      replace h := h x1 ex1
      refine lv_iinc (v := x1) (lv' := [(2, .int x1), (0, .ref (gx_ad L v0))]) hx hb dX8_readJobs_173 hl (k := 1) rfl (by rw [ex1]; rfl) (by decide) rfl (fun ls hl => ?_)
      refine lv_goto (tgt := 133) hx hb dX8_readJobs_176 (by decide) ?_
      exact ih v0 x1 (hv0) I1 _ _ _ hM (lv_sub hl [1, 0] rfl) h
set_option maxHeartbeats 4000000 in
set_option maxRecDepth 100000 in
theorem tl_X8_readJobs_71 (C : gx_C L 7 p s m args meth c RX8 cX8_readJobs 3 (some .int)) {Q : Int32 → gx_MM → Prop} : ∀ (fu : Nat) (v0 : Nat) (v2 : Int32) (hv0 : kM v0 = 8) (I : gx_MM) (H : Heap) (locs : List Loc) (ls : Array Slot), gx_S L 7 (cellM L I) s.heap H locs → lv_has ls 3 [(0, .ref (gx_ad L v0)), (2, .int v2)] → wl_X8_readJobs_71 Q fu v0 v2 I → W p l e rm_X8_readJobs s m args below meth c H locs 0 0 (MQ below (va_Qi Q (fun I' t => gx_U L 7 (cellM L I') t) (gx_A L)) args s 0 0 (gx_A L)) (F0 m 71 ls []) := by
  have hx := C.1
  have hb := C.2.1
  intro fu
  induction fu with
  | zero => intros; rename_i h; exact False.elim h
  | succ fu ih =>
    intro v0 v2 hv0 I H locs ls hM hl h
    rw [wl_X8_readJobs_71] at h
    refine lv_iload_n hx hb dX8_readJobs_71 rfl (lv_at hl 1 rfl) ?_
    refine lv_aload_n hx hb dX8_readJobs_72 rfl (lv_at hl 0 rfl) ?_
    refine gX8_15 C hM hv0 gw_734 dX8_readJobs_73 ?_
    refine lv_icmp_ge (tgt := 105) hx hb dX8_readJobs_76 (by decide) (fun hc => ?_) (fun hc => ?_)
    · replace h := h.1 hc
      refine lv_aload_n hx hb dX8_readJobs_105 rfl (lv_at hl 0 rfl) ?_
      refine gX8_0 C hM hv0 gw_719 dX8_readJobs_106 ?_
      refine lv_iconst (v := (4 : Int32)) hx hb dX8_readJobs_109 (by decide) ?_
      refine gialdM C hM (kM_8_0 hv0) h.1 dX8_readJobs_110 ?_
      replace h := h.2
      refine lv_aload_n hx hb dX8_readJobs_111 rfl (lv_at hl 0 rfl) ?_
      refine gX8_15 C hM hv0 gw_734 dX8_readJobs_112 ?_
      refine lv_iadd hx hb dX8_readJobs_115 ?_
      refine lv_bipush (v := (20 : Int32)) hx hb dX8_readJobs_116 (by decide) ?_
      refine lv_icmp_le (tgt := 127) hx hb dX8_readJobs_118 (by decide) (fun hc => ?_) (fun hc => ?_)
      · replace h := h.1 hc
        refine lv_aload_n hx hb dX8_readJobs_127 rfl (lv_at hl 0 rfl) ?_
        refine gq_backv C hM (gq_runV (As := []) (rest := []) C hM (kM_lt hv0 (by decide)) (cM_8 hv0) rfl (c_X8_save l L v0 hv0 I _ h) k_X8_save gw_794 rfl hl.1 rfl (Nat.le_of_ble_eq_true rfl) ⟨⟨rfl, rfl⟩, Nat.le_of_ble_eq_true rfl, Nat.le_of_ble_eq_true rfl⟩ ⟨Nat.zero_le _, Nat.zero_le _⟩ dX8_readJobs_128) (fun I1 H locs h hM => ?_)
        refine lv_iconst (v := (0 : Int32)) hx hb dX8_readJobs_131 (by decide) ?_
        refine lv_istore_n (lv' := [(2, .int (0 : Int32)), (0, .ref (gx_ad L v0))]) hx hb dX8_readJobs_132 rfl hl (by decide) rfl (fun ls hl => ?_)
        obtain ⟨fu, h⟩ := h
        exact tl_X8_readJobs_133 C fu v0 (0 : Int32) (hv0) I1 _ _ _ hM (lv_sub hl [1, 0] rfl) h
      · replace h := h.2 hc
        refine lv_aload_n hx hb dX8_readJobs_121 rfl (lv_at hl 0 rfl) ?_
        refine lv_iconst (v := (1 : Int32)) hx hb dX8_readJobs_122 (by decide) ?_
        refine gq_backi C hM (gq_runV (As := [.int (1 : Int32)]) (rest := []) C hM (kM_lt hv0 (by decide)) (cM_8 hv0) rfl (c_X8_refuse l L v0 hv0 (1 : Int32) I _ h) k_X8_refuse gw_780 rfl hl.1 rfl (Nat.le_of_ble_eq_true rfl) ⟨⟨rfl, rfl⟩, Nat.le_of_ble_eq_true rfl, Nat.le_of_ble_eq_true rfl⟩ ⟨Nat.zero_le _, Nat.zero_le _⟩ dX8_readJobs_123) (fun r1 I2 H locs h hM => ?_)
        exact gq_iret C hM h dX8_readJobs_126
    · replace h := h.2 hc
      refine lv_aload_n hx hb dX8_readJobs_79 rfl (lv_at hl 0 rfl) ?_
      refine lv_aload_n hx hb dX8_readJobs_80 rfl (lv_at hl 0 rfl) ?_
      refine gX8_16 C hM hv0 gw_735 dX8_readJobs_81 ?_
      refine lv_iconst (v := (3 : Int32)) hx hb dX8_readJobs_84 (by decide) ?_
      refine lv_iload_n hx hb dX8_readJobs_85 rfl (lv_at hl 1 rfl) ?_
      refine lv_imul hx hb dX8_readJobs_86 ?_
      refine lv_iconst (v := (1 : Int32)) hx hb dX8_readJobs_87 (by decide) ?_
      refine lv_iadd hx hb dX8_readJobs_88 ?_
      refine gialdM C hM (kM_8_16 hv0) h.1 dX8_readJobs_89 ?_
      replace h := h.2
      refine gq_backi C hM (gq_runV (As := [.int (I.1 (v0 + 6) (((3 : Int32) * v2) + (1 : Int32)).toNatClampNeg)]) (rest := []) C hM (kM_lt hv0 (by decide)) (cM_8 hv0) rfl (c_X8_noRosette l L v0 hv0 (I.1 (v0 + 6) (((3 : Int32) * v2) + (1 : Int32)).toNatClampNeg) I _ h) k_X8_noRosette gw_810 rfl hl.1 rfl (Nat.le_of_ble_eq_true rfl) ⟨⟨rfl, rfl⟩, Nat.le_of_ble_eq_true rfl, Nat.le_of_ble_eq_true rfl⟩ ⟨Nat.zero_le _, Nat.zero_le _⟩ dX8_readJobs_90) (fun r2 I3 H locs h hM => ?_)
      obtain ⟨hz1, h⟩ := h
      refine lv_if_eq (tgt := 99) hx hb dX8_readJobs_93 (by decide) (fun hc => ?_) (fun hc => ?_)
      · replace h := h.1 hc
        obtain ⟨x1, ex1⟩ : ∃ z : Int32, z = v2 + (1 : Int32) := ⟨_, rfl⟩
        replace h := h x1 ex1
        refine lv_iinc (v := x1) (lv' := [(2, .int x1), (0, .ref (gx_ad L v0))]) hx hb dX8_readJobs_99 hl (k := 1) rfl (by rw [ex1]; rfl) (by decide) rfl (fun ls hl => ?_)
        refine lv_goto (tgt := 71) hx hb dX8_readJobs_102 (by decide) ?_
        exact ih v0 x1 (hv0) I3 _ _ _ hM (lv_sub hl [1, 0] rfl) h
      · replace h := h.2 hc
        refine gq_ldc (v := (-1000001 : Int32)) C gw_814 dX8_readJobs_96 ?_
        exact gq_iret C hM h dX8_readJobs_98
set_option maxHeartbeats 4000000 in
set_option maxRecDepth 100000 in
theorem tl_X8_readJobs_12 (C : gx_C L 7 p s m args meth c RX8 cX8_readJobs 3 (some .int)) {Q : Int32 → gx_MM → Prop} : ∀ (fu : Nat) (v0 : Nat) (v1 : Int32) (hv0 : kM v0 = 8) (I : gx_MM) (H : Heap) (locs : List Loc) (ls : Array Slot), gx_S L 7 (cellM L I) s.heap H locs → lv_has ls 3 [(0, .ref (gx_ad L v0)), (1, .int v1)] → wl_X8_readJobs_12 Q fu v0 v1 I → W p l e rm_X8_readJobs s m args below meth c H locs 0 0 (MQ below (va_Qi Q (fun I' t => gx_U L 7 (cellM L I') t) (gx_A L)) args s 0 0 (gx_A L)) (F0 m 12 ls []) := by
  have hx := C.1
  have hb := C.2.1
  intro fu
  induction fu with
  | zero => intros; rename_i h; exact False.elim h
  | succ fu ih =>
    intro v0 v1 hv0 I H locs ls hM hl h
    rw [wl_X8_readJobs_12] at h
    refine lv_iload_n hx hb dX8_readJobs_12 rfl (lv_at hl 1 rfl) ?_
    refine lv_if_eq (tgt := 69) hx hb dX8_readJobs_13 (by decide) (fun hc => ?_) (fun hc => ?_)
    · replace h := h.1 hc
      refine lv_iconst (v := (0 : Int32)) hx hb dX8_readJobs_69 (by decide) ?_
      refine lv_istore_n (lv' := [(2, .int (0 : Int32)), (0, .ref (gx_ad L v0)), (1, .int v1)]) hx hb dX8_readJobs_70 rfl hl (by decide) rfl (fun ls hl => ?_)
      obtain ⟨fu, h⟩ := h
      exact tl_X8_readJobs_71 C fu v0 (0 : Int32) (hv0) I _ _ _ hM (lv_sub hl [1, 0] rfl) h
    · replace h := h.2 hc
      refine lv_aload_n hx hb dX8_readJobs_16 rfl (lv_at hl 0 rfl) ?_
      refine gq_backi C hM (gq_runV (As := []) (rest := []) C hM (kM_lt hv0 (by decide)) (cM_8 hv0) rfl (c_X8_readsJob l L v0 hv0 I _ h) k_X8_readsJob gw_983 rfl hl.1 rfl (Nat.le_of_ble_eq_true rfl) ⟨⟨rfl, rfl⟩, Nat.le_of_ble_eq_true rfl, Nat.le_of_ble_eq_true rfl⟩ ⟨Nat.zero_le _, Nat.zero_le _⟩ dX8_readJobs_17) (fun r1 I1 H locs h hM => ?_)
      obtain ⟨hz1, h⟩ := h
      refine lv_if_ne (tgt := 31) hx hb dX8_readJobs_20 (by decide) (fun hc => ?_) (fun hc => ?_)
      · replace h := h.2 hc
        refine lv_aload_n hx hb dX8_readJobs_31 rfl (lv_at hl 0 rfl) ?_
        refine gX8_14 C hM hv0 gw_733 dX8_readJobs_32 ?_
        refine lv_aload_n hx hb dX8_readJobs_35 rfl (lv_at hl 0 rfl) ?_
        refine gX8_12 C hM hv0 gw_731 dX8_readJobs_36 ?_
        refine lv_icmp_ge (tgt := 46) hx hb dX8_readJobs_39 (by decide) (fun hc => ?_) (fun hc => ?_)
        · replace h := h.1 hc
          refine lv_iconst (v := (0 : Int32)) hx hb dX8_readJobs_46 (by decide) ?_
          exact tj_X8_readJobs_47 C ih v0 (0 : Int32) (hv0) I1 _ _ _ hM (lv_sub hl [0] rfl) h
        · replace h := h.2 hc
          refine lv_iconst (v := (1 : Int32)) hx hb dX8_readJobs_42 (by decide) ?_
          refine lv_goto (tgt := 47) hx hb dX8_readJobs_43 (by decide) ?_
          exact tj_X8_readJobs_47 C ih v0 (1 : Int32) (hv0) I1 _ _ _ hM (lv_sub hl [0] rfl) h
      · replace h := h.1 hc
        refine lv_bipush (v := (-100 : Int32)) hx hb dX8_readJobs_23 (by decide) ?_
        refine lv_aload_n hx hb dX8_readJobs_25 rfl (lv_at hl 0 rfl) ?_
        refine gX8_14 C hM hv0 gw_733 dX8_readJobs_26 ?_
        refine lv_isub hx hb dX8_readJobs_29 ?_
        exact gq_iret C hM h dX8_readJobs_30
set_option maxHeartbeats 4000000 in
set_option maxRecDepth 100000 in
theorem c_X8_readJobs (l : Launch) (L : gx_L) (a0 : Nat) (hk0 : kM a0 = 8) (I : gx_MM) (Q : Int32 → gx_MM → Prop) (h : wp_X8_readJobs a0 I Q) : Met l yX8_readJobs (gx_w yX8_readJobs cX8_readJobs 3 (some .int)) rm_X8_readJobs (va_Pc [.ref (gx_ad L a0)] (gx_U L 7 (cellM L I))) (va_Qi Q (fun I' t => gx_U L 7 (cellM L I') t) (gx_A L)) 0 0 (gx_A L) := by
  refine gq_enter (by decide) (Nat.le_of_ble_eq_true rfl) (fun p e s m below meth c ls C hM hl => ?_)
  have C : gx_C L 7 p s m _ meth c RX8 cX8_readJobs 3 (some .int) := C
  have hl : lv_has ls 3 [(0, .ref (gx_ad L a0))] := hl
  have hx := C.1
  have hb := C.2.1
  unfold wp_X8_readJobs at h
  refine lv_aload_n hx hb dX8_readJobs_0 rfl (lv_at hl 0 rfl) ?_
  refine lv_iconst (v := (0 : Int32)) hx hb dX8_readJobs_1 (by decide) ?_
  obtain ⟨I1, eI1⟩ : ∃ z : gx_MM, z = um I a0 14 (0 : Int32) := ⟨_, rfl⟩
  replace h := h I1 eI1
  refine pX8_14 C hM hk0 eI1 gw_733 dX8_readJobs_2 (fun H locs hM => ?_)
  refine lv_aload_n hx hb dX8_readJobs_5 rfl (lv_at hl 0 rfl) ?_
  refine lv_iconst (v := (0 : Int32)) hx hb dX8_readJobs_6 (by decide) ?_
  obtain ⟨I2, eI2⟩ : ∃ z : gx_MM, z = um I1 a0 15 (0 : Int32) := ⟨_, rfl⟩
  replace h := h I2 eI2
  refine pX8_15 C hM hk0 eI2 gw_734 dX8_readJobs_7 (fun H locs hM => ?_)
  refine lv_iconst (v := (1 : Int32)) hx hb dX8_readJobs_10 (by decide) ?_
  refine lv_istore_n (lv' := [(1, .int (1 : Int32)), (0, .ref (gx_ad L a0))]) hx hb dX8_readJobs_11 rfl hl (by decide) rfl (fun ls hl => ?_)
  obtain ⟨fu, h⟩ := h
  exact tl_X8_readJobs_12 C fu a0 (1 : Int32) (hk0) I2 _ _ _ hM (lv_sub hl [1, 0] rfl) h
theorem k_X8_readJobs : gx_kV yX8_readJobs cX8_readJobs 3 (some .int) 0 := ⟨⟨gw_982, gw_67, by decide, by decide, by decide +kernel⟩, gw_980, gw_981⟩
abbrev rm_X8_record : Room := { frames := 1, cells := 0, slots := 0, locals := 22 }
set_option maxHeartbeats 4000000 in
set_option maxRecDepth 100000 in
theorem c_X8_record (l : Launch) (L : gx_L) (a0 : Nat) (hk0 : kM a0 = 8) (p0 : Int32) (p1 : Int32) (I : gx_MM) (Q : Int32 → gx_MM → Prop) (h : wp_X8_record a0 p0 p1 I Q) : Met l yX8_record (gx_w yX8_record cX8_record 3 (some .int)) rm_X8_record (va_Pc [.ref (gx_ad L a0), .int p0, .int p1] (gx_U L 7 (cellM L I))) (va_Qi Q (fun I' t => gx_U L 7 (cellM L I') t) (gx_A L)) 0 0 (gx_A L) := by
  refine gq_enter (by decide) (Nat.le_of_ble_eq_true rfl) (fun p e s m below meth c ls C hM hl => ?_)
  have C : gx_C L 7 p s m _ meth c RX8 cX8_record 3 (some .int) := C
  have hl : lv_has ls 3 [(0, .ref (gx_ad L a0)), (1, .int p0), (2, .int p1)] := hl
  have hx := C.1
  have hb := C.2.1
  unfold wp_X8_record at h
  refine lv_iload_n hx hb dX8_record_0 rfl (lv_at hl 1 rfl) ?_
  refine lv_if_lt (tgt := 13) hx hb dX8_record_1 (by decide) (fun hc => ?_) (fun hc => ?_)
  · replace h := h.1 hc
    refine gq_ldc (v := (-1000002 : Int32)) C gw_779 dX8_record_13 ?_
    exact gq_iret C hM h dX8_record_15
  · replace h := h.2 hc
    refine lv_iload_n hx hb dX8_record_4 rfl (lv_at hl 2 rfl) ?_
    refine lv_iconst (v := (0 : Int32)) hx hb dX8_record_5 (by decide) ?_
    refine lv_iconst (v := (3 : Int32)) hx hb dX8_record_6 (by decide) ?_
    refine gq_backi C hM (gq_runS (As := [.int p1, .int (0 : Int32), .int (3 : Int32)]) (rest := []) C hM (c_X8_in l L p1 (0 : Int32) (3 : Int32) I _ h) k_X8_in gw_776 rfl hl.1 rfl (Nat.le_of_ble_eq_true rfl) ⟨⟨rfl, rfl⟩, Nat.le_of_ble_eq_true rfl, Nat.le_of_ble_eq_true rfl⟩ ⟨Nat.zero_le _, Nat.zero_le _⟩ dX8_record_7) (fun r1 I1 H locs h hM => ?_)
    obtain ⟨hz1, h⟩ := h
    refine lv_if_ne (tgt := 16) hx hb dX8_record_10 (by decide) (fun hc => ?_) (fun hc => ?_)
    · replace h := h.2 hc
      refine lv_iload_n hx hb dX8_record_16 rfl (lv_at hl 1 rfl) ?_
      refine lv_aload_n hx hb dX8_record_17 rfl (lv_at hl 0 rfl) ?_
      refine gX8_0 C hM hk0 gw_719 dX8_record_18 ?_
      refine lv_bipush (v := (8 : Int32)) hx hb dX8_record_21 (by decide) ?_
      refine gialdM C hM (kM_8_0 hk0) h.1 dX8_record_23 ?_
      replace h := h.2
      refine lv_icmp_ge (tgt := 54) hx hb dX8_record_24 (by decide) (fun hc => ?_) (fun hc => ?_)
      · replace h := h.1 hc
        refine gq_ldc (v := (-1000004 : Int32)) C gw_793 dX8_record_54 ?_
        exact gq_iret C hM h dX8_record_56
      · replace h := h.2 hc
        refine lv_aload_n hx hb dX8_record_27 rfl (lv_at hl 0 rfl) ?_
        refine gX8_0 C hM hk0 gw_719 dX8_record_28 ?_
        refine lv_sipush (v := (250 : Int32)) hx hb dX8_record_31 (by decide) ?_
        refine lv_iconst (v := (4 : Int32)) hx hb dX8_record_34 (by decide) ?_
        refine lv_aload_n hx hb dX8_record_35 rfl (lv_at hl 0 rfl) ?_
        refine gX8_0 C hM hk0 gw_719 dX8_record_36 ?_
        refine lv_bipush (v := (8 : Int32)) hx hb dX8_record_39 (by decide) ?_
        refine gialdM C hM (kM_8_0 hk0) h.1 dX8_record_41 ?_
        replace h := h.2
        refine lv_iconst (v := (1 : Int32)) hx hb dX8_record_42 (by decide) ?_
        refine lv_isub hx hb dX8_record_43 ?_
        refine lv_iload_n hx hb dX8_record_44 rfl (lv_at hl 1 rfl) ?_
        refine lv_isub hx hb dX8_record_45 ?_
        refine lv_imul hx hb dX8_record_46 ?_
        refine lv_iadd hx hb dX8_record_47 ?_
        refine lv_iload_n hx hb dX8_record_48 rfl (lv_at hl 2 rfl) ?_
        refine lv_iadd hx hb dX8_record_49 ?_
        refine gialdM C hM (kM_8_0 hk0) h.1 dX8_record_50 ?_
        replace h := h.2
        refine lv_goto (tgt := 56) hx hb dX8_record_51 (by decide) ?_
        exact gq_iret C hM h dX8_record_56
    · replace h := h.1 hc
      refine gq_ldc (v := (-1000002 : Int32)) C gw_779 dX8_record_13 ?_
      exact gq_iret C hM h dX8_record_15
theorem k_X8_record : gx_kV yX8_record cX8_record 3 (some .int) 2 := ⟨⟨gw_1030, gw_67, by decide, by decide, by decide +kernel⟩, gw_1028, gw_1029⟩
abbrev rm_X8_request : Room := { frames := 2, cells := 0, slots := 0, locals := 43 }
set_option maxHeartbeats 4000000 in
set_option maxRecDepth 100000 in
theorem c_X8_request (l : Launch) (L : gx_L) (a0 : Nat) (hk0 : kM a0 = 8) (p0 : Int32) (p1 : Int32) (p2 : Int32) (I : gx_MM) (Q : Int32 → gx_MM → Prop) (h : wp_X8_request a0 p0 p1 p2 I Q) : Met l yX8_request (gx_w yX8_request cX8_request 4 (some .int)) rm_X8_request (va_Pc [.ref (gx_ad L a0), .int p0, .int p1, .int p2] (gx_U L 7 (cellM L I))) (va_Qi Q (fun I' t => gx_U L 7 (cellM L I') t) (gx_A L)) 0 0 (gx_A L) := by
  refine gq_enter (by decide) (Nat.le_of_ble_eq_true rfl) (fun p e s m below meth c ls C hM hl => ?_)
  have C : gx_C L 7 p s m _ meth c RX8 cX8_request 4 (some .int) := C
  have hl : lv_has ls 4 [(0, .ref (gx_ad L a0)), (1, .int p0), (2, .int p1), (3, .int p2)] := hl
  have hx := C.1
  have hb := C.2.1
  unfold wp_X8_request at h
  refine lv_aload_n hx hb dX8_request_0 rfl (lv_at hl 0 rfl) ?_
  refine lv_iload_n hx hb dX8_request_1 rfl (lv_at hl 2 rfl) ?_
  refine gq_backi C hM (gq_runV (As := [.int p1]) (rest := []) C hM (kM_lt hk0 (by decide)) (cM_8 hk0) rfl (c_X8_noRosette l L a0 hk0 p1 I _ h) k_X8_noRosette gw_810 rfl hl.1 rfl (Nat.le_of_ble_eq_true rfl) ⟨⟨rfl, rfl⟩, Nat.le_of_ble_eq_true rfl, Nat.le_of_ble_eq_true rfl⟩ ⟨Nat.zero_le _, Nat.zero_le _⟩ dX8_request_2) (fun r1 I1 H locs h hM => ?_)
  obtain ⟨hz1, h⟩ := h
  refine lv_if_eq (tgt := 11) hx hb dX8_request_5 (by decide) (fun hc => ?_) (fun hc => ?_)
  · replace h := h.1 hc
    refine lv_iload_n hx hb dX8_request_11 rfl (lv_at hl 1 rfl) ?_
    refine lv_iconst (v := (0 : Int32)) hx hb dX8_request_12 (by decide) ?_
    refine lv_iconst (v := (2 : Int32)) hx hb dX8_request_13 (by decide) ?_
    refine gq_backi C hM (gq_runS (As := [.int p0, .int (0 : Int32), .int (2 : Int32)]) (rest := []) C hM (c_X8_in l L p0 (0 : Int32) (2 : Int32) I1 _ h) k_X8_in gw_776 rfl hl.1 rfl (Nat.le_of_ble_eq_true rfl) ⟨⟨rfl, rfl⟩, Nat.le_of_ble_eq_true rfl, Nat.le_of_ble_eq_true rfl⟩ ⟨Nat.zero_le _, Nat.zero_le _⟩ dX8_request_14) (fun r2 I2 H locs h hM => ?_)
    obtain ⟨hz2, h⟩ := h
    refine lv_if_eq (tgt := 30) hx hb dX8_request_17 (by decide) (fun hc => ?_) (fun hc => ?_)
    · replace h := h.1 hc
      refine gq_ldc (v := (-1000002 : Int32)) C gw_779 dX8_request_30 ?_
      exact gq_iret C hM h dX8_request_32
    · replace h := h.2 hc
      refine lv_iload_n hx hb dX8_request_20 rfl (lv_at hl 3 rfl) ?_
      refine lv_iconst (v := (0 : Int32)) hx hb dX8_request_21 (by decide) ?_
      refine lv_bipush (v := (9 : Int32)) hx hb dX8_request_22 (by decide) ?_
      refine gq_backi C hM (gq_runS (As := [.int p2, .int (0 : Int32), .int (9 : Int32)]) (rest := []) C hM (c_X8_in l L p2 (0 : Int32) (9 : Int32) I2 _ h) k_X8_in gw_776 rfl hl.1 rfl (Nat.le_of_ble_eq_true rfl) ⟨⟨rfl, rfl⟩, Nat.le_of_ble_eq_true rfl, Nat.le_of_ble_eq_true rfl⟩ ⟨Nat.zero_le _, Nat.zero_le _⟩ dX8_request_24) (fun r3 I3 H locs h hM => ?_)
      obtain ⟨hz3, h⟩ := h
      refine lv_if_ne (tgt := 33) hx hb dX8_request_27 (by decide) (fun hc => ?_) (fun hc => ?_)
      · replace h := h.2 hc
        refine lv_aload_n hx hb dX8_request_33 rfl (lv_at hl 0 rfl) ?_
        refine gX8_0 C hM hk0 gw_719 dX8_request_34 ?_
        refine lv_iconst (v := (4 : Int32)) hx hb dX8_request_37 (by decide) ?_
        refine gialdM C hM (kM_8_0 hk0) h.1 dX8_request_38 ?_
        replace h := h.2
        refine lv_bipush (v := (20 : Int32)) hx hb dX8_request_39 (by decide) ?_
        refine lv_icmp_ne (tgt := 50) hx hb dX8_request_41 (by decide) (fun hc => ?_) (fun hc => ?_)
        · replace h := h.2 hc
          refine lv_aload_n hx hb dX8_request_50 rfl (lv_at hl 0 rfl) ?_
          refine gq_backv C hM (gq_runV (As := []) (rest := []) C hM (kM_lt hk0 (by decide)) (cM_8 hk0) rfl (c_X8_save l L a0 hk0 I3 _ h) k_X8_save gw_794 rfl hl.1 rfl (Nat.le_of_ble_eq_true rfl) ⟨⟨rfl, rfl⟩, Nat.le_of_ble_eq_true rfl, Nat.le_of_ble_eq_true rfl⟩ ⟨Nat.zero_le _, Nat.zero_le _⟩ dX8_request_51) (fun I4 H locs h hM => ?_)
          refine lv_aload_n hx hb dX8_request_54 rfl (lv_at hl 0 rfl) ?_
          refine lv_iload_n hx hb dX8_request_55 rfl (lv_at hl 1 rfl) ?_
          refine lv_iload_n hx hb dX8_request_56 rfl (lv_at hl 2 rfl) ?_
          refine lv_iload_n hx hb dX8_request_57 rfl (lv_at hl 3 rfl) ?_
          refine gq_backv C hM (gq_runV (As := [.int p0, .int p1, .int p2]) (rest := []) C hM (kM_lt hk0 (by decide)) (cM_8 hk0) rfl (c_X8_ask l L a0 hk0 p0 p1 p2 I4 _ h) k_X8_ask gw_865 rfl hl.1 rfl (Nat.le_of_ble_eq_true rfl) ⟨⟨rfl, rfl⟩, Nat.le_of_ble_eq_true rfl, Nat.le_of_ble_eq_true rfl⟩ ⟨Nat.zero_le _, Nat.zero_le _⟩ dX8_request_58) (fun I5 H locs h hM => ?_)
          refine lv_aload_n hx hb dX8_request_61 rfl (lv_at hl 0 rfl) ?_
          refine gX8_0 C hM hk0 gw_719 dX8_request_62 ?_
          refine lv_iconst (v := (5 : Int32)) hx hb dX8_request_65 (by decide) ?_
          refine gialdM C hM (kM_8_0 hk0) h.1 dX8_request_66 ?_
          replace h := h.2
          refine lv_iconst (v := (1 : Int32)) hx hb dX8_request_67 (by decide) ?_
          refine lv_isub hx hb dX8_request_68 ?_
          exact gq_iret C hM h dX8_request_69
        · replace h := h.1 hc
          refine lv_aload_n hx hb dX8_request_44 rfl (lv_at hl 0 rfl) ?_
          refine lv_iconst (v := (1 : Int32)) hx hb dX8_request_45 (by decide) ?_
          refine gq_backi C hM (gq_runV (As := [.int (1 : Int32)]) (rest := []) C hM (kM_lt hk0 (by decide)) (cM_8 hk0) rfl (c_X8_refuse l L a0 hk0 (1 : Int32) I3 _ h) k_X8_refuse gw_780 rfl hl.1 rfl (Nat.le_of_ble_eq_true rfl) ⟨⟨rfl, rfl⟩, Nat.le_of_ble_eq_true rfl, Nat.le_of_ble_eq_true rfl⟩ ⟨Nat.zero_le _, Nat.zero_le _⟩ dX8_request_46) (fun r4 I6 H locs h hM => ?_)
          exact gq_iret C hM h dX8_request_49
      · replace h := h.1 hc
        refine gq_ldc (v := (-1000002 : Int32)) C gw_779 dX8_request_30 ?_
        exact gq_iret C hM h dX8_request_32
  · replace h := h.2 hc
    refine gq_ldc (v := (-1000001 : Int32)) C gw_814 dX8_request_8 ?_
    exact gq_iret C hM h dX8_request_10
theorem k_X8_request : gx_kV yX8_request cX8_request 4 (some .int) 3 := ⟨⟨gw_864, gw_67, by decide, by decide, by decide +kernel⟩, gw_862, gw_863⟩
abbrev rm_X8_restore : Room := { frames := 1, cells := 0, slots := 0, locals := 21 }
set_option maxHeartbeats 4000000 in
set_option maxRecDepth 100000 in
theorem tl_X8_restore_16 (C : gx_C L 7 p s m args meth c RX8 cX8_restore 2 (some .int)) {Q : Int32 → gx_MM → Prop} : ∀ (fu : Nat) (v0 : Nat) (v1 : Int32) (hv0 : kM v0 = 8) (I : gx_MM) (H : Heap) (locs : List Loc) (ls : Array Slot), gx_S L 7 (cellM L I) s.heap H locs → lv_has ls 2 [(0, .ref (gx_ad L v0)), (1, .int v1)] → wl_X8_restore_16 Q fu v0 v1 I → W p l e rm_X8_restore s m args below meth c H locs 0 0 (MQ below (va_Qi Q (fun I' t => gx_U L 7 (cellM L I') t) (gx_A L)) args s 0 0 (gx_A L)) (F0 m 16 ls []) := by
  have hx := C.1
  have hb := C.2.1
  intro fu
  induction fu with
  | zero => intros; rename_i h; exact False.elim h
  | succ fu ih =>
    intro v0 v1 hv0 I H locs ls hM hl h
    rw [wl_X8_restore_16] at h
    refine lv_iload_n hx hb dX8_restore_16 rfl (lv_at hl 1 rfl) ?_
    refine lv_sipush (v := (298 : Int32)) hx hb dX8_restore_17 (by decide) ?_
    refine lv_icmp_ge (tgt := 41) hx hb dX8_restore_20 (by decide) (fun hc => ?_) (fun hc => ?_)
    · replace h := h.1 hc
      refine lv_aload_n hx hb dX8_restore_41 rfl (lv_at hl 0 rfl) ?_
      refine gX8_0 C hM hv0 gw_719 dX8_restore_42 ?_
      refine lv_iconst (v := (0 : Int32)) hx hb dX8_restore_45 (by decide) ?_
      refine gialdM C hM (kM_8_0 hv0) h.1 dX8_restore_46 ?_
      replace h := h.2
      exact gq_iret C hM h dX8_restore_47
    · replace h := h.2 hc
      refine lv_aload_n hx hb dX8_restore_23 rfl (lv_at hl 0 rfl) ?_
      refine gX8_0 C hM hv0 gw_719 dX8_restore_24 ?_
      refine lv_iload_n hx hb dX8_restore_27 rfl (lv_at hl 1 rfl) ?_
      refine lv_aload_n hx hb dX8_restore_28 rfl (lv_at hl 0 rfl) ?_
      refine gX8_3 C hM hv0 gw_722 dX8_restore_29 ?_
      refine lv_iload_n hx hb dX8_restore_32 rfl (lv_at hl 1 rfl) ?_
      refine gialdM C hM (kM_8_3 hv0) h.1 dX8_restore_33 ?_
      replace h := h.2
      have hi := h.1
      replace h := h.2
      obtain ⟨I1, eI1⟩ : ∃ z : gx_MM, z = um I (v0 + 1) v1.toNatClampNeg (I.1 (v0 + 3) v1.toNatClampNeg) := ⟨_, rfl⟩
      replace h := h I1 eI1
      refine giastM C hM (kM_8_0 hv0) hi eI1 dX8_restore_34 (fun H locs hM => ?_)
      obtain ⟨x1, ex1⟩ : ∃ z : Int32, z = v1 + (1 : Int32) := ⟨_, rfl⟩
      replace h := h x1 ex1
      refine lv_iinc (v := x1) (lv' := [(1, .int x1), (0, .ref (gx_ad L v0))]) hx hb dX8_restore_35 hl (k := 1) rfl (by rw [ex1]; rfl) (by decide) rfl (fun ls hl => ?_)
      refine lv_goto (tgt := 16) hx hb dX8_restore_38 (by decide) ?_
      exact ih v0 x1 (hv0) I1 _ _ _ hM (lv_sub hl [1, 0] rfl) h
set_option maxHeartbeats 4000000 in
set_option maxRecDepth 100000 in
theorem c_X8_restore (l : Launch) (L : gx_L) (a0 : Nat) (hk0 : kM a0 = 8) (I : gx_MM) (Q : Int32 → gx_MM → Prop) (h : wp_X8_restore a0 I Q) : Met l yX8_restore (gx_w yX8_restore cX8_restore 2 (some .int)) rm_X8_restore (va_Pc [.ref (gx_ad L a0)] (gx_U L 7 (cellM L I))) (va_Qi Q (fun I' t => gx_U L 7 (cellM L I') t) (gx_A L)) 0 0 (gx_A L) := by
  refine gq_enter (by decide) (Nat.le_of_ble_eq_true rfl) (fun p e s m below meth c ls C hM hl => ?_)
  have C : gx_C L 7 p s m _ meth c RX8 cX8_restore 2 (some .int) := C
  have hl : lv_has ls 2 [(0, .ref (gx_ad L a0))] := hl
  have hx := C.1
  have hb := C.2.1
  unfold wp_X8_restore at h
  refine lv_aload_n hx hb dX8_restore_0 rfl (lv_at hl 0 rfl) ?_
  refine gX8_4 C hM hk0 gw_723 dX8_restore_1 ?_
  refine lv_if_ne (tgt := 10) hx hb dX8_restore_4 (by decide) (fun hc => ?_) (fun hc => ?_)
  · replace h := h.2 hc
    refine lv_aload_n hx hb dX8_restore_10 rfl (lv_at hl 0 rfl) ?_
    refine gq_backv C hM (gq_runV (As := []) (rest := []) C hM (kM_lt hk0 (by decide)) (cM_8 hk0) rfl (c_X8_save l L a0 hk0 I _ h) k_X8_save gw_794 rfl hl.1 rfl (Nat.le_of_ble_eq_true rfl) ⟨⟨rfl, rfl⟩, Nat.le_of_ble_eq_true rfl, Nat.le_of_ble_eq_true rfl⟩ ⟨Nat.zero_le _, Nat.zero_le _⟩ dX8_restore_11) (fun I1 H locs h hM => ?_)
    refine lv_iconst (v := (0 : Int32)) hx hb dX8_restore_14 (by decide) ?_
    refine lv_istore_n (lv' := [(1, .int (0 : Int32)), (0, .ref (gx_ad L a0))]) hx hb dX8_restore_15 rfl hl (by decide) rfl (fun ls hl => ?_)
    obtain ⟨fu, h⟩ := h
    exact tl_X8_restore_16 C fu a0 (0 : Int32) (hk0) I1 _ _ _ hM (lv_sub hl [1, 0] rfl) h
  · replace h := h.1 hc
    refine gq_ldc (v := (-1000004 : Int32)) C gw_793 dX8_restore_7 ?_
    exact gq_iret C hM h dX8_restore_9
theorem k_X8_restore : gx_kV yX8_restore cX8_restore 2 (some .int) 0 := ⟨⟨gw_1006, gw_67, by decide, by decide, by decide +kernel⟩, gw_1004, gw_1005⟩
abbrev rm_X8_rosette : Room := { frames := 5, cells := 0, slots := 0, locals := 119 }
set_option maxHeartbeats 4000000 in
set_option maxRecDepth 100000 in
theorem c_X8_rosette (l : Launch) (L : gx_L) (a0 : Nat) (hk0 : kM a0 = 8) (p0 : Int32) (p1 : Int32) (I : gx_MM) (Q : Int32 → gx_MM → Prop) (h : wp_X8_rosette a0 p0 p1 I Q) : Met l yX8_rosette (gx_w yX8_rosette cX8_rosette 3 (some .int)) rm_X8_rosette (va_Pc [.ref (gx_ad L a0), .int p0, .int p1] (gx_U L 7 (cellM L I))) (va_Qi Q (fun I' t => gx_U L 7 (cellM L I') t) (gx_A L)) 0 0 (gx_A L) := by
  refine gq_enter (by decide) (Nat.le_of_ble_eq_true rfl) (fun p e s m below meth c ls C hM hl => ?_)
  have C : gx_C L 7 p s m _ meth c RX8 cX8_rosette 3 (some .int) := C
  have hl : lv_has ls 3 [(0, .ref (gx_ad L a0)), (1, .int p0), (2, .int p1)] := hl
  have hx := C.1
  have hb := C.2.1
  unfold wp_X8_rosette at h
  refine lv_aload_n hx hb dX8_rosette_0 rfl (lv_at hl 0 rfl) ?_
  refine lv_iload_n hx hb dX8_rosette_1 rfl (lv_at hl 1 rfl) ?_
  refine gq_backi C hM (gq_runV (As := [.int p0]) (rest := []) C hM (kM_lt hk0 (by decide)) (cM_8 hk0) rfl (c_X8_noRosette l L a0 hk0 p0 I _ h) k_X8_noRosette gw_810 rfl hl.1 rfl (Nat.le_of_ble_eq_true rfl) ⟨⟨rfl, rfl⟩, Nat.le_of_ble_eq_true rfl, Nat.le_of_ble_eq_true rfl⟩ ⟨Nat.zero_le _, Nat.zero_le _⟩ dX8_rosette_2) (fun r1 I1 H locs h hM => ?_)
  obtain ⟨hz1, h⟩ := h
  refine lv_if_eq (tgt := 11) hx hb dX8_rosette_5 (by decide) (fun hc => ?_) (fun hc => ?_)
  · replace h := h.1 hc
    refine lv_iload_n hx hb dX8_rosette_11 rfl (lv_at hl 2 rfl) ?_
    refine lv_iconst (v := (0 : Int32)) hx hb dX8_rosette_12 (by decide) ?_
    refine lv_bipush (v := (8 : Int32)) hx hb dX8_rosette_13 (by decide) ?_
    refine gq_backi C hM (gq_runS (As := [.int p1, .int (0 : Int32), .int (8 : Int32)]) (rest := []) C hM (c_X8_in l L p1 (0 : Int32) (8 : Int32) I1 _ h) k_X8_in gw_776 rfl hl.1 rfl (Nat.le_of_ble_eq_true rfl) ⟨⟨rfl, rfl⟩, Nat.le_of_ble_eq_true rfl, Nat.le_of_ble_eq_true rfl⟩ ⟨Nat.zero_le _, Nat.zero_le _⟩ dX8_rosette_15) (fun r2 I2 H locs h hM => ?_)
    obtain ⟨hz2, h⟩ := h
    refine lv_if_eq (tgt := 28) hx hb dX8_rosette_18 (by decide) (fun hc => ?_) (fun hc => ?_)
    · replace h := h.1 hc
      refine lv_iload_n hx hb dX8_rosette_28 rfl (lv_at hl 2 rfl) ?_
      refine lv_bipush (v := (9 : Int32)) hx hb dX8_rosette_29 (by decide) ?_
      refine lv_icmp_ne (tgt := 42) hx hb dX8_rosette_31 (by decide) (fun hc => ?_) (fun hc => ?_)
      · replace h := h.2 hc
        refine lv_iload_n hx hb dX8_rosette_42 rfl (lv_at hl 2 rfl) ?_
        refine lv_bipush (v := (10 : Int32)) hx hb dX8_rosette_43 (by decide) ?_
        refine lv_icmp_ne (tgt := 56) hx hb dX8_rosette_45 (by decide) (fun hc => ?_) (fun hc => ?_)
        · replace h := h.2 hc
          refine lv_iload_n hx hb dX8_rosette_56 rfl (lv_at hl 2 rfl) ?_
          refine lv_bipush (v := (11 : Int32)) hx hb dX8_rosette_57 (by decide) ?_
          refine lv_icmp_ne (tgt := 70) hx hb dX8_rosette_59 (by decide) (fun hc => ?_) (fun hc => ?_)
          · replace h := h.2 hc
            refine gq_ldc (v := (-1000002 : Int32)) C gw_779 dX8_rosette_70 ?_
            exact gq_iret C hM h dX8_rosette_72
          · replace h := h.1 hc
            refine lv_aload_n hx hb dX8_rosette_62 rfl (lv_at hl 0 rfl) ?_
            refine lv_iload_n hx hb dX8_rosette_63 rfl (lv_at hl 1 rfl) ?_
            refine gq_backi C hM (gq_runV (As := [.int p0]) (rest := []) C hM (kM_lt hk0 (by decide)) (cM_8 hk0) rfl (c_X8_waitingFor l L a0 hk0 p0 I2 _ h) k_X8_waitingFor gw_873 rfl hl.1 rfl (Nat.le_of_ble_eq_true rfl) ⟨⟨rfl, rfl⟩, Nat.le_of_ble_eq_true rfl, Nat.le_of_ble_eq_true rfl⟩ ⟨Nat.zero_le _, Nat.zero_le _⟩ dX8_rosette_64) (fun r3 I3 H locs h hM => ?_)
            refine lv_goto (tgt := 72) hx hb dX8_rosette_67 (by decide) ?_
            exact gq_iret C hM h dX8_rosette_72
        · replace h := h.1 hc
          refine lv_aload_n hx hb dX8_rosette_48 rfl (lv_at hl 0 rfl) ?_
          refine lv_iload_n hx hb dX8_rosette_49 rfl (lv_at hl 1 rfl) ?_
          refine gq_backi C hM (gq_runV (As := [.int p0]) (rest := []) C hM (kM_lt hk0 (by decide)) (cM_8 hk0) rfl (c_X8_overloaded l L a0 hk0 p0 I2 _ h) k_X8_overloaded gw_908 rfl hl.1 rfl (Nat.le_of_ble_eq_true rfl) ⟨⟨rfl, rfl⟩, Nat.le_of_ble_eq_true rfl, Nat.le_of_ble_eq_true rfl⟩ ⟨Nat.zero_le _, Nat.zero_le _⟩ dX8_rosette_50) (fun r4 I4 H locs h hM => ?_)
          refine lv_goto (tgt := 72) hx hb dX8_rosette_53 (by decide) ?_
          exact gq_iret C hM h dX8_rosette_72
      · replace h := h.1 hc
        refine lv_aload_n hx hb dX8_rosette_34 rfl (lv_at hl 0 rfl) ?_
        refine lv_iload_n hx hb dX8_rosette_35 rfl (lv_at hl 1 rfl) ?_
        refine gq_backi C hM (gq_runV (As := [.int p0]) (rest := []) C hM (kM_lt hk0 (by decide)) (cM_8 hk0) rfl (c_X8_shuntValue l L a0 hk0 p0 I2 _ h) k_X8_shuntValue gw_840 rfl hl.1 rfl (Nat.le_of_ble_eq_true rfl) ⟨⟨rfl, rfl⟩, Nat.le_of_ble_eq_true rfl, Nat.le_of_ble_eq_true rfl⟩ ⟨Nat.zero_le _, Nat.zero_le _⟩ dX8_rosette_36) (fun r5 I5 H locs h hM => ?_)
        refine lv_goto (tgt := 72) hx hb dX8_rosette_39 (by decide) ?_
        exact gq_iret C hM h dX8_rosette_72
    · replace h := h.2 hc
      refine lv_aload_n hx hb dX8_rosette_21 rfl (lv_at hl 0 rfl) ?_
      refine lv_iload_n hx hb dX8_rosette_22 rfl (lv_at hl 1 rfl) ?_
      refine lv_iload_n hx hb dX8_rosette_23 rfl (lv_at hl 2 rfl) ?_
      refine gq_backi C hM (gq_runV (As := [.int p0, .int p1]) (rest := []) C hM (kM_lt hk0 (by decide)) (cM_8 hk0) rfl (c_X8_of l L a0 hk0 p0 p1 I2 _ h) k_X8_of gw_789 rfl hl.1 rfl (Nat.le_of_ble_eq_true rfl) ⟨⟨rfl, rfl⟩, Nat.le_of_ble_eq_true rfl, Nat.le_of_ble_eq_true rfl⟩ ⟨Nat.zero_le _, Nat.zero_le _⟩ dX8_rosette_24) (fun r6 I6 H locs h hM => ?_)
      exact gq_iret C hM h dX8_rosette_27
  · replace h := h.2 hc
    refine gq_ldc (v := (-1000001 : Int32)) C gw_814 dX8_rosette_8 ?_
    exact gq_iret C hM h dX8_rosette_10
theorem k_X8_rosette : gx_kV yX8_rosette cX8_rosette 3 (some .int) 2 := ⟨⟨gw_1010, gw_67, by decide, by decide, by decide +kernel⟩, gw_1008, gw_1009⟩
abbrev rm_X8_setLeads : Room := { frames := 2, cells := 0, slots := 0, locals := 43 }
set_option maxHeartbeats 4000000 in
set_option maxRecDepth 100000 in
theorem c_X8_setLeads (l : Launch) (L : gx_L) (a0 : Nat) (hk0 : kM a0 = 8) (p0 : Int32) (p1 : Int32) (I : gx_MM) (Q : Int32 → gx_MM → Prop) (h : wp_X8_setLeads a0 p0 p1 I Q) : Met l yX8_setLeads (gx_w yX8_setLeads cX8_setLeads 4 (some .int)) rm_X8_setLeads (va_Pc [.ref (gx_ad L a0), .int p0, .int p1] (gx_U L 7 (cellM L I))) (va_Qi Q (fun I' t => gx_U L 7 (cellM L I') t) (gx_A L)) 0 0 (gx_A L) := by
  refine gq_enter (by decide) (Nat.le_of_ble_eq_true rfl) (fun p e s m below meth c ls C hM hl => ?_)
  have C : gx_C L 7 p s m _ meth c RX8 cX8_setLeads 4 (some .int) := C
  have hl : lv_has ls 4 [(0, .ref (gx_ad L a0)), (1, .int p0), (2, .int p1)] := hl
  have hx := C.1
  have hb := C.2.1
  unfold wp_X8_setLeads at h
  refine lv_aload_n hx hb dX8_setLeads_0 rfl (lv_at hl 0 rfl) ?_
  refine lv_iload_n hx hb dX8_setLeads_1 rfl (lv_at hl 1 rfl) ?_
  refine gq_backi C hM (gq_runV (As := [.int p0]) (rest := []) C hM (kM_lt hk0 (by decide)) (cM_8 hk0) rfl (c_X8_noRosette l L a0 hk0 p0 I _ h) k_X8_noRosette gw_810 rfl hl.1 rfl (Nat.le_of_ble_eq_true rfl) ⟨⟨rfl, rfl⟩, Nat.le_of_ble_eq_true rfl, Nat.le_of_ble_eq_true rfl⟩ ⟨Nat.zero_le _, Nat.zero_le _⟩ dX8_setLeads_2) (fun r1 I1 H locs h hM => ?_)
  obtain ⟨hz1, h⟩ := h
  refine lv_if_eq (tgt := 11) hx hb dX8_setLeads_5 (by decide) (fun hc => ?_) (fun hc => ?_)
  · replace h := h.1 hc
    refine lv_iload_n hx hb dX8_setLeads_11 rfl (lv_at hl 2 rfl) ?_
    refine lv_iconst (v := (0 : Int32)) hx hb dX8_setLeads_12 (by decide) ?_
    refine lv_sipush (v := (20000 : Int32)) hx hb dX8_setLeads_13 (by decide) ?_
    refine gq_backi C hM (gq_runS (As := [.int p1, .int (0 : Int32), .int (20000 : Int32)]) (rest := []) C hM (c_X8_in l L p1 (0 : Int32) (20000 : Int32) I1 _ h) k_X8_in gw_776 rfl hl.1 rfl (Nat.le_of_ble_eq_true rfl) ⟨⟨rfl, rfl⟩, Nat.le_of_ble_eq_true rfl, Nat.le_of_ble_eq_true rfl⟩ ⟨Nat.zero_le _, Nat.zero_le _⟩ dX8_setLeads_16) (fun r2 I2 H locs h hM => ?_)
    obtain ⟨hz2, h⟩ := h
    refine lv_if_ne (tgt := 25) hx hb dX8_setLeads_19 (by decide) (fun hc => ?_) (fun hc => ?_)
    · replace h := h.2 hc
      refine lv_aload_n hx hb dX8_setLeads_25 rfl (lv_at hl 0 rfl) ?_
      refine lv_iload_n hx hb dX8_setLeads_26 rfl (lv_at hl 1 rfl) ?_
      refine lv_iconst (v := (4 : Int32)) hx hb dX8_setLeads_27 (by decide) ?_
      refine gq_backi C hM (gq_runV (As := [.int p0, .int (4 : Int32)]) (rest := []) C hM (kM_lt hk0 (by decide)) (cM_8 hk0) rfl (c_X8_of l L a0 hk0 p0 (4 : Int32) I2 _ h) k_X8_of gw_789 rfl hl.1 rfl (Nat.le_of_ble_eq_true rfl) ⟨⟨rfl, rfl⟩, Nat.le_of_ble_eq_true rfl, Nat.le_of_ble_eq_true rfl⟩ ⟨Nat.zero_le _, Nat.zero_le _⟩ dX8_setLeads_28) (fun r3 I3 H locs h hM => ?_)
      refine lv_istore_n (lv' := [(3, .int r3), (0, .ref (gx_ad L a0)), (1, .int p0), (2, .int p1)]) hx hb dX8_setLeads_31 rfl hl (by decide) rfl (fun ls hl => ?_)
      refine lv_iload_n hx hb dX8_setLeads_32 rfl (lv_at hl 0 rfl) ?_
      refine lv_iload_n hx hb dX8_setLeads_33 rfl (lv_at hl 3 rfl) ?_
      refine lv_icmp_ne (tgt := 40) hx hb dX8_setLeads_34 (by decide) (fun hc => ?_) (fun hc => ?_)
      · replace h := h.2 hc
        refine lv_aload_n hx hb dX8_setLeads_40 rfl (lv_at hl 1 rfl) ?_
        refine gq_backv C hM (gq_runV (As := []) (rest := []) C hM (kM_lt hk0 (by decide)) (cM_8 hk0) rfl (c_X8_save l L a0 hk0 I3 _ h) k_X8_save gw_794 rfl hl.1 rfl (Nat.le_of_ble_eq_true rfl) ⟨⟨rfl, rfl⟩, Nat.le_of_ble_eq_true rfl, Nat.le_of_ble_eq_true rfl⟩ ⟨Nat.zero_le _, Nat.zero_le _⟩ dX8_setLeads_41) (fun I4 H locs h hM => ?_)
        refine lv_aload_n hx hb dX8_setLeads_44 rfl (lv_at hl 1 rfl) ?_
        refine lv_iload_n hx hb dX8_setLeads_45 rfl (lv_at hl 2 rfl) ?_
        refine lv_iconst (v := (4 : Int32)) hx hb dX8_setLeads_46 (by decide) ?_
        refine lv_iload_n hx hb dX8_setLeads_47 rfl (lv_at hl 3 rfl) ?_
        refine gq_backv C hM (gq_runV (As := [.int p0, .int (4 : Int32), .int p1]) (rest := []) C hM (kM_lt hk0 (by decide)) (cM_8 hk0) rfl (c_X8_put l L a0 hk0 p0 (4 : Int32) p1 I4 _ h) k_X8_put gw_798 rfl hl.1 rfl (Nat.le_of_ble_eq_true rfl) ⟨⟨rfl, rfl⟩, Nat.le_of_ble_eq_true rfl, Nat.le_of_ble_eq_true rfl⟩ ⟨Nat.zero_le _, Nat.zero_le _⟩ dX8_setLeads_48) (fun I5 H locs h hM => ?_)
        refine lv_iload_n hx hb dX8_setLeads_51 rfl (lv_at hl 0 rfl) ?_
        exact gq_iret C hM h dX8_setLeads_52
      · replace h := h.1 hc
        refine gq_ldc (v := (-1000004 : Int32)) C gw_793 dX8_setLeads_37 ?_
        exact gq_iret C hM h dX8_setLeads_39
    · replace h := h.1 hc
      refine gq_ldc (v := (-1000002 : Int32)) C gw_779 dX8_setLeads_22 ?_
      exact gq_iret C hM h dX8_setLeads_24
  · replace h := h.2 hc
    refine gq_ldc (v := (-1000001 : Int32)) C gw_814 dX8_setLeads_8 ?_
    exact gq_iret C hM h dX8_setLeads_10
theorem k_X8_setLeads : gx_kV yX8_setLeads cX8_setLeads 4 (some .int) 2 := ⟨⟨gw_848, gw_67, by decide, by decide, by decide +kernel⟩, gw_846, gw_847⟩
abbrev rm_X8_setOffset : Room := { frames := 2, cells := 0, slots := 0, locals := 47 }
set_option maxHeartbeats 4000000 in
set_option maxRecDepth 100000 in
theorem c_X8_setOffset (l : Launch) (L : gx_L) (a0 : Nat) (hk0 : kM a0 = 8) (p0 : Int32) (p1 : Int32) (p2 : Int32) (I : gx_MM) (Q : Int32 → gx_MM → Prop) (h : wp_X8_setOffset a0 p0 p1 p2 I Q) : Met l yX8_setOffset (gx_w yX8_setOffset cX8_setOffset 5 (some .int)) rm_X8_setOffset (va_Pc [.ref (gx_ad L a0), .int p0, .int p1, .int p2] (gx_U L 7 (cellM L I))) (va_Qi Q (fun I' t => gx_U L 7 (cellM L I') t) (gx_A L)) 0 0 (gx_A L) := by
  refine gq_enter (by decide) (Nat.le_of_ble_eq_true rfl) (fun p e s m below meth c ls C hM hl => ?_)
  have C : gx_C L 7 p s m _ meth c RX8 cX8_setOffset 5 (some .int) := C
  have hl : lv_has ls 5 [(0, .ref (gx_ad L a0)), (1, .int p0), (2, .int p1), (3, .int p2)] := hl
  have hx := C.1
  have hb := C.2.1
  unfold wp_X8_setOffset at h
  refine lv_aload_n hx hb dX8_setOffset_0 rfl (lv_at hl 0 rfl) ?_
  refine lv_iload_n hx hb dX8_setOffset_1 rfl (lv_at hl 1 rfl) ?_
  refine gq_backi C hM (gq_runV (As := [.int p0]) (rest := []) C hM (kM_lt hk0 (by decide)) (cM_8 hk0) rfl (c_X8_noRosette l L a0 hk0 p0 I _ h) k_X8_noRosette gw_810 rfl hl.1 rfl (Nat.le_of_ble_eq_true rfl) ⟨⟨rfl, rfl⟩, Nat.le_of_ble_eq_true rfl, Nat.le_of_ble_eq_true rfl⟩ ⟨Nat.zero_le _, Nat.zero_le _⟩ dX8_setOffset_2) (fun r1 I1 H locs h hM => ?_)
  obtain ⟨hz1, h⟩ := h
  refine lv_if_ne (tgt := 17) hx hb dX8_setOffset_5 (by decide) (fun hc => ?_) (fun hc => ?_)
  · replace h := h.2 hc
    refine gq_ldc (v := (-1000001 : Int32)) C gw_814 dX8_setOffset_17 ?_
    exact gq_iret C hM h dX8_setOffset_19
  · replace h := h.1 hc
    refine lv_iload_n hx hb dX8_setOffset_8 rfl (lv_at hl 2 rfl) ?_
    refine lv_iconst (v := (0 : Int32)) hx hb dX8_setOffset_9 (by decide) ?_
    refine lv_iconst (v := (2 : Int32)) hx hb dX8_setOffset_10 (by decide) ?_
    refine gq_backi C hM (gq_runS (As := [.int p1, .int (0 : Int32), .int (2 : Int32)]) (rest := []) C hM (c_X8_in l L p1 (0 : Int32) (2 : Int32) I1 _ h) k_X8_in gw_776 rfl hl.1 rfl (Nat.le_of_ble_eq_true rfl) ⟨⟨rfl, rfl⟩, Nat.le_of_ble_eq_true rfl, Nat.le_of_ble_eq_true rfl⟩ ⟨Nat.zero_le _, Nat.zero_le _⟩ dX8_setOffset_11) (fun r2 I2 H locs h hM => ?_)
    obtain ⟨hz2, h⟩ := h
    refine lv_if_ne (tgt := 20) hx hb dX8_setOffset_14 (by decide) (fun hc => ?_) (fun hc => ?_)
    · replace h := h.2 hc
      refine lv_iload_n hx hb dX8_setOffset_20 rfl (lv_at hl 3 rfl) ?_
      refine lv_sipush (v := (-9999 : Int32)) hx hb dX8_setOffset_21 (by decide) ?_
      refine lv_sipush (v := (9999 : Int32)) hx hb dX8_setOffset_24 (by decide) ?_
      refine gq_backi C hM (gq_runS (As := [.int p2, .int (-9999 : Int32), .int (9999 : Int32)]) (rest := []) C hM (c_X8_in l L p2 (-9999 : Int32) (9999 : Int32) I2 _ h) k_X8_in gw_776 rfl hl.1 rfl (Nat.le_of_ble_eq_true rfl) ⟨⟨rfl, rfl⟩, Nat.le_of_ble_eq_true rfl, Nat.le_of_ble_eq_true rfl⟩ ⟨Nat.zero_le _, Nat.zero_le _⟩ dX8_setOffset_27) (fun r3 I3 H locs h hM => ?_)
      obtain ⟨hz3, h⟩ := h
      refine lv_if_ne (tgt := 36) hx hb dX8_setOffset_30 (by decide) (fun hc => ?_) (fun hc => ?_)
      · replace h := h.2 hc
        refine lv_aload_n hx hb dX8_setOffset_36 rfl (lv_at hl 0 rfl) ?_
        refine lv_iload_n hx hb dX8_setOffset_37 rfl (lv_at hl 1 rfl) ?_
        refine lv_iload_n hx hb dX8_setOffset_38 rfl (lv_at hl 2 rfl) ?_
        refine lv_iconst (v := (0 : Int32)) hx hb dX8_setOffset_39 (by decide) ?_
        refine gq_backi C hM (gq_runV (As := [.int p0, .int p1, .int (0 : Int32)]) (rest := []) C hM (kM_lt hk0 (by decide)) (cM_8 hk0) rfl (c_X8_ofGauge l L a0 hk0 p0 p1 (0 : Int32) I3 _ h) k_X8_ofGauge gw_827 rfl hl.1 rfl (Nat.le_of_ble_eq_true rfl) ⟨⟨rfl, rfl⟩, Nat.le_of_ble_eq_true rfl, Nat.le_of_ble_eq_true rfl⟩ ⟨Nat.zero_le _, Nat.zero_le _⟩ dX8_setOffset_40) (fun r4 I4 H locs h hM => ?_)
        refine lv_istore (lv' := [(4, .int r4), (0, .ref (gx_ad L a0)), (1, .int p0), (2, .int p1), (3, .int p2)]) hx hb dX8_setOffset_43 hl (by decide) rfl (fun ls hl => ?_)
        refine lv_iload hx hb dX8_setOffset_45 (lv_at hl 0 rfl) ?_
        refine lv_iload_n hx hb dX8_setOffset_47 rfl (lv_at hl 4 rfl) ?_
        refine lv_icmp_ne (tgt := 54) hx hb dX8_setOffset_48 (by decide) (fun hc => ?_) (fun hc => ?_)
        · replace h := h.2 hc
          refine lv_aload_n hx hb dX8_setOffset_54 rfl (lv_at hl 1 rfl) ?_
          refine gq_backv C hM (gq_runV (As := []) (rest := []) C hM (kM_lt hk0 (by decide)) (cM_8 hk0) rfl (c_X8_save l L a0 hk0 I4 _ h) k_X8_save gw_794 rfl hl.1 rfl (Nat.le_of_ble_eq_true rfl) ⟨⟨rfl, rfl⟩, Nat.le_of_ble_eq_true rfl, Nat.le_of_ble_eq_true rfl⟩ ⟨Nat.zero_le _, Nat.zero_le _⟩ dX8_setOffset_55) (fun I5 H locs h hM => ?_)
          refine lv_aload_n hx hb dX8_setOffset_58 rfl (lv_at hl 1 rfl) ?_
          refine lv_iload_n hx hb dX8_setOffset_59 rfl (lv_at hl 2 rfl) ?_
          refine lv_iload_n hx hb dX8_setOffset_60 rfl (lv_at hl 3 rfl) ?_
          refine lv_iconst (v := (0 : Int32)) hx hb dX8_setOffset_61 (by decide) ?_
          refine lv_iload_n hx hb dX8_setOffset_62 rfl (lv_at hl 4 rfl) ?_
          refine gq_backv C hM (gq_runV (As := [.int p0, .int p1, .int (0 : Int32), .int p2]) (rest := []) C hM (kM_lt hk0 (by decide)) (cM_8 hk0) rfl (c_X8_putGauge l L a0 hk0 p0 p1 (0 : Int32) p2 I5 _ h) k_X8_putGauge gw_802 rfl hl.1 rfl (Nat.le_of_ble_eq_true rfl) ⟨⟨rfl, rfl⟩, Nat.le_of_ble_eq_true rfl, Nat.le_of_ble_eq_true rfl⟩ ⟨Nat.zero_le _, Nat.zero_le _⟩ dX8_setOffset_63) (fun I6 H locs h hM => ?_)
          refine lv_iload hx hb dX8_setOffset_66 (lv_at hl 0 rfl) ?_
          exact gq_iret C hM h dX8_setOffset_68
        · replace h := h.1 hc
          refine gq_ldc (v := (-1000004 : Int32)) C gw_793 dX8_setOffset_51 ?_
          exact gq_iret C hM h dX8_setOffset_53
      · replace h := h.1 hc
        refine gq_ldc (v := (-1000002 : Int32)) C gw_779 dX8_setOffset_33 ?_
        exact gq_iret C hM h dX8_setOffset_35
    · replace h := h.1 hc
      refine gq_ldc (v := (-1000001 : Int32)) C gw_814 dX8_setOffset_17 ?_
      exact gq_iret C hM h dX8_setOffset_19
theorem k_X8_setOffset : gx_kV yX8_setOffset cX8_setOffset 5 (some .int) 3 := ⟨⟨gw_852, gw_67, by decide, by decide, by decide +kernel⟩, gw_850, gw_851⟩
abbrev rm_X8_setShunt : Room := { frames := 5, cells := 0, slots := 0, locals := 119 }
set_option maxHeartbeats 4000000 in
set_option maxRecDepth 100000 in
theorem tj_X8_setShunt_50 (C : gx_C L 7 p s m args meth c RX8 cX8_setShunt 3 (some .int)) {Q : Int32 → gx_MM → Prop} : ∀ (v0 : Nat) (v1 : Int32) (u0 : Int32) (u1 : Int32) (u2 : Int32) (u3 : Nat) (hv0 : kM v0 = 8) (hu3 : kM u3 = 8) (I : gx_MM) (H : Heap) (locs : List Loc) (ls : Array Slot), gx_S L 7 (cellM L I) s.heap H locs → lv_has ls 3 [(0, .ref (gx_ad L v0)), (1, .int v1)] → wj_X8_setShunt_50 Q v0 v1 u0 u1 u2 u3 I → W p l e rm_X8_setShunt s m args below meth c H locs 0 0 (MQ below (va_Qi Q (fun I' t => gx_U L 7 (cellM L I') t) (gx_A L)) args s 0 0 (gx_A L)) (F0 m 50 ls [.int u0, .int u1, .int u2, .ref (gx_ad L u3)]) := by
  have hx := C.1
  have hb := C.2.1
  intro v0 v1 u0 u1 u2 u3 hv0 hu3 I H locs ls hM hl h
  unfold wj_X8_setShunt_50 at h
  refine gq_backv C hM (gq_runV (As := [.int u2, .int u1, .int u0]) (rest := []) C hM (kM_lt hu3 (by decide)) (cM_8 hu3) rfl (c_X8_put l L u3 hu3 u2 u1 u0 I _ h) k_X8_put gw_798 rfl hl.1 rfl (Nat.le_of_ble_eq_true rfl) ⟨⟨rfl, rfl⟩, Nat.le_of_ble_eq_true rfl, Nat.le_of_ble_eq_true rfl⟩ ⟨Nat.zero_le _, Nat.zero_le _⟩ dX8_setShunt_50) (fun I1 H locs h hM => ?_)
  refine lv_aload_n hx hb dX8_setShunt_53 rfl (lv_at hl 0 rfl) ?_
  refine lv_iload_n hx hb dX8_setShunt_54 rfl (lv_at hl 1 rfl) ?_
  refine lv_iconst (v := (0 : Int32)) hx hb dX8_setShunt_55 (by decide) ?_
  refine gq_backi C hM (gq_runV (As := [.int v1, .int (0 : Int32)]) (rest := []) C hM (kM_lt hv0 (by decide)) (cM_8 hv0) rfl (c_X8_readingOf l L v0 hv0 v1 (0 : Int32) I1 _ h) k_X8_readingOf gw_815 rfl hl.1 rfl (Nat.le_of_ble_eq_true rfl) ⟨⟨rfl, rfl⟩, Nat.le_of_ble_eq_true rfl, Nat.le_of_ble_eq_true rfl⟩ ⟨Nat.zero_le _, Nat.zero_le _⟩ dX8_setShunt_56) (fun r1 I2 H locs h hM => ?_)
  exact gq_iret C hM h dX8_setShunt_59
set_option maxHeartbeats 4000000 in
set_option maxRecDepth 100000 in
theorem tj_X8_setShunt_27 (C : gx_C L 7 p s m args meth c RX8 cX8_setShunt 3 (some .int)) {Q : Int32 → gx_MM → Prop} : ∀ (v0 : Nat) (v1 : Int32) (v2 : Int32) (u0 : Int32) (u1 : Int32) (hv0 : kM v0 = 8) (I : gx_MM) (H : Heap) (locs : List Loc) (ls : Array Slot), gx_S L 7 (cellM L I) s.heap H locs → lv_has ls 3 [(0, .ref (gx_ad L v0)), (1, .int v1), (2, .int v2)] → wj_X8_setShunt_27 Q v0 v1 v2 u0 u1 I → W p l e rm_X8_setShunt s m args below meth c H locs 0 0 (MQ below (va_Qi Q (fun I' t => gx_U L 7 (cellM L I') t) (gx_A L)) args s 0 0 (gx_A L)) (F0 m 27 ls [.int u0, .int u1]) := by
  have hx := C.1
  have hb := C.2.1
  intro v0 v1 v2 u0 u1 hv0 I H locs ls hM hl h
  unfold wj_X8_setShunt_27 at h
  refine lv_icmp_ne (tgt := 33) hx hb dX8_setShunt_27 (by decide) (fun hc => ?_) (fun hc => ?_)
  · replace h := h.2 hc
    refine lv_aload_n hx hb dX8_setShunt_33 rfl (lv_at hl 0 rfl) ?_
    refine gq_backv C hM (gq_runV (As := []) (rest := []) C hM (kM_lt hv0 (by decide)) (cM_8 hv0) rfl (c_X8_save l L v0 hv0 I _ h) k_X8_save gw_794 rfl hl.1 rfl (Nat.le_of_ble_eq_true rfl) ⟨⟨rfl, rfl⟩, Nat.le_of_ble_eq_true rfl, Nat.le_of_ble_eq_true rfl⟩ ⟨Nat.zero_le _, Nat.zero_le _⟩ dX8_setShunt_34) (fun I1 H locs h hM => ?_)
    refine lv_aload_n hx hb dX8_setShunt_37 rfl (lv_at hl 0 rfl) ?_
    refine lv_iload_n hx hb dX8_setShunt_38 rfl (lv_at hl 1 rfl) ?_
    refine lv_bipush (v := (8 : Int32)) hx hb dX8_setShunt_39 (by decide) ?_
    refine lv_iload_n hx hb dX8_setShunt_41 rfl (lv_at hl 2 rfl) ?_
    refine lv_if_eq (tgt := 49) hx hb dX8_setShunt_42 (by decide) (fun hc => ?_) (fun hc => ?_)
    · replace h := h.1 hc
      refine lv_iconst (v := (0 : Int32)) hx hb dX8_setShunt_49 (by decide) ?_
      exact tj_X8_setShunt_50 C v0 v1 (0 : Int32) (8 : Int32) v1 v0 (hv0) (hv0) I1 _ _ _ hM (lv_sub hl [0, 1] rfl) h
    · replace h := h.2 hc
      refine lv_iconst (v := (1 : Int32)) hx hb dX8_setShunt_45 (by decide) ?_
      refine lv_goto (tgt := 50) hx hb dX8_setShunt_46 (by decide) ?_
      exact tj_X8_setShunt_50 C v0 v1 (1 : Int32) (8 : Int32) v1 v0 (hv0) (hv0) I1 _ _ _ hM (lv_sub hl [0, 1] rfl) h
  · replace h := h.1 hc
    refine gq_ldc (v := (-1000004 : Int32)) C gw_793 dX8_setShunt_30 ?_
    exact gq_iret C hM h dX8_setShunt_32
set_option maxHeartbeats 4000000 in
set_option maxRecDepth 100000 in
theorem c_X8_setShunt (l : Launch) (L : gx_L) (a0 : Nat) (hk0 : kM a0 = 8) (p0 : Int32) (p1 : Int32) (I : gx_MM) (Q : Int32 → gx_MM → Prop) (h : wp_X8_setShunt a0 p0 p1 I Q) : Met l yX8_setShunt (gx_w yX8_setShunt cX8_setShunt 3 (some .int)) rm_X8_setShunt (va_Pc [.ref (gx_ad L a0), .int p0, .int p1] (gx_U L 7 (cellM L I))) (va_Qi Q (fun I' t => gx_U L 7 (cellM L I') t) (gx_A L)) 0 0 (gx_A L) := by
  refine gq_enter (by decide) (Nat.le_of_ble_eq_true rfl) (fun p e s m below meth c ls C hM hl => ?_)
  have C : gx_C L 7 p s m _ meth c RX8 cX8_setShunt 3 (some .int) := C
  have hl : lv_has ls 3 [(0, .ref (gx_ad L a0)), (1, .int p0), (2, .int p1)] := hl
  have hx := C.1
  have hb := C.2.1
  unfold wp_X8_setShunt at h
  refine lv_aload_n hx hb dX8_setShunt_0 rfl (lv_at hl 0 rfl) ?_
  refine lv_iload_n hx hb dX8_setShunt_1 rfl (lv_at hl 1 rfl) ?_
  refine gq_backi C hM (gq_runV (As := [.int p0]) (rest := []) C hM (kM_lt hk0 (by decide)) (cM_8 hk0) rfl (c_X8_noRosette l L a0 hk0 p0 I _ h) k_X8_noRosette gw_810 rfl hl.1 rfl (Nat.le_of_ble_eq_true rfl) ⟨⟨rfl, rfl⟩, Nat.le_of_ble_eq_true rfl, Nat.le_of_ble_eq_true rfl⟩ ⟨Nat.zero_le _, Nat.zero_le _⟩ dX8_setShunt_2) (fun r1 I1 H locs h hM => ?_)
  obtain ⟨hz1, h⟩ := h
  refine lv_if_eq (tgt := 11) hx hb dX8_setShunt_5 (by decide) (fun hc => ?_) (fun hc => ?_)
  · replace h := h.1 hc
    refine lv_aload_n hx hb dX8_setShunt_11 rfl (lv_at hl 0 rfl) ?_
    refine lv_iload_n hx hb dX8_setShunt_12 rfl (lv_at hl 1 rfl) ?_
    refine lv_bipush (v := (8 : Int32)) hx hb dX8_setShunt_13 (by decide) ?_
    refine gq_backi C hM (gq_runV (As := [.int p0, .int (8 : Int32)]) (rest := []) C hM (kM_lt hk0 (by decide)) (cM_8 hk0) rfl (c_X8_of l L a0 hk0 p0 (8 : Int32) I1 _ h) k_X8_of gw_789 rfl hl.1 rfl (Nat.le_of_ble_eq_true rfl) ⟨⟨rfl, rfl⟩, Nat.le_of_ble_eq_true rfl, Nat.le_of_ble_eq_true rfl⟩ ⟨Nat.zero_le _, Nat.zero_le _⟩ dX8_setShunt_15) (fun r2 I2 H locs h hM => ?_)
    refine lv_iload_n hx hb dX8_setShunt_18 rfl (lv_at hl 2 rfl) ?_
    refine lv_if_eq (tgt := 26) hx hb dX8_setShunt_19 (by decide) (fun hc => ?_) (fun hc => ?_)
    · replace h := h.1 hc
      refine lv_iconst (v := (0 : Int32)) hx hb dX8_setShunt_26 (by decide) ?_
      exact tj_X8_setShunt_27 C a0 p0 p1 (0 : Int32) r2 (hk0) I2 _ _ _ hM (lv_sub hl [0, 1, 2] rfl) h
    · replace h := h.2 hc
      refine lv_iconst (v := (1 : Int32)) hx hb dX8_setShunt_22 (by decide) ?_
      refine lv_goto (tgt := 27) hx hb dX8_setShunt_23 (by decide) ?_
      exact tj_X8_setShunt_27 C a0 p0 p1 (1 : Int32) r2 (hk0) I2 _ _ _ hM (lv_sub hl [0, 1, 2] rfl) h
  · replace h := h.2 hc
    refine gq_ldc (v := (-1000001 : Int32)) C gw_814 dX8_setShunt_8 ?_
    exact gq_iret C hM h dX8_setShunt_10
theorem k_X8_setShunt : gx_kV yX8_setShunt cX8_setShunt 3 (some .int) 2 := ⟨⟨gw_856, gw_67, by decide, by decide, by decide +kernel⟩, gw_854, gw_855⟩
abbrev rm_X8_setSize : Room := { frames := 1, cells := 0, slots := 0, locals := 22 }
set_option maxHeartbeats 4000000 in
set_option maxRecDepth 100000 in
theorem c_X8_setSize (l : Launch) (L : gx_L) (a0 : Nat) (hk0 : kM a0 = 8) (p0 : Int32) (I : gx_MM) (Q : Int32 → gx_MM → Prop) (h : wp_X8_setSize a0 p0 I Q) : Met l yX8_setSize (gx_w yX8_setSize cX8_setSize 3 (some .int)) rm_X8_setSize (va_Pc [.ref (gx_ad L a0), .int p0] (gx_U L 7 (cellM L I))) (va_Qi Q (fun I' t => gx_U L 7 (cellM L I') t) (gx_A L)) 0 0 (gx_A L) := by
  refine gq_enter (by decide) (Nat.le_of_ble_eq_true rfl) (fun p e s m below meth c ls C hM hl => ?_)
  have C : gx_C L 7 p s m _ meth c RX8 cX8_setSize 3 (some .int) := C
  have hl : lv_has ls 3 [(0, .ref (gx_ad L a0)), (1, .int p0)] := hl
  have hx := C.1
  have hb := C.2.1
  unfold wp_X8_setSize at h
  refine lv_iload_n hx hb dX8_setSize_0 rfl (lv_at hl 1 rfl) ?_
  refine lv_bipush (v := (20 : Int32)) hx hb dX8_setSize_1 (by decide) ?_
  refine lv_sipush (v := (500 : Int32)) hx hb dX8_setSize_3 (by decide) ?_
  refine gq_backi C hM (gq_runS (As := [.int p0, .int (20 : Int32), .int (500 : Int32)]) (rest := []) C hM (c_X8_in l L p0 (20 : Int32) (500 : Int32) I _ h) k_X8_in gw_776 rfl hl.1 rfl (Nat.le_of_ble_eq_true rfl) ⟨⟨rfl, rfl⟩, Nat.le_of_ble_eq_true rfl, Nat.le_of_ble_eq_true rfl⟩ ⟨Nat.zero_le _, Nat.zero_le _⟩ dX8_setSize_6) (fun r1 I1 H locs h hM => ?_)
  obtain ⟨hz1, h⟩ := h
  refine lv_if_ne (tgt := 15) hx hb dX8_setSize_9 (by decide) (fun hc => ?_) (fun hc => ?_)
  · replace h := h.2 hc
    refine lv_aload_n hx hb dX8_setSize_15 rfl (lv_at hl 0 rfl) ?_
    refine gX8_0 C hM hk0 gw_719 dX8_setSize_16 ?_
    refine lv_iconst (v := (3 : Int32)) hx hb dX8_setSize_19 (by decide) ?_
    refine gialdM C hM (kM_8_0 hk0) h.1 dX8_setSize_20 ?_
    replace h := h.2
    refine lv_topi (fun x1 ex1 => ?_)
    replace h := h x1 ex1
    refine lv_istore_n (lv' := [(2, .int x1), (0, .ref (gx_ad L a0)), (1, .int p0)]) hx hb dX8_setSize_21 rfl hl (by decide) rfl (fun ls hl => ?_)
    refine lv_iload_n hx hb dX8_setSize_22 rfl (lv_at hl 0 rfl) ?_
    refine lv_iload_n hx hb dX8_setSize_23 rfl (lv_at hl 2 rfl) ?_
    refine lv_icmp_ne (tgt := 30) hx hb dX8_setSize_24 (by decide) (fun hc => ?_) (fun hc => ?_)
    · replace h := h.2 hc
      refine lv_aload_n hx hb dX8_setSize_30 rfl (lv_at hl 1 rfl) ?_
      refine gq_backv C hM (gq_runV (As := []) (rest := []) C hM (kM_lt hk0 (by decide)) (cM_8 hk0) rfl (c_X8_save l L a0 hk0 I1 _ h) k_X8_save gw_794 rfl hl.1 rfl (Nat.le_of_ble_eq_true rfl) ⟨⟨rfl, rfl⟩, Nat.le_of_ble_eq_true rfl, Nat.le_of_ble_eq_true rfl⟩ ⟨Nat.zero_le _, Nat.zero_le _⟩ dX8_setSize_31) (fun I2 H locs h hM => ?_)
      refine lv_aload_n hx hb dX8_setSize_34 rfl (lv_at hl 1 rfl) ?_
      refine gX8_0 C hM hk0 gw_719 dX8_setSize_35 ?_
      refine lv_iconst (v := (3 : Int32)) hx hb dX8_setSize_38 (by decide) ?_
      refine lv_iload_n hx hb dX8_setSize_39 rfl (lv_at hl 2 rfl) ?_
      have hi := h.1
      replace h := h.2
      obtain ⟨I3, eI3⟩ : ∃ z : gx_MM, z = um I2 (a0 + 1) (3 : Int32).toNatClampNeg p0 := ⟨_, rfl⟩
      replace h := h I3 eI3
      refine giastM C hM (kM_8_0 hk0) hi eI3 dX8_setSize_40 (fun H locs hM => ?_)
      refine lv_iload_n hx hb dX8_setSize_41 rfl (lv_at hl 0 rfl) ?_
      exact gq_iret C hM h dX8_setSize_42
    · replace h := h.1 hc
      refine gq_ldc (v := (-1000004 : Int32)) C gw_793 dX8_setSize_27 ?_
      exact gq_iret C hM h dX8_setSize_29
  · replace h := h.1 hc
    refine gq_ldc (v := (-1000002 : Int32)) C gw_779 dX8_setSize_12 ?_
    exact gq_iret C hM h dX8_setSize_14
theorem k_X8_setSize : gx_kV yX8_setSize cX8_setSize 3 (some .int) 1 := ⟨⟨gw_860, gw_67, by decide, by decide, by decide +kernel⟩, gw_858, gw_859⟩
abbrev rm_X8_setStrain : Room := { frames := 5, cells := 0, slots := 0, locals := 119 }
set_option maxHeartbeats 4000000 in
set_option maxRecDepth 100000 in
theorem tj_X8_setStrain_183 (C : gx_C L 7 p s m args meth c RX8 cX8_setStrain 7 (some .int)) {Q : Int32 → gx_MM → Prop} {K153 : Nat → Int32 → Int32 → Int32 → gx_MM → Prop} (hK153 : ∀ (v0 : Nat) (v1 : Int32) (v5 : Int32) (v6 : Int32) (hv0 : kM v0 = 8) (I : gx_MM) (H : Heap) (locs : List Loc) (ls : Array Slot), gx_S L 7 (cellM L I) s.heap H locs → lv_has ls 7 [(0, .ref (gx_ad L v0)), (1, .int v1), (5, .int v5), (6, .int v6)] → K153 v0 v1 v5 v6 I → W p l e rm_X8_setStrain s m args below meth c H locs 0 0 (MQ below (va_Qi Q (fun I' t => gx_U L 7 (cellM L I') t) (gx_A L)) args s 0 0 (gx_A L)) (F0 m 153 ls [])) : ∀ (v0 : Nat) (v1 : Int32) (v6 : Int32) (u0 : Int32) (u1 : Int32) (hv0 : kM v0 = 8) (I : gx_MM) (H : Heap) (locs : List Loc) (ls : Array Slot), gx_S L 7 (cellM L I) s.heap H locs → lv_has ls 7 [(0, .ref (gx_ad L v0)), (1, .int v1), (6, .int v6)] → wj_X8_setStrain_183 Q K153 v0 v1 v6 u0 u1 I → W p l e rm_X8_setStrain s m args below meth c H locs 0 0 (MQ below (va_Qi Q (fun I' t => gx_U L 7 (cellM L I') t) (gx_A L)) args s 0 0 (gx_A L)) (F0 m 183 ls [.int u0, .int u1]) := by
  have hx := C.1
  have hb := C.2.1
  intro v0 v1 v6 u0 u1 hv0 I H locs ls hM hl h
  unfold wj_X8_setStrain_183 at h
  refine lv_iadd hx hb dX8_setStrain_183 ?_
  refine lv_topi (fun x1 ex1 => ?_)
  replace h := h x1 ex1
  refine lv_istore (lv' := [(5, .int x1), (0, .ref (gx_ad L v0)), (1, .int v1), (6, .int v6)]) hx hb dX8_setStrain_184 hl (by decide) rfl (fun ls hl => ?_)
  obtain ⟨x2, ex2⟩ : ∃ z : Int32, z = v6 + (1 : Int32) := ⟨_, rfl⟩
  replace h := h x2 ex2
  refine lv_iinc (v := x2) (lv' := [(6, .int x2), (5, .int x1), (0, .ref (gx_ad L v0)), (1, .int v1)]) hx hb dX8_setStrain_186 hl (k := 3) rfl (by rw [ex2]; rfl) (by decide) rfl (fun ls hl => ?_)
  refine lv_goto (tgt := 153) hx hb dX8_setStrain_189 (by decide) ?_
  exact hK153 v0 v1 x1 x2 (hv0) I _ _ _ hM (lv_sub hl [2, 3, 1, 0] rfl) h
set_option maxHeartbeats 4000000 in
set_option maxRecDepth 100000 in
theorem tl_X8_setStrain_153 (C : gx_C L 7 p s m args meth c RX8 cX8_setStrain 7 (some .int)) {Q : Int32 → gx_MM → Prop} : ∀ (fu : Nat) (v0 : Nat) (v1 : Int32) (v5 : Int32) (v6 : Int32) (hv0 : kM v0 = 8) (I : gx_MM) (H : Heap) (locs : List Loc) (ls : Array Slot), gx_S L 7 (cellM L I) s.heap H locs → lv_has ls 7 [(0, .ref (gx_ad L v0)), (1, .int v1), (5, .int v5), (6, .int v6)] → wl_X8_setStrain_153 Q fu v0 v1 v5 v6 I → W p l e rm_X8_setStrain s m args below meth c H locs 0 0 (MQ below (va_Qi Q (fun I' t => gx_U L 7 (cellM L I') t) (gx_A L)) args s 0 0 (gx_A L)) (F0 m 153 ls []) := by
  have hx := C.1
  have hb := C.2.1
  intro fu
  induction fu with
  | zero => intros; rename_i h; exact False.elim h
  | succ fu ih =>
    intro v0 v1 v5 v6 hv0 I H locs ls hM hl h
    rw [wl_X8_setStrain_153] at h
    refine lv_iload hx hb dX8_setStrain_153 (lv_at hl 3 rfl) ?_
    refine lv_iconst (v := (3 : Int32)) hx hb dX8_setStrain_155 (by decide) ?_
    refine lv_icmp_ge (tgt := 192) hx hb dX8_setStrain_156 (by decide) (fun hc => ?_) (fun hc => ?_)
    · replace h := h.1 hc
      refine lv_iload hx hb dX8_setStrain_192 (lv_at hl 2 rfl) ?_
      exact gq_iret C hM h dX8_setStrain_194
    · replace h := h.2 hc
      refine lv_iload hx hb dX8_setStrain_159 (lv_at hl 2 rfl) ?_
      refine lv_aload_n hx hb dX8_setStrain_161 rfl (lv_at hl 0 rfl) ?_
      refine gX8_11 C hM hv0 gw_730 dX8_setStrain_162 ?_
      refine lv_iload hx hb dX8_setStrain_165 (lv_at hl 3 rfl) ?_
      refine gialdM C hM (kM_8_11 hv0) h.1 dX8_setStrain_167 ?_
      replace h := h.2
      refine lv_aload_n hx hb dX8_setStrain_168 rfl (lv_at hl 0 rfl) ?_
      refine lv_iload_n hx hb dX8_setStrain_169 rfl (lv_at hl 1 rfl) ?_
      refine lv_iload hx hb dX8_setStrain_170 (lv_at hl 3 rfl) ?_
      refine gq_backi C hM (gq_runV (As := [.int v1, .int v6]) (rest := [.int (I.1 (v0 + 4) v6.toNatClampNeg), .int v5]) C hM (kM_lt hv0 (by decide)) (cM_8 hv0) rfl (c_X8_readingOf l L v0 hv0 v1 v6 I _ h) k_X8_readingOf gw_815 rfl hl.1 rfl (Nat.le_of_ble_eq_true rfl) ⟨⟨rfl, rfl⟩, Nat.le_of_ble_eq_true rfl, Nat.le_of_ble_eq_true rfl⟩ ⟨Nat.zero_le _, Nat.zero_le _⟩ dX8_setStrain_172) (fun r1 I1 H locs h hM => ?_)
      refine lv_icmp_eq (tgt := 182) hx hb dX8_setStrain_175 (by decide) (fun hc => ?_) (fun hc => ?_)
      · replace h := h.1 hc
        refine lv_iconst (v := (0 : Int32)) hx hb dX8_setStrain_182 (by decide) ?_
        exact tj_X8_setStrain_183 C ih v0 v1 v6 (0 : Int32) v5 (hv0) I1 _ _ _ hM (lv_sub hl [0, 1, 3] rfl) h
      · replace h := h.2 hc
        refine lv_iconst (v := (1 : Int32)) hx hb dX8_setStrain_178 (by decide) ?_
        refine lv_goto (tgt := 183) hx hb dX8_setStrain_179 (by decide) ?_
        exact tj_X8_setStrain_183 C ih v0 v1 v6 (1 : Int32) v5 (hv0) I1 _ _ _ hM (lv_sub hl [0, 1, 3] rfl) h
set_option maxHeartbeats 4000000 in
set_option maxRecDepth 100000 in
theorem tl_X8_setStrain_97 (C : gx_C L 7 p s m args meth c RX8 cX8_setStrain 7 (some .int)) {Q : Int32 → gx_MM → Prop} : ∀ (fu : Nat) (v0 : Nat) (v1 : Int32) (v2 : Int32) (v3 : Int32) (v4 : Int32) (v5 : Int32) (hv0 : kM v0 = 8) (I : gx_MM) (H : Heap) (locs : List Loc) (ls : Array Slot), gx_S L 7 (cellM L I) s.heap H locs → lv_has ls 7 [(0, .ref (gx_ad L v0)), (1, .int v1), (2, .int v2), (3, .int v3), (4, .int v4), (5, .int v5)] → wl_X8_setStrain_97 Q fu v0 v1 v2 v3 v4 v5 I → W p l e rm_X8_setStrain s m args below meth c H locs 0 0 (MQ below (va_Qi Q (fun I' t => gx_U L 7 (cellM L I') t) (gx_A L)) args s 0 0 (gx_A L)) (F0 m 97 ls []) := by
  have hx := C.1
  have hb := C.2.1
  intro fu
  induction fu with
  | zero => intros; rename_i h; exact False.elim h
  | succ fu ih =>
    intro v0 v1 v2 v3 v4 v5 hv0 I H locs ls hM hl h
    rw [wl_X8_setStrain_97] at h
    refine lv_iload hx hb dX8_setStrain_97 (lv_at hl 5 rfl) ?_
    refine lv_iconst (v := (3 : Int32)) hx hb dX8_setStrain_99 (by decide) ?_
    refine lv_icmp_ge (tgt := 123) hx hb dX8_setStrain_100 (by decide) (fun hc => ?_) (fun hc => ?_)
    · replace h := h.1 hc
      refine lv_aload_n hx hb dX8_setStrain_123 rfl (lv_at hl 0 rfl) ?_
      refine lv_iload_n hx hb dX8_setStrain_124 rfl (lv_at hl 1 rfl) ?_
      refine lv_iconst (v := (5 : Int32)) hx hb dX8_setStrain_125 (by decide) ?_
      refine lv_iload_n hx hb dX8_setStrain_126 rfl (lv_at hl 2 rfl) ?_
      refine gq_backv C hM (gq_runV (As := [.int v1, .int (5 : Int32), .int v2]) (rest := []) C hM (kM_lt hv0 (by decide)) (cM_8 hv0) rfl (c_X8_put l L v0 hv0 v1 (5 : Int32) v2 I _ h) k_X8_put gw_798 rfl hl.1 rfl (Nat.le_of_ble_eq_true rfl) ⟨⟨rfl, rfl⟩, Nat.le_of_ble_eq_true rfl, Nat.le_of_ble_eq_true rfl⟩ ⟨Nat.zero_le _, Nat.zero_le _⟩ dX8_setStrain_127) (fun I1 H locs h hM => ?_)
      refine lv_aload_n hx hb dX8_setStrain_130 rfl (lv_at hl 0 rfl) ?_
      refine lv_iload_n hx hb dX8_setStrain_131 rfl (lv_at hl 1 rfl) ?_
      refine lv_bipush (v := (6 : Int32)) hx hb dX8_setStrain_132 (by decide) ?_
      refine lv_iload_n hx hb dX8_setStrain_134 rfl (lv_at hl 3 rfl) ?_
      refine gq_backv C hM (gq_runV (As := [.int v1, .int (6 : Int32), .int v3]) (rest := []) C hM (kM_lt hv0 (by decide)) (cM_8 hv0) rfl (c_X8_put l L v0 hv0 v1 (6 : Int32) v3 I1 _ h) k_X8_put gw_798 rfl hl.1 rfl (Nat.le_of_ble_eq_true rfl) ⟨⟨rfl, rfl⟩, Nat.le_of_ble_eq_true rfl, Nat.le_of_ble_eq_true rfl⟩ ⟨Nat.zero_le _, Nat.zero_le _⟩ dX8_setStrain_135) (fun I2 H locs h hM => ?_)
      refine lv_aload_n hx hb dX8_setStrain_138 rfl (lv_at hl 0 rfl) ?_
      refine lv_iload_n hx hb dX8_setStrain_139 rfl (lv_at hl 1 rfl) ?_
      refine lv_bipush (v := (7 : Int32)) hx hb dX8_setStrain_140 (by decide) ?_
      refine lv_iload hx hb dX8_setStrain_142 (lv_at hl 4 rfl) ?_
      refine gq_backv C hM (gq_runV (As := [.int v1, .int (7 : Int32), .int v4]) (rest := []) C hM (kM_lt hv0 (by decide)) (cM_8 hv0) rfl (c_X8_put l L v0 hv0 v1 (7 : Int32) v4 I2 _ h) k_X8_put gw_798 rfl hl.1 rfl (Nat.le_of_ble_eq_true rfl) ⟨⟨rfl, rfl⟩, Nat.le_of_ble_eq_true rfl, Nat.le_of_ble_eq_true rfl⟩ ⟨Nat.zero_le _, Nat.zero_le _⟩ dX8_setStrain_144) (fun I3 H locs h hM => ?_)
      refine lv_iconst (v := (0 : Int32)) hx hb dX8_setStrain_147 (by decide) ?_
      refine lv_istore (lv' := [(5, .int (0 : Int32)), (0, .ref (gx_ad L v0)), (1, .int v1), (2, .int v2), (3, .int v3), (4, .int v4)]) hx hb dX8_setStrain_148 hl (by decide) rfl (fun ls hl => ?_)
      refine lv_iconst (v := (0 : Int32)) hx hb dX8_setStrain_150 (by decide) ?_
      refine lv_istore (lv' := [(6, .int (0 : Int32)), (5, .int (0 : Int32)), (0, .ref (gx_ad L v0)), (1, .int v1), (2, .int v2), (3, .int v3), (4, .int v4)]) hx hb dX8_setStrain_151 hl (by decide) rfl (fun ls hl => ?_)
      obtain ⟨fu, h⟩ := h
      exact tl_X8_setStrain_153 C fu v0 v1 (0 : Int32) (0 : Int32) (hv0) I3 _ _ _ hM (lv_sub hl [2, 3, 1, 0] rfl) h
    · replace h := h.2 hc
      refine lv_aload_n hx hb dX8_setStrain_103 rfl (lv_at hl 0 rfl) ?_
      refine gX8_11 C hM hv0 gw_730 dX8_setStrain_104 ?_
      refine lv_iload hx hb dX8_setStrain_107 (lv_at hl 5 rfl) ?_
      refine lv_aload_n hx hb dX8_setStrain_109 rfl (lv_at hl 0 rfl) ?_
      refine lv_iload_n hx hb dX8_setStrain_110 rfl (lv_at hl 1 rfl) ?_
      refine lv_iload hx hb dX8_setStrain_111 (lv_at hl 5 rfl) ?_
      refine gq_backi C hM (gq_runV (As := [.int v1, .int v5]) (rest := [.int v5, .ref (gx_ad L (v0 + 4))]) C hM (kM_lt hv0 (by decide)) (cM_8 hv0) rfl (c_X8_readingOf l L v0 hv0 v1 v5 I _ h) k_X8_readingOf gw_815 rfl hl.1 rfl (Nat.le_of_ble_eq_true rfl) ⟨⟨rfl, rfl⟩, Nat.le_of_ble_eq_true rfl, Nat.le_of_ble_eq_true rfl⟩ ⟨Nat.zero_le _, Nat.zero_le _⟩ dX8_setStrain_113) (fun r1 I4 H locs h hM => ?_)
      have hi := h.1
      replace h := h.2
      obtain ⟨I5, eI5⟩ : ∃ z : gx_MM, z = um I4 (v0 + 4) v5.toNatClampNeg r1 := ⟨_, rfl⟩
      replace h := h I5 eI5
      refine giastM C hM (kM_8_11 hv0) hi eI5 dX8_setStrain_116 (fun H locs hM => ?_)
      obtain ⟨x1, ex1⟩ : ∃ z : Int32, z = v5 + (1 : Int32) := ⟨_, rfl⟩
      replace h := h x1 ex1
      refine lv_iinc (v := x1) (lv' := [(5, .int x1), (0, .ref (gx_ad L v0)), (1, .int v1), (2, .int v2), (3, .int v3), (4, .int v4)]) hx hb dX8_setStrain_117 hl (k := 5) rfl (by rw [ex1]; rfl) (by decide) rfl (fun ls hl => ?_)
      refine lv_goto (tgt := 97) hx hb dX8_setStrain_120 (by decide) ?_
      exact ih v0 v1 v2 v3 v4 x1 (hv0) I5 _ _ _ hM (lv_sub hl [1, 2, 3, 4, 5, 0] rfl) h
set_option maxHeartbeats 4000000 in
set_option maxRecDepth 100000 in
theorem tj_X8_setStrain_90 (C : gx_C L 7 p s m args meth c RX8 cX8_setStrain 7 (some .int)) {Q : Int32 → gx_MM → Prop} : ∀ (v0 : Nat) (v1 : Int32) (v2 : Int32) (v3 : Int32) (v4 : Int32) (hv0 : kM v0 = 8) (I : gx_MM) (H : Heap) (locs : List Loc) (ls : Array Slot), gx_S L 7 (cellM L I) s.heap H locs → lv_has ls 7 [(0, .ref (gx_ad L v0)), (1, .int v1), (2, .int v2), (3, .int v3), (4, .int v4)] → wj_X8_setStrain_90 Q v0 v1 v2 v3 v4 I → W p l e rm_X8_setStrain s m args below meth c H locs 0 0 (MQ below (va_Qi Q (fun I' t => gx_U L 7 (cellM L I') t) (gx_A L)) args s 0 0 (gx_A L)) (F0 m 90 ls []) := by
  have hx := C.1
  have hb := C.2.1
  intro v0 v1 v2 v3 v4 hv0 I H locs ls hM hl h
  unfold wj_X8_setStrain_90 at h
  refine lv_aload_n hx hb dX8_setStrain_90 rfl (lv_at hl 0 rfl) ?_
  refine gq_backv C hM (gq_runV (As := []) (rest := []) C hM (kM_lt hv0 (by decide)) (cM_8 hv0) rfl (c_X8_save l L v0 hv0 I _ h) k_X8_save gw_794 rfl hl.1 rfl (Nat.le_of_ble_eq_true rfl) ⟨⟨rfl, rfl⟩, Nat.le_of_ble_eq_true rfl, Nat.le_of_ble_eq_true rfl⟩ ⟨Nat.zero_le _, Nat.zero_le _⟩ dX8_setStrain_91) (fun I1 H locs h hM => ?_)
  refine lv_iconst (v := (0 : Int32)) hx hb dX8_setStrain_94 (by decide) ?_
  refine lv_istore (lv' := [(5, .int (0 : Int32)), (0, .ref (gx_ad L v0)), (1, .int v1), (2, .int v2), (3, .int v3), (4, .int v4)]) hx hb dX8_setStrain_95 hl (by decide) rfl (fun ls hl => ?_)
  obtain ⟨fu, h⟩ := h
  exact tl_X8_setStrain_97 C fu v0 v1 v2 v3 v4 (0 : Int32) (hv0) I1 _ _ _ hM (lv_sub hl [1, 2, 3, 4, 5, 0] rfl) h
set_option maxHeartbeats 4000000 in
set_option maxRecDepth 100000 in
theorem c_X8_setStrain (l : Launch) (L : gx_L) (a0 : Nat) (hk0 : kM a0 = 8) (p0 : Int32) (p1 : Int32) (p2 : Int32) (p3 : Int32) (I : gx_MM) (Q : Int32 → gx_MM → Prop) (h : wp_X8_setStrain a0 p0 p1 p2 p3 I Q) : Met l yX8_setStrain (gx_w yX8_setStrain cX8_setStrain 7 (some .int)) rm_X8_setStrain (va_Pc [.ref (gx_ad L a0), .int p0, .int p1, .int p2, .int p3] (gx_U L 7 (cellM L I))) (va_Qi Q (fun I' t => gx_U L 7 (cellM L I') t) (gx_A L)) 0 0 (gx_A L) := by
  refine gq_enter (by decide) (Nat.le_of_ble_eq_true rfl) (fun p e s m below meth c ls C hM hl => ?_)
  have C : gx_C L 7 p s m _ meth c RX8 cX8_setStrain 7 (some .int) := C
  have hl : lv_has ls 7 [(0, .ref (gx_ad L a0)), (1, .int p0), (2, .int p1), (3, .int p2), (4, .int p3)] := hl
  have hx := C.1
  have hb := C.2.1
  unfold wp_X8_setStrain at h
  refine lv_aload_n hx hb dX8_setStrain_0 rfl (lv_at hl 0 rfl) ?_
  refine lv_iload_n hx hb dX8_setStrain_1 rfl (lv_at hl 1 rfl) ?_
  refine gq_backi C hM (gq_runV (As := [.int p0]) (rest := []) C hM (kM_lt hk0 (by decide)) (cM_8 hk0) rfl (c_X8_noRosette l L a0 hk0 p0 I _ h) k_X8_noRosette gw_810 rfl hl.1 rfl (Nat.le_of_ble_eq_true rfl) ⟨⟨rfl, rfl⟩, Nat.le_of_ble_eq_true rfl, Nat.le_of_ble_eq_true rfl⟩ ⟨Nat.zero_le _, Nat.zero_le _⟩ dX8_setStrain_2) (fun r1 I1 H locs h hM => ?_)
  obtain ⟨hz1, h⟩ := h
  refine lv_if_eq (tgt := 11) hx hb dX8_setStrain_5 (by decide) (fun hc => ?_) (fun hc => ?_)
  · replace h := h.1 hc
    refine lv_iload_n hx hb dX8_setStrain_11 rfl (lv_at hl 2 rfl) ?_
    refine lv_sipush (v := (-5000 : Int32)) hx hb dX8_setStrain_12 (by decide) ?_
    refine lv_sipush (v := (5000 : Int32)) hx hb dX8_setStrain_15 (by decide) ?_
    refine gq_backi C hM (gq_runS (As := [.int p1, .int (-5000 : Int32), .int (5000 : Int32)]) (rest := []) C hM (c_X8_in l L p1 (-5000 : Int32) (5000 : Int32) I1 _ h) k_X8_in gw_776 rfl hl.1 rfl (Nat.le_of_ble_eq_true rfl) ⟨⟨rfl, rfl⟩, Nat.le_of_ble_eq_true rfl, Nat.le_of_ble_eq_true rfl⟩ ⟨Nat.zero_le _, Nat.zero_le _⟩ dX8_setStrain_18) (fun r2 I2 H locs h hM => ?_)
    obtain ⟨hz2, h⟩ := h
    refine lv_if_eq (tgt := 51) hx hb dX8_setStrain_21 (by decide) (fun hc => ?_) (fun hc => ?_)
    · replace h := h.1 hc
      refine gq_ldc (v := (-1000002 : Int32)) C gw_779 dX8_setStrain_51 ?_
      exact gq_iret C hM h dX8_setStrain_53
    · replace h := h.2 hc
      refine lv_iload_n hx hb dX8_setStrain_24 rfl (lv_at hl 3 rfl) ?_
      refine lv_sipush (v := (-5000 : Int32)) hx hb dX8_setStrain_25 (by decide) ?_
      refine lv_sipush (v := (5000 : Int32)) hx hb dX8_setStrain_28 (by decide) ?_
      refine gq_backi C hM (gq_runS (As := [.int p2, .int (-5000 : Int32), .int (5000 : Int32)]) (rest := []) C hM (c_X8_in l L p2 (-5000 : Int32) (5000 : Int32) I2 _ h) k_X8_in gw_776 rfl hl.1 rfl (Nat.le_of_ble_eq_true rfl) ⟨⟨rfl, rfl⟩, Nat.le_of_ble_eq_true rfl, Nat.le_of_ble_eq_true rfl⟩ ⟨Nat.zero_le _, Nat.zero_le _⟩ dX8_setStrain_31) (fun r3 I3 H locs h hM => ?_)
      obtain ⟨hz3, h⟩ := h
      refine lv_if_eq (tgt := 51) hx hb dX8_setStrain_34 (by decide) (fun hc => ?_) (fun hc => ?_)
      · replace h := h.1 hc
        refine gq_ldc (v := (-1000002 : Int32)) C gw_779 dX8_setStrain_51 ?_
        exact gq_iret C hM h dX8_setStrain_53
      · replace h := h.2 hc
        refine lv_iload hx hb dX8_setStrain_37 (lv_at hl 4 rfl) ?_
        refine lv_sipush (v := (-5000 : Int32)) hx hb dX8_setStrain_39 (by decide) ?_
        refine lv_sipush (v := (5000 : Int32)) hx hb dX8_setStrain_42 (by decide) ?_
        refine gq_backi C hM (gq_runS (As := [.int p3, .int (-5000 : Int32), .int (5000 : Int32)]) (rest := []) C hM (c_X8_in l L p3 (-5000 : Int32) (5000 : Int32) I3 _ h) k_X8_in gw_776 rfl hl.1 rfl (Nat.le_of_ble_eq_true rfl) ⟨⟨rfl, rfl⟩, Nat.le_of_ble_eq_true rfl, Nat.le_of_ble_eq_true rfl⟩ ⟨Nat.zero_le _, Nat.zero_le _⟩ dX8_setStrain_45) (fun r4 I4 H locs h hM => ?_)
        obtain ⟨hz4, h⟩ := h
        refine lv_if_ne (tgt := 54) hx hb dX8_setStrain_48 (by decide) (fun hc => ?_) (fun hc => ?_)
        · replace h := h.2 hc
          refine lv_aload_n hx hb dX8_setStrain_54 rfl (lv_at hl 0 rfl) ?_
          refine lv_iload_n hx hb dX8_setStrain_55 rfl (lv_at hl 1 rfl) ?_
          refine lv_iconst (v := (5 : Int32)) hx hb dX8_setStrain_56 (by decide) ?_
          refine gq_backi C hM (gq_runV (As := [.int p0, .int (5 : Int32)]) (rest := []) C hM (kM_lt hk0 (by decide)) (cM_8 hk0) rfl (c_X8_of l L a0 hk0 p0 (5 : Int32) I4 _ h) k_X8_of gw_789 rfl hl.1 rfl (Nat.le_of_ble_eq_true rfl) ⟨⟨rfl, rfl⟩, Nat.le_of_ble_eq_true rfl, Nat.le_of_ble_eq_true rfl⟩ ⟨Nat.zero_le _, Nat.zero_le _⟩ dX8_setStrain_57) (fun r5 I5 H locs h hM => ?_)
          refine lv_iload_n hx hb dX8_setStrain_60 rfl (lv_at hl 2 rfl) ?_
          refine lv_icmp_ne (tgt := 90) hx hb dX8_setStrain_61 (by decide) (fun hc => ?_) (fun hc => ?_)
          · replace h := h.2 hc
            exact tj_X8_setStrain_90 C a0 p0 p1 p2 p3 (hk0) I5 _ _ _ hM (lv_sub hl [0, 1, 2, 3, 4] rfl) h
          · replace h := h.1 hc
            refine lv_aload_n hx hb dX8_setStrain_64 rfl (lv_at hl 0 rfl) ?_
            refine lv_iload_n hx hb dX8_setStrain_65 rfl (lv_at hl 1 rfl) ?_
            refine lv_bipush (v := (6 : Int32)) hx hb dX8_setStrain_66 (by decide) ?_
            refine gq_backi C hM (gq_runV (As := [.int p0, .int (6 : Int32)]) (rest := []) C hM (kM_lt hk0 (by decide)) (cM_8 hk0) rfl (c_X8_of l L a0 hk0 p0 (6 : Int32) I5 _ h) k_X8_of gw_789 rfl hl.1 rfl (Nat.le_of_ble_eq_true rfl) ⟨⟨rfl, rfl⟩, Nat.le_of_ble_eq_true rfl, Nat.le_of_ble_eq_true rfl⟩ ⟨Nat.zero_le _, Nat.zero_le _⟩ dX8_setStrain_68) (fun r6 I6 H locs h hM => ?_)
            refine lv_iload_n hx hb dX8_setStrain_71 rfl (lv_at hl 3 rfl) ?_
            refine lv_icmp_ne (tgt := 90) hx hb dX8_setStrain_72 (by decide) (fun hc => ?_) (fun hc => ?_)
            · replace h := h.2 hc
              exact tj_X8_setStrain_90 C a0 p0 p1 p2 p3 (hk0) I6 _ _ _ hM (lv_sub hl [0, 1, 2, 3, 4] rfl) h
            · replace h := h.1 hc
              refine lv_aload_n hx hb dX8_setStrain_75 rfl (lv_at hl 0 rfl) ?_
              refine lv_iload_n hx hb dX8_setStrain_76 rfl (lv_at hl 1 rfl) ?_
              refine lv_bipush (v := (7 : Int32)) hx hb dX8_setStrain_77 (by decide) ?_
              refine gq_backi C hM (gq_runV (As := [.int p0, .int (7 : Int32)]) (rest := []) C hM (kM_lt hk0 (by decide)) (cM_8 hk0) rfl (c_X8_of l L a0 hk0 p0 (7 : Int32) I6 _ h) k_X8_of gw_789 rfl hl.1 rfl (Nat.le_of_ble_eq_true rfl) ⟨⟨rfl, rfl⟩, Nat.le_of_ble_eq_true rfl, Nat.le_of_ble_eq_true rfl⟩ ⟨Nat.zero_le _, Nat.zero_le _⟩ dX8_setStrain_79) (fun r7 I7 H locs h hM => ?_)
              refine lv_iload hx hb dX8_setStrain_82 (lv_at hl 4 rfl) ?_
              refine lv_icmp_ne (tgt := 90) hx hb dX8_setStrain_84 (by decide) (fun hc => ?_) (fun hc => ?_)
              · replace h := h.2 hc
                exact tj_X8_setStrain_90 C a0 p0 p1 p2 p3 (hk0) I7 _ _ _ hM (lv_sub hl [0, 1, 2, 3, 4] rfl) h
              · replace h := h.1 hc
                refine gq_ldc (v := (-1000004 : Int32)) C gw_793 dX8_setStrain_87 ?_
                exact gq_iret C hM h dX8_setStrain_89
        · replace h := h.1 hc
          refine gq_ldc (v := (-1000002 : Int32)) C gw_779 dX8_setStrain_51 ?_
          exact gq_iret C hM h dX8_setStrain_53
  · replace h := h.2 hc
    refine gq_ldc (v := (-1000001 : Int32)) C gw_814 dX8_setStrain_8 ?_
    exact gq_iret C hM h dX8_setStrain_10
theorem k_X8_setStrain : gx_kV yX8_setStrain cX8_setStrain 7 (some .int) 4 := ⟨⟨gw_809, gw_67, by decide, by decide, by decide +kernel⟩, gw_807, gw_808⟩
abbrev rm_X8_type : Room := { frames := 1, cells := 0, slots := 0, locals := 21 }
set_option maxHeartbeats 4000000 in
set_option maxRecDepth 100000 in
theorem c_X8_type (l : Launch) (L : gx_L) (a0 : Nat) (hk0 : kM a0 = 8) (p0 : Int32) (I : gx_MM) (Q : Int32 → gx_MM → Prop) (h : wp_X8_type a0 p0 I Q) : Met l yX8_type (gx_w yX8_type cX8_type 2 (some .int)) rm_X8_type (va_Pc [.ref (gx_ad L a0), .int p0] (gx_U L 7 (cellM L I))) (va_Qi Q (fun I' t => gx_U L 7 (cellM L I') t) (gx_A L)) 0 0 (gx_A L) := by
  refine gq_enter (by decide) (Nat.le_of_ble_eq_true rfl) (fun p e s m below meth c ls C hM hl => ?_)
  have C : gx_C L 7 p s m _ meth c RX8 cX8_type 2 (some .int) := C
  have hl : lv_has ls 2 [(0, .ref (gx_ad L a0)), (1, .int p0)] := hl
  have hx := C.1
  have hb := C.2.1
  unfold wp_X8_type at h
  refine lv_aload_n hx hb dX8_type_0 rfl (lv_at hl 0 rfl) ?_
  refine gX8_12 C hM hk0 gw_731 dX8_type_1 ?_
  refine lv_bipush (v := (60 : Int32)) hx hb dX8_type_4 (by decide) ?_
  refine lv_icmp_ne (tgt := 15) hx hb dX8_type_6 (by decide) (fun hc => ?_) (fun hc => ?_)
  · replace h := h.2 hc
    refine lv_aload_n hx hb dX8_type_15 rfl (lv_at hl 0 rfl) ?_
    refine gX8_13 C hM hk0 gw_732 dX8_type_16 ?_
    refine lv_aload_n hx hb dX8_type_19 rfl (lv_at hl 0 rfl) ?_
    refine gX8_12 C hM hk0 gw_731 dX8_type_20 ?_
    refine lv_iload_n hx hb dX8_type_23 rfl (lv_at hl 1 rfl) ?_
    have hi := h.1
    replace h := h.2
    obtain ⟨I1, eI1⟩ : ∃ z : gx_MM, z = um I (a0 + 5) (I.1 a0 12).toNatClampNeg (vp_nar .char p0) := ⟨_, rfl⟩
    replace h := h I1 eI1
    refine gcastM C hM (kM_8_13 hk0) hi eI1 dX8_type_24 (fun H locs hM => ?_)
    refine lv_aload_n hx hb dX8_type_25 rfl (lv_at hl 0 rfl) ?_
    refine lv_dup hx hb dX8_type_26 rfl ?_
    refine gX8_12 C hM hk0 gw_731 dX8_type_27 ?_
    refine lv_iconst (v := (1 : Int32)) hx hb dX8_type_30 (by decide) ?_
    refine lv_iadd hx hb dX8_type_31 ?_
    obtain ⟨I2, eI2⟩ : ∃ z : gx_MM, z = um I1 a0 12 ((I1.1 a0 12) + (1 : Int32)) := ⟨_, rfl⟩
    replace h := h I2 eI2
    refine pX8_12 C hM hk0 eI2 gw_731 dX8_type_32 (fun H locs hM => ?_)
    refine lv_aload_n hx hb dX8_type_35 rfl (lv_at hl 0 rfl) ?_
    refine gX8_12 C hM hk0 gw_731 dX8_type_36 ?_
    exact gq_iret C hM h dX8_type_39
  · replace h := h.1 hc
    refine lv_aload_n hx hb dX8_type_9 rfl (lv_at hl 0 rfl) ?_
    refine lv_iconst (v := (1 : Int32)) hx hb dX8_type_10 (by decide) ?_
    refine gq_backi C hM (gq_runV (As := [.int (1 : Int32)]) (rest := []) C hM (kM_lt hk0 (by decide)) (cM_8 hk0) rfl (c_X8_refuse l L a0 hk0 (1 : Int32) I _ h) k_X8_refuse gw_780 rfl hl.1 rfl (Nat.le_of_ble_eq_true rfl) ⟨⟨rfl, rfl⟩, Nat.le_of_ble_eq_true rfl, Nat.le_of_ble_eq_true rfl⟩ ⟨Nat.zero_le _, Nat.zero_le _⟩ dX8_type_11) (fun r1 I3 H locs h hM => ?_)
    exact gq_iret C hM h dX8_type_14
theorem k_X8_type : gx_kV yX8_type cX8_type 2 (some .int) 1 := ⟨⟨gw_974, gw_67, by decide, by decide, by decide +kernel⟩, gw_972, gw_973⟩
end
