section
variable {p : Program} {l : Launch} {e : Env} {s : State} {m : MethodId} {args : Array Value} {below : List Frame} {meth : Method} {c : Code} {L : gx_L}
abbrev rm_X8_against : Room := { frames := 5, cells := 0, slots := 0, locals := 119 }
set_option maxHeartbeats 4000000 in
set_option maxRecDepth 100000 in
theorem tj_X8_against_123 (C : gx_C L 7 p s m args meth c RX8 cX8_against 5 (some .int)) {Q : Int32 → gx_MM → Prop} {K41 : Nat → Int32 → Int32 → Int32 → Int32 → gx_MM → Prop} (hK41 : ∀ (v0 : Nat) (v1 : Int32) (v2 : Int32) (v3 : Int32) (v4 : Int32) (hv0 : kM v0 = 8) (I : gx_MM) (H : Heap) (locs : List Loc) (ls : Array Slot), gx_S L 7 (cellM L I) s.heap H locs → lv_has ls 5 [(0, .ref (gx_ad L v0)), (1, .int v1), (2, .int v2), (3, .int v3), (4, .int v4)] → K41 v0 v1 v2 v3 v4 I → W p l e rm_X8_against s m args below meth c H locs 0 0 (MQ below (va_Qi Q (fun I' t => gx_U L 7 (cellM L I') t) (gx_A L)) args s 0 0 (gx_A L)) (F0 m 41 ls [])) : ∀ (v0 : Nat) (v1 : Int32) (v2 : Int32) (v3 : Int32) (v4 : Int32) (hv0 : kM v0 = 8) (I : gx_MM) (H : Heap) (locs : List Loc) (ls : Array Slot), gx_S L 7 (cellM L I) s.heap H locs → lv_has ls 5 [(0, .ref (gx_ad L v0)), (1, .int v1), (2, .int v2), (3, .int v3), (4, .int v4)] → wj_X8_against_123 Q K41 v0 v1 v2 v3 v4 I → W p l e rm_X8_against s m args below meth c H locs 0 0 (MQ below (va_Qi Q (fun I' t => gx_U L 7 (cellM L I') t) (gx_A L)) args s 0 0 (gx_A L)) (F0 m 123 ls []) := by
  have hx := C.1
  have hb := C.2.1
  intro v0 v1 v2 v3 v4 hv0 I H locs ls hM hl h
  unfold wj_X8_against_123 at h
  obtain ⟨x1, ex1⟩ : ∃ z : Int32, z = v4 + (1 : Int32) := ⟨_, rfl⟩
  replace h := h x1 ex1
  refine lv_iinc (v := x1) (lv' := [(4, .int x1), (0, .ref (gx_ad L v0)), (1, .int v1), (2, .int v2), (3, .int v3)]) hx hb dX8_against_123 hl (k := 4) rfl (by rw [ex1]; rfl) (by decide) rfl (fun ls hl => ?_)
  refine lv_goto (tgt := 41) hx hb dX8_against_126 (by decide) ?_
  exact hK41 v0 v1 v2 v3 x1 (hv0) I _ _ _ hM (lv_sub hl [1, 2, 3, 4, 0] rfl) h
set_option maxHeartbeats 4000000 in
set_option maxRecDepth 100000 in
theorem tj_X8_against_76 (C : gx_C L 7 p s m args meth c RX8 cX8_against 5 (some .int)) {Q : Int32 → gx_MM → Prop} {K41 : Nat → Int32 → Int32 → Int32 → Int32 → gx_MM → Prop} (hK41 : ∀ (v0 : Nat) (v1 : Int32) (v2 : Int32) (v3 : Int32) (v4 : Int32) (hv0 : kM v0 = 8) (I : gx_MM) (H : Heap) (locs : List Loc) (ls : Array Slot), gx_S L 7 (cellM L I) s.heap H locs → lv_has ls 5 [(0, .ref (gx_ad L v0)), (1, .int v1), (2, .int v2), (3, .int v3), (4, .int v4)] → K41 v0 v1 v2 v3 v4 I → W p l e rm_X8_against s m args below meth c H locs 0 0 (MQ below (va_Qi Q (fun I' t => gx_U L 7 (cellM L I') t) (gx_A L)) args s 0 0 (gx_A L)) (F0 m 41 ls [])) : ∀ (v0 : Nat) (v1 : Int32) (v2 : Int32) (v4 : Int32) (u0 : Int32) (hv0 : kM v0 = 8) (I : gx_MM) (H : Heap) (locs : List Loc) (ls : Array Slot), gx_S L 7 (cellM L I) s.heap H locs → lv_has ls 5 [(0, .ref (gx_ad L v0)), (1, .int v1), (2, .int v2), (4, .int v4)] → wj_X8_against_76 Q K41 v0 v1 v2 v4 u0 I → W p l e rm_X8_against s m args below meth c H locs 0 0 (MQ below (va_Qi Q (fun I' t => gx_U L 7 (cellM L I') t) (gx_A L)) args s 0 0 (gx_A L)) (F0 m 76 ls [.int u0]) := by
  have hx := C.1
  have hb := C.2.1
  intro v0 v1 v2 v4 u0 hv0 I H locs ls hM hl h
  unfold wj_X8_against_76 at h
  refine lv_istore_n (lv' := [(3, .int u0), (0, .ref (gx_ad L v0)), (1, .int v1), (2, .int v2), (4, .int v4)]) hx hb dX8_against_76 rfl hl (by decide) rfl (fun ls hl => ?_)
  refine lv_goto (tgt := 123) hx hb dX8_against_77 (by decide) ?_
  exact tj_X8_against_123 C hK41 v0 v1 v2 u0 v4 (hv0) I _ _ _ hM (lv_sub hl [1, 2, 3, 0, 4] rfl) h
set_option maxHeartbeats 4000000 in
set_option maxRecDepth 100000 in
theorem tj_X8_against_102 (C : gx_C L 7 p s m args meth c RX8 cX8_against 5 (some .int)) {Q : Int32 → gx_MM → Prop} {K41 : Nat → Int32 → Int32 → Int32 → Int32 → gx_MM → Prop} (hK41 : ∀ (v0 : Nat) (v1 : Int32) (v2 : Int32) (v3 : Int32) (v4 : Int32) (hv0 : kM v0 = 8) (I : gx_MM) (H : Heap) (locs : List Loc) (ls : Array Slot), gx_S L 7 (cellM L I) s.heap H locs → lv_has ls 5 [(0, .ref (gx_ad L v0)), (1, .int v1), (2, .int v2), (3, .int v3), (4, .int v4)] → K41 v0 v1 v2 v3 v4 I → W p l e rm_X8_against s m args below meth c H locs 0 0 (MQ below (va_Qi Q (fun I' t => gx_U L 7 (cellM L I') t) (gx_A L)) args s 0 0 (gx_A L)) (F0 m 41 ls [])) : ∀ (v0 : Nat) (v1 : Int32) (v2 : Int32) (v4 : Int32) (hv0 : kM v0 = 8) (I : gx_MM) (H : Heap) (locs : List Loc) (ls : Array Slot), gx_S L 7 (cellM L I) s.heap H locs → lv_has ls 5 [(0, .ref (gx_ad L v0)), (1, .int v1), (2, .int v2), (4, .int v4)] → wj_X8_against_102 Q K41 v0 v1 v2 v4 I → W p l e rm_X8_against s m args below meth c H locs 0 0 (MQ below (va_Qi Q (fun I' t => gx_U L 7 (cellM L I') t) (gx_A L)) args s 0 0 (gx_A L)) (F0 m 102 ls []) := by
  have hx := C.1
  have hb := C.2.1
  intro v0 v1 v2 v4 hv0 I H locs ls hM hl h
  unfold wj_X8_against_102 at h
  refine lv_iconst (v := (2 : Int32)) hx hb dX8_against_102 (by decide) ?_
  refine lv_istore_n (lv' := [(3, .int (2 : Int32)), (0, .ref (gx_ad L v0)), (1, .int v1), (2, .int v2), (4, .int v4)]) hx hb dX8_against_103 rfl hl (by decide) rfl (fun ls hl => ?_)
  refine lv_goto (tgt := 123) hx hb dX8_against_104 (by decide) ?_
  exact tj_X8_against_123 C hK41 v0 v1 v2 (2 : Int32) v4 (hv0) I _ _ _ hM (lv_sub hl [1, 2, 3, 0, 4] rfl) h
set_option maxHeartbeats 4000000 in
set_option maxRecDepth 100000 in
theorem tl_X8_against_41 (C : gx_C L 7 p s m args meth c RX8 cX8_against 5 (some .int)) {Q : Int32 → gx_MM → Prop} : ∀ (fu : Nat) (v0 : Nat) (v1 : Int32) (v2 : Int32) (v3 : Int32) (v4 : Int32) (hv0 : kM v0 = 8) (I : gx_MM) (H : Heap) (locs : List Loc) (ls : Array Slot), gx_S L 7 (cellM L I) s.heap H locs → lv_has ls 5 [(0, .ref (gx_ad L v0)), (1, .int v1), (2, .int v2), (3, .int v3), (4, .int v4)] → wl_X8_against_41 Q fu v0 v1 v2 v3 v4 I → W p l e rm_X8_against s m args below meth c H locs 0 0 (MQ below (va_Qi Q (fun I' t => gx_U L 7 (cellM L I') t) (gx_A L)) args s 0 0 (gx_A L)) (F0 m 41 ls []) := by
  have hx := C.1
  have hb := C.2.1
  intro fu
  induction fu with
  | zero => intros; rename_i h; exact False.elim h
  | succ fu ih =>
    intro v0 v1 v2 v3 v4 hv0 I H locs ls hM hl h
    rw [wl_X8_against_41] at h
    refine lv_iload hx hb dX8_against_41 (lv_at hl 4 rfl) ?_
    refine lv_iconst (v := (3 : Int32)) hx hb dX8_against_43 (by decide) ?_
    refine lv_icmp_ge (tgt := 129) hx hb dX8_against_44 (by decide) (fun hc => ?_) (fun hc => ?_)
    · replace h := h.1 hc
      refine lv_iload_n hx hb dX8_against_129 rfl (lv_at hl 3 rfl) ?_
      exact gq_iret C hM h dX8_against_130
    · replace h := h.2 hc
      refine lv_iload_n hx hb dX8_against_47 rfl (lv_at hl 1 rfl) ?_
      refine lv_iconst (v := (1 : Int32)) hx hb dX8_against_48 (by decide) ?_
      refine lv_icmp_ne (tgt := 80) hx hb dX8_against_49 (by decide) (fun hc => ?_) (fun hc => ?_)
      · replace h := h.2 hc
        refine lv_aload_n hx hb dX8_against_80 rfl (lv_at hl 0 rfl) ?_
        refine lv_iload_n hx hb dX8_against_81 rfl (lv_at hl 2 rfl) ?_
        refine lv_iload hx hb dX8_against_82 (lv_at hl 4 rfl) ?_
        refine lv_iconst (v := (0 : Int32)) hx hb dX8_against_84 (by decide) ?_
        refine gq_backi C hM (gq_runV (As := [.int v2, .int v4, .int (0 : Int32)]) (rest := []) C hM (kM_lt hv0 (by decide)) (cM_8 hv0) rfl (c_X8_isOver l L v0 hv0 v2 v4 (0 : Int32) I _ h) k_X8_isOver gw_912 rfl hl.1 rfl (Nat.le_of_ble_eq_true rfl) ⟨⟨rfl, rfl⟩, Nat.le_of_ble_eq_true rfl, Nat.le_of_ble_eq_true rfl⟩ ⟨Nat.zero_le _, Nat.zero_le _⟩ dX8_against_85) (fun r1 I1 H locs h hM => ?_)
        obtain ⟨hz1, h⟩ := h
        refine lv_if_ne (tgt := 102) hx hb dX8_against_88 (by decide) (fun hc => ?_) (fun hc => ?_)
        · replace h := h.2 hc
          exact tj_X8_against_102 C ih v0 v1 v2 v4 (hv0) I1 _ _ _ hM (lv_sub hl [0, 1, 2, 4] rfl) h
        · replace h := h.1 hc
          refine lv_aload_n hx hb dX8_against_91 rfl (lv_at hl 0 rfl) ?_
          refine lv_iload_n hx hb dX8_against_92 rfl (lv_at hl 2 rfl) ?_
          refine lv_iload hx hb dX8_against_93 (lv_at hl 4 rfl) ?_
          refine lv_iconst (v := (1 : Int32)) hx hb dX8_against_95 (by decide) ?_
          refine gq_backi C hM (gq_runV (As := [.int v2, .int v4, .int (1 : Int32)]) (rest := []) C hM (kM_lt hv0 (by decide)) (cM_8 hv0) rfl (c_X8_isOver l L v0 hv0 v2 v4 (1 : Int32) I1 _ h) k_X8_isOver gw_912 rfl hl.1 rfl (Nat.le_of_ble_eq_true rfl) ⟨⟨rfl, rfl⟩, Nat.le_of_ble_eq_true rfl, Nat.le_of_ble_eq_true rfl⟩ ⟨Nat.zero_le _, Nat.zero_le _⟩ dX8_against_96) (fun r2 I2 H locs h hM => ?_)
          obtain ⟨hz2, h⟩ := h
          refine lv_if_eq (tgt := 107) hx hb dX8_against_99 (by decide) (fun hc => ?_) (fun hc => ?_)
          · replace h := h.1 hc
            refine lv_aload_n hx hb dX8_against_107 rfl (lv_at hl 0 rfl) ?_
            refine lv_iload_n hx hb dX8_against_108 rfl (lv_at hl 2 rfl) ?_
            refine lv_iload hx hb dX8_against_109 (lv_at hl 4 rfl) ?_
            refine gq_backi C hM (gq_runV (As := [.int v2, .int v4]) (rest := []) C hM (kM_lt hv0 (by decide)) (cM_8 hv0) rfl (c_X8_stepOf l L v0 hv0 v2 v4 I2 _ h) k_X8_stepOf gw_920 rfl hl.1 rfl (Nat.le_of_ble_eq_true rfl) ⟨⟨rfl, rfl⟩, Nat.le_of_ble_eq_true rfl, Nat.le_of_ble_eq_true rfl⟩ ⟨Nat.zero_le _, Nat.zero_le _⟩ dX8_against_111) (fun r3 I3 H locs h hM => ?_)
            refine lv_if_ne (tgt := 123) hx hb dX8_against_114 (by decide) (fun hc => ?_) (fun hc => ?_)
            · replace h := h.2 hc
              exact tj_X8_against_123 C ih v0 v1 v2 v3 v4 (hv0) I3 _ _ _ hM (lv_sub hl [0, 1, 2, 3, 4] rfl) h
            · replace h := h.1 hc
              refine lv_iload_n hx hb dX8_against_117 rfl (lv_at hl 3 rfl) ?_
              refine lv_if_ne (tgt := 123) hx hb dX8_against_118 (by decide) (fun hc => ?_) (fun hc => ?_)
              · replace h := h.2 hc
                exact tj_X8_against_123 C ih v0 v1 v2 v3 v4 (hv0) I3 _ _ _ hM (lv_sub hl [0, 1, 2, 3, 4] rfl) h
              · replace h := h.1 hc
                refine lv_iconst (v := (5 : Int32)) hx hb dX8_against_121 (by decide) ?_
                refine lv_istore_n (lv' := [(3, .int (5 : Int32)), (0, .ref (gx_ad L v0)), (1, .int v1), (2, .int v2), (4, .int v4)]) hx hb dX8_against_122 rfl hl (by decide) rfl (fun ls hl => ?_)
                exact tj_X8_against_123 C ih v0 v1 v2 (5 : Int32) v4 (hv0) I3 _ _ _ hM (lv_sub hl [1, 2, 3, 0, 4] rfl) h
          · replace h := h.2 hc
            exact tj_X8_against_102 C ih v0 v1 v2 v4 (hv0) I2 _ _ _ hM (lv_sub hl [0, 1, 2, 4] rfl) h
      · replace h := h.1 hc
        refine lv_aload_n hx hb dX8_against_52 rfl (lv_at hl 0 rfl) ?_
        refine lv_iload_n hx hb dX8_against_53 rfl (lv_at hl 2 rfl) ?_
        refine lv_iload hx hb dX8_against_54 (lv_at hl 4 rfl) ?_
        refine gq_backi C hM (gq_runV (As := [.int v2, .int v4]) (rest := []) C hM (kM_lt hv0 (by decide)) (cM_8 hv0) rfl (c_X8_zeroDue l L v0 hv0 v2 v4 I _ h) k_X8_zeroDue gw_916 rfl hl.1 rfl (Nat.le_of_ble_eq_true rfl) ⟨⟨rfl, rfl⟩, Nat.le_of_ble_eq_true rfl, Nat.le_of_ble_eq_true rfl⟩ ⟨Nat.zero_le _, Nat.zero_le _⟩ dX8_against_56) (fun r4 I4 H locs h hM => ?_)
        refine lv_sipush (v := (-15000 : Int32)) hx hb dX8_against_59 (by decide) ?_
        refine lv_sipush (v := (15000 : Int32)) hx hb dX8_against_62 (by decide) ?_
        refine gq_backi C hM (gq_runS (As := [.int r4, .int (-15000 : Int32), .int (15000 : Int32)]) (rest := []) C hM (c_X8_in l L r4 (-15000 : Int32) (15000 : Int32) I4 _ h) k_X8_in gw_776 rfl hl.1 rfl (Nat.le_of_ble_eq_true rfl) ⟨⟨rfl, rfl⟩, Nat.le_of_ble_eq_true rfl, Nat.le_of_ble_eq_true rfl⟩ ⟨Nat.zero_le _, Nat.zero_le _⟩ dX8_against_65) (fun r5 I5 H locs h hM => ?_)
        obtain ⟨hz3, h⟩ := h
        refine lv_if_eq (tgt := 75) hx hb dX8_against_68 (by decide) (fun hc => ?_) (fun hc => ?_)
        · replace h := h.1 hc
          refine lv_iconst (v := (3 : Int32)) hx hb dX8_against_75 (by decide) ?_
          exact tj_X8_against_76 C ih v0 v1 v2 v4 (3 : Int32) (hv0) I5 _ _ _ hM (lv_sub hl [0, 1, 2, 4] rfl) h
        · replace h := h.2 hc
          refine lv_iload_n hx hb dX8_against_71 rfl (lv_at hl 3 rfl) ?_
          refine lv_goto (tgt := 76) hx hb dX8_against_72 (by decide) ?_
          exact tj_X8_against_76 C ih v0 v1 v2 v4 v3 (hv0) I5 _ _ _ hM (lv_sub hl [0, 1, 2, 4] rfl) h
set_option maxHeartbeats 4000000 in
set_option maxRecDepth 100000 in
theorem tj_X8_against_36 (C : gx_C L 7 p s m args meth c RX8 cX8_against 5 (some .int)) {Q : Int32 → gx_MM → Prop} : ∀ (v0 : Nat) (v1 : Int32) (v2 : Int32) (hv0 : kM v0 = 8) (I : gx_MM) (H : Heap) (locs : List Loc) (ls : Array Slot), gx_S L 7 (cellM L I) s.heap H locs → lv_has ls 5 [(0, .ref (gx_ad L v0)), (1, .int v1), (2, .int v2)] → wj_X8_against_36 Q v0 v1 v2 I → W p l e rm_X8_against s m args below meth c H locs 0 0 (MQ below (va_Qi Q (fun I' t => gx_U L 7 (cellM L I') t) (gx_A L)) args s 0 0 (gx_A L)) (F0 m 36 ls []) := by
  have hx := C.1
  have hb := C.2.1
  intro v0 v1 v2 hv0 I H locs ls hM hl h
  unfold wj_X8_against_36 at h
  refine lv_iconst (v := (0 : Int32)) hx hb dX8_against_36 (by decide) ?_
  refine lv_istore_n (lv' := [(3, .int (0 : Int32)), (0, .ref (gx_ad L v0)), (1, .int v1), (2, .int v2)]) hx hb dX8_against_37 rfl hl (by decide) rfl (fun ls hl => ?_)
  refine lv_iconst (v := (0 : Int32)) hx hb dX8_against_38 (by decide) ?_
  refine lv_istore (lv' := [(4, .int (0 : Int32)), (3, .int (0 : Int32)), (0, .ref (gx_ad L v0)), (1, .int v1), (2, .int v2)]) hx hb dX8_against_39 hl (by decide) rfl (fun ls hl => ?_)
  obtain ⟨fu, h⟩ := h
  exact tl_X8_against_41 C fu v0 v1 v2 (0 : Int32) (0 : Int32) (hv0) I _ _ _ hM (lv_sub hl [2, 3, 4, 1, 0] rfl) h
set_option maxHeartbeats 4000000 in
set_option maxRecDepth 100000 in
theorem c_X8_against (l : Launch) (L : gx_L) (a0 : Nat) (hk0 : kM a0 = 8) (p0 : Int32) (p1 : Int32) (I : gx_MM) (Q : Int32 → gx_MM → Prop) (h : wp_X8_against a0 p0 p1 I Q) : Met l yX8_against (gx_w yX8_against cX8_against 5 (some .int)) rm_X8_against (va_Pc [.ref (gx_ad L a0), .int p0, .int p1] (gx_U L 7 (cellM L I))) (va_Qi Q (fun I' t => gx_U L 7 (cellM L I') t) (gx_A L)) 0 0 (gx_A L) := by
  refine gq_enter (by decide) (Nat.le_of_ble_eq_true rfl) (fun p e s m below meth c ls C hM hl => ?_)
  have C : gx_C L 7 p s m _ meth c RX8 cX8_against 5 (some .int) := C
  have hl : lv_has ls 5 [(0, .ref (gx_ad L a0)), (1, .int p0), (2, .int p1)] := hl
  have hx := C.1
  have hb := C.2.1
  unfold wp_X8_against at h
  refine lv_iload_n hx hb dX8_against_0 rfl (lv_at hl 1 rfl) ?_
  refine lv_if_ne (tgt := 18) hx hb dX8_against_1 (by decide) (fun hc => ?_) (fun hc => ?_)
  · replace h := h.2 hc
    refine lv_iload_n hx hb dX8_against_18 rfl (lv_at hl 1 rfl) ?_
    refine lv_iconst (v := (1 : Int32)) hx hb dX8_against_19 (by decide) ?_
    refine lv_icmp_ne (tgt := 36) hx hb dX8_against_20 (by decide) (fun hc => ?_) (fun hc => ?_)
    · replace h := h.2 hc
      exact tj_X8_against_36 C a0 p0 p1 (hk0) I _ _ _ hM (lv_sub hl [0, 1, 2] rfl) h
    · replace h := h.1 hc
      refine lv_aload_n hx hb dX8_against_23 rfl (lv_at hl 0 rfl) ?_
      refine lv_iload_n hx hb dX8_against_24 rfl (lv_at hl 2 rfl) ?_
      refine lv_bipush (v := (8 : Int32)) hx hb dX8_against_25 (by decide) ?_
      refine gq_backi C hM (gq_runV (As := [.int p1, .int (8 : Int32)]) (rest := []) C hM (kM_lt hk0 (by decide)) (cM_8 hk0) rfl (c_X8_of l L a0 hk0 p1 (8 : Int32) I _ h) k_X8_of gw_789 rfl hl.1 rfl (Nat.le_of_ble_eq_true rfl) ⟨⟨rfl, rfl⟩, Nat.le_of_ble_eq_true rfl, Nat.le_of_ble_eq_true rfl⟩ ⟨Nat.zero_le _, Nat.zero_le _⟩ dX8_against_27) (fun r1 I1 H locs h hM => ?_)
      refine lv_iconst (v := (1 : Int32)) hx hb dX8_against_30 (by decide) ?_
      refine lv_icmp_ne (tgt := 36) hx hb dX8_against_31 (by decide) (fun hc => ?_) (fun hc => ?_)
      · replace h := h.2 hc
        exact tj_X8_against_36 C a0 p0 p1 (hk0) I1 _ _ _ hM (lv_sub hl [0, 1, 2] rfl) h
      · replace h := h.1 hc
        refine lv_iconst (v := (4 : Int32)) hx hb dX8_against_34 (by decide) ?_
        exact gq_iret C hM h dX8_against_35
  · replace h := h.1 hc
    refine lv_aload_n hx hb dX8_against_4 rfl (lv_at hl 0 rfl) ?_
    refine lv_iload_n hx hb dX8_against_5 rfl (lv_at hl 2 rfl) ?_
    refine gq_backi C hM (gq_runV (As := [.int p1]) (rest := []) C hM (kM_lt hk0 (by decide)) (cM_8 hk0) rfl (c_X8_overloaded l L a0 hk0 p1 I _ h) k_X8_overloaded gw_908 rfl hl.1 rfl (Nat.le_of_ble_eq_true rfl) ⟨⟨rfl, rfl⟩, Nat.le_of_ble_eq_true rfl, Nat.le_of_ble_eq_true rfl⟩ ⟨Nat.zero_le _, Nat.zero_le _⟩ dX8_against_6) (fun r2 I2 H locs h hM => ?_)
    refine lv_if_le (tgt := 16) hx hb dX8_against_9 (by decide) (fun hc => ?_) (fun hc => ?_)
    · replace h := h.1 hc
      refine lv_iconst (v := (0 : Int32)) hx hb dX8_against_16 (by decide) ?_
      exact gq_iret C hM h dX8_against_17
    · replace h := h.2 hc
      refine lv_iconst (v := (2 : Int32)) hx hb dX8_against_12 (by decide) ?_
      refine lv_goto (tgt := 17) hx hb dX8_against_13 (by decide) ?_
      exact gq_iret C hM h dX8_against_17
theorem k_X8_against : gx_kV yX8_against cX8_against 5 (some .int) 2 := ⟨⟨gw_907, gw_67, by decide, by decide, by decide +kernel⟩, gw_906, gw_42⟩
abbrev rm_X8_ask : Room := { frames := 0, cells := 0, slots := 0, locals := 0 }
set_option maxHeartbeats 4000000 in
set_option maxRecDepth 100000 in
theorem c_X8_ask (l : Launch) (L : gx_L) (a0 : Nat) (hk0 : kM a0 = 8) (p0 : Int32) (p1 : Int32) (p2 : Int32) (I : gx_MM) (Q : gx_MM → Prop) (h : wp_X8_ask a0 p0 p1 p2 I Q) : Met l yX8_ask (gx_w yX8_ask cX8_ask 5 none) rm_X8_ask (va_Pc [.ref (gx_ad L a0), .int p0, .int p1, .int p2] (gx_U L 7 (cellM L I))) (va_Qv Q (fun I' t => gx_U L 7 (cellM L I') t) (gx_A L)) 0 0 (gx_A L) := by
  refine gq_enter (by decide) (Nat.le_of_ble_eq_true rfl) (fun p e s m below meth c ls C hM hl => ?_)
  have C : gx_C L 7 p s m _ meth c RX8 cX8_ask 5 none := C
  have hl : lv_has ls 5 [(0, .ref (gx_ad L a0)), (1, .int p0), (2, .int p1), (3, .int p2)] := hl
  have hx := C.1
  have hb := C.2.1
  unfold wp_X8_ask at h
  refine lv_sipush (v := (170 : Int32)) hx hb dX8_ask_0 (by decide) ?_
  refine lv_iconst (v := (4 : Int32)) hx hb dX8_ask_3 (by decide) ?_
  refine lv_aload_n hx hb dX8_ask_4 rfl (lv_at hl 0 rfl) ?_
  refine gX8_0 C hM hk0 gw_719 dX8_ask_5 ?_
  refine lv_iconst (v := (4 : Int32)) hx hb dX8_ask_8 (by decide) ?_
  refine gialdM C hM (kM_8_0 hk0) h.1 dX8_ask_9 ?_
  replace h := h.2
  refine lv_imul hx hb dX8_ask_10 ?_
  refine lv_iadd hx hb dX8_ask_11 ?_
  refine lv_topi (fun x1 ex1 => ?_)
  replace h := h x1 ex1
  refine lv_istore (lv' := [(4, .int x1), (0, .ref (gx_ad L a0)), (1, .int p0), (2, .int p1), (3, .int p2)]) hx hb dX8_ask_12 hl (by decide) rfl (fun ls hl => ?_)
  refine lv_aload_n hx hb dX8_ask_14 rfl (lv_at hl 1 rfl) ?_
  refine gX8_0 C hM hk0 gw_719 dX8_ask_15 ?_
  refine lv_iload hx hb dX8_ask_18 (lv_at hl 0 rfl) ?_
  refine lv_aload_n hx hb dX8_ask_20 rfl (lv_at hl 1 rfl) ?_
  refine gX8_0 C hM hk0 gw_719 dX8_ask_21 ?_
  refine lv_iconst (v := (5 : Int32)) hx hb dX8_ask_24 (by decide) ?_
  refine gialdM C hM (kM_8_0 hk0) h.1 dX8_ask_25 ?_
  replace h := h.2
  have hi := h.1
  replace h := h.2
  obtain ⟨I1, eI1⟩ : ∃ z : gx_MM, z = um I (a0 + 1) x1.toNatClampNeg (I.1 (a0 + 1) (5 : Int32).toNatClampNeg) := ⟨_, rfl⟩
  replace h := h I1 eI1
  refine giastM C hM (kM_8_0 hk0) hi eI1 dX8_ask_26 (fun H locs hM => ?_)
  refine lv_aload_n hx hb dX8_ask_27 rfl (lv_at hl 1 rfl) ?_
  refine gX8_0 C hM hk0 gw_719 dX8_ask_28 ?_
  refine lv_iload hx hb dX8_ask_31 (lv_at hl 0 rfl) ?_
  refine lv_iconst (v := (1 : Int32)) hx hb dX8_ask_33 (by decide) ?_
  refine lv_iadd hx hb dX8_ask_34 ?_
  refine lv_iload_n hx hb dX8_ask_35 rfl (lv_at hl 2 rfl) ?_
  have hi := h.1
  replace h := h.2
  obtain ⟨I2, eI2⟩ : ∃ z : gx_MM, z = um I1 (a0 + 1) (x1 + (1 : Int32)).toNatClampNeg p0 := ⟨_, rfl⟩
  replace h := h I2 eI2
  refine giastM C hM (kM_8_0 hk0) hi eI2 dX8_ask_36 (fun H locs hM => ?_)
  refine lv_aload_n hx hb dX8_ask_37 rfl (lv_at hl 1 rfl) ?_
  refine gX8_0 C hM hk0 gw_719 dX8_ask_38 ?_
  refine lv_iload hx hb dX8_ask_41 (lv_at hl 0 rfl) ?_
  refine lv_iconst (v := (2 : Int32)) hx hb dX8_ask_43 (by decide) ?_
  refine lv_iadd hx hb dX8_ask_44 ?_
  refine lv_iload_n hx hb dX8_ask_45 rfl (lv_at hl 3 rfl) ?_
  have hi := h.1
  replace h := h.2
  obtain ⟨I3, eI3⟩ : ∃ z : gx_MM, z = um I2 (a0 + 1) (x1 + (2 : Int32)).toNatClampNeg p1 := ⟨_, rfl⟩
  replace h := h I3 eI3
  refine giastM C hM (kM_8_0 hk0) hi eI3 dX8_ask_46 (fun H locs hM => ?_)
  refine lv_aload_n hx hb dX8_ask_47 rfl (lv_at hl 1 rfl) ?_
  refine gX8_0 C hM hk0 gw_719 dX8_ask_48 ?_
  refine lv_iload hx hb dX8_ask_51 (lv_at hl 0 rfl) ?_
  refine lv_iconst (v := (3 : Int32)) hx hb dX8_ask_53 (by decide) ?_
  refine lv_iadd hx hb dX8_ask_54 ?_
  refine lv_iload_n hx hb dX8_ask_55 rfl (lv_at hl 4 rfl) ?_
  have hi := h.1
  replace h := h.2
  obtain ⟨I4, eI4⟩ : ∃ z : gx_MM, z = um I3 (a0 + 1) (x1 + (3 : Int32)).toNatClampNeg p2 := ⟨_, rfl⟩
  replace h := h I4 eI4
  refine giastM C hM (kM_8_0 hk0) hi eI4 dX8_ask_56 (fun H locs hM => ?_)
  refine lv_aload_n hx hb dX8_ask_57 rfl (lv_at hl 1 rfl) ?_
  refine gX8_0 C hM hk0 gw_719 dX8_ask_58 ?_
  refine lv_iconst (v := (4 : Int32)) hx hb dX8_ask_61 (by decide) ?_
  refine lv_dup2_11 hx hb dX8_ask_62 rfl rfl ?_
  refine gialdM C hM (kM_8_0 hk0) h.1 dX8_ask_63 ?_
  replace h := h.2
  refine lv_iconst (v := (1 : Int32)) hx hb dX8_ask_64 (by decide) ?_
  refine lv_iadd hx hb dX8_ask_65 ?_
  have hi := h.1
  replace h := h.2
  obtain ⟨I5, eI5⟩ : ∃ z : gx_MM, z = um I4 (a0 + 1) (4 : Int32).toNatClampNeg ((I4.1 (a0 + 1) (4 : Int32).toNatClampNeg) + (1 : Int32)) := ⟨_, rfl⟩
  replace h := h I5 eI5
  refine giastM C hM (kM_8_0 hk0) hi eI5 dX8_ask_66 (fun H locs hM => ?_)
  refine lv_aload_n hx hb dX8_ask_67 rfl (lv_at hl 1 rfl) ?_
  refine gX8_0 C hM hk0 gw_719 dX8_ask_68 ?_
  refine lv_iconst (v := (5 : Int32)) hx hb dX8_ask_71 (by decide) ?_
  refine lv_dup2_11 hx hb dX8_ask_72 rfl rfl ?_
  refine gialdM C hM (kM_8_0 hk0) h.1 dX8_ask_73 ?_
  replace h := h.2
  refine lv_iconst (v := (1 : Int32)) hx hb dX8_ask_74 (by decide) ?_
  refine lv_iadd hx hb dX8_ask_75 ?_
  have hi := h.1
  replace h := h.2
  obtain ⟨I6, eI6⟩ : ∃ z : gx_MM, z = um I5 (a0 + 1) (5 : Int32).toNatClampNeg ((I5.1 (a0 + 1) (5 : Int32).toNatClampNeg) + (1 : Int32)) := ⟨_, rfl⟩
  replace h := h I6 eI6
  refine giastM C hM (kM_8_0 hk0) hi eI6 dX8_ask_76 (fun H locs hM => ?_)
  exact gq_vret C hM h dX8_ask_77
theorem k_X8_ask : gx_kV yX8_ask cX8_ask 5 none 3 := ⟨⟨gw_868, gw_67, by decide, by decide, by decide +kernel⟩, gw_867, gw_35⟩
abbrev rm_X8_noRosette : Room := { frames := 1, cells := 0, slots := 0, locals := 22 }
set_option maxHeartbeats 4000000 in
set_option maxRecDepth 100000 in
theorem c_X8_noRosette (l : Launch) (L : gx_L) (a0 : Nat) (hk0 : kM a0 = 8) (p0 : Int32) (I : gx_MM) (Q : Int32 → gx_MM → Prop) (h : wp_X8_noRosette a0 p0 I Q) : Met l yX8_noRosette (gx_w yX8_noRosette cX8_noRosette 2 (some .boolean)) rm_X8_noRosette (va_Pc [.ref (gx_ad L a0), .int p0] (gx_U L 7 (cellM L I))) (va_Qi (fun r I' => r &&& 1 = r ∧ Q r I') (fun I' t => gx_U L 7 (cellM L I') t) (gx_A L)) 0 0 (gx_A L) := by
  refine gq_enter (by decide) (Nat.le_of_ble_eq_true rfl) (fun p e s m below meth c ls C hM hl => ?_)
  have C : gx_C L 7 p s m _ meth c RX8 cX8_noRosette 2 (some .boolean) := C
  have hl : lv_has ls 2 [(0, .ref (gx_ad L a0)), (1, .int p0)] := hl
  have hx := C.1
  have hb := C.2.1
  unfold wp_X8_noRosette at h
  refine lv_iload_n hx hb dX8_noRosette_0 rfl (lv_at hl 1 rfl) ?_
  refine lv_iconst (v := (0 : Int32)) hx hb dX8_noRosette_1 (by decide) ?_
  refine lv_aload_n hx hb dX8_noRosette_2 rfl (lv_at hl 0 rfl) ?_
  refine gX8_0 C hM hk0 gw_719 dX8_noRosette_3 ?_
  refine lv_iconst (v := (0 : Int32)) hx hb dX8_noRosette_6 (by decide) ?_
  refine gialdM C hM (kM_8_0 hk0) h.1 dX8_noRosette_7 ?_
  replace h := h.2
  refine lv_iconst (v := (1 : Int32)) hx hb dX8_noRosette_8 (by decide) ?_
  refine lv_isub hx hb dX8_noRosette_9 ?_
  refine gq_backi C hM (gq_runS (As := [.int p0, .int (0 : Int32), .int ((I.1 (a0 + 1) (0 : Int32).toNatClampNeg) - (1 : Int32))]) (rest := []) C hM (c_X8_in l L p0 (0 : Int32) ((I.1 (a0 + 1) (0 : Int32).toNatClampNeg) - (1 : Int32)) I _ h) k_X8_in gw_776 rfl hl.1 rfl (Nat.le_of_ble_eq_true rfl) ⟨⟨rfl, rfl⟩, Nat.le_of_ble_eq_true rfl, Nat.le_of_ble_eq_true rfl⟩ ⟨Nat.zero_le _, Nat.zero_le _⟩ dX8_noRosette_10) (fun r1 I1 H locs h hM => ?_)
  obtain ⟨hz1, h⟩ := h
  refine lv_if_ne (tgt := 20) hx hb dX8_noRosette_13 (by decide) (fun hc => ?_) (fun hc => ?_)
  · replace h := h.2 hc
    refine lv_iconst (v := (0 : Int32)) hx hb dX8_noRosette_20 (by decide) ?_
    exact gq_zret C hM ⟨rfl, h⟩ (rfl) dX8_noRosette_21
  · replace h := h.1 hc
    refine lv_iconst (v := (1 : Int32)) hx hb dX8_noRosette_16 (by decide) ?_
    refine lv_goto (tgt := 21) hx hb dX8_noRosette_17 (by decide) ?_
    exact gq_zret C hM ⟨rfl, h⟩ (rfl) dX8_noRosette_21
theorem k_X8_noRosette : gx_kV yX8_noRosette cX8_noRosette 2 (some .boolean) 1 := ⟨⟨gw_813, gw_67, by decide, by decide, by decide +kernel⟩, gw_812, gw_27⟩
abbrev rm_X8_ofJob : Room := { frames := 0, cells := 0, slots := 0, locals := 0 }
set_option maxHeartbeats 4000000 in
set_option maxRecDepth 100000 in
theorem c_X8_ofJob (l : Launch) (L : gx_L) (a0 : Nat) (hk0 : kM a0 = 8) (p0 : Int32) (p1 : Int32) (I : gx_MM) (Q : Int32 → gx_MM → Prop) (h : wp_X8_ofJob a0 p0 p1 I Q) : Met l yX8_ofJob (gx_w yX8_ofJob cX8_ofJob 3 (some .int)) rm_X8_ofJob (va_Pc [.ref (gx_ad L a0), .int p0, .int p1] (gx_U L 7 (cellM L I))) (va_Qi Q (fun I' t => gx_U L 7 (cellM L I') t) (gx_A L)) 0 0 (gx_A L) := by
  refine gq_enter (by decide) (Nat.le_of_ble_eq_true rfl) (fun p e s m below meth c ls C hM hl => ?_)
  have C : gx_C L 7 p s m _ meth c RX8 cX8_ofJob 3 (some .int) := C
  have hl : lv_has ls 3 [(0, .ref (gx_ad L a0)), (1, .int p0), (2, .int p1)] := hl
  have hx := C.1
  have hb := C.2.1
  unfold wp_X8_ofJob at h
  refine lv_aload_n hx hb dX8_ofJob_0 rfl (lv_at hl 0 rfl) ?_
  refine gX8_0 C hM hk0 gw_719 dX8_ofJob_1 ?_
  refine lv_sipush (v := (170 : Int32)) hx hb dX8_ofJob_4 (by decide) ?_
  refine lv_iconst (v := (4 : Int32)) hx hb dX8_ofJob_7 (by decide) ?_
  refine lv_iload_n hx hb dX8_ofJob_8 rfl (lv_at hl 1 rfl) ?_
  refine lv_imul hx hb dX8_ofJob_9 ?_
  refine lv_iadd hx hb dX8_ofJob_10 ?_
  refine lv_iload_n hx hb dX8_ofJob_11 rfl (lv_at hl 2 rfl) ?_
  refine lv_iadd hx hb dX8_ofJob_12 ?_
  refine gialdM C hM (kM_8_0 hk0) h.1 dX8_ofJob_13 ?_
  replace h := h.2
  exact gq_iret C hM h dX8_ofJob_14
theorem k_X8_ofJob : gx_kV yX8_ofJob cX8_ofJob 3 (some .int) 2 := ⟨⟨gw_880, gw_67, by decide, by decide, by decide +kernel⟩, gw_879, gw_37⟩
abbrev rm_X8_takeOut : Room := { frames := 0, cells := 0, slots := 0, locals := 0 }
set_option maxHeartbeats 4000000 in
set_option maxRecDepth 100000 in
theorem tl_X8_takeOut_18 (C : gx_C L 7 p s m args meth c RX8 cX8_takeOut 3 none) {Q : gx_MM → Prop} : ∀ (fu : Nat) (v0 : Nat) (v2 : Int32) (hv0 : kM v0 = 8) (I : gx_MM) (H : Heap) (locs : List Loc) (ls : Array Slot), gx_S L 7 (cellM L I) s.heap H locs → lv_has ls 3 [(0, .ref (gx_ad L v0)), (2, .int v2)] → wl_X8_takeOut_18 Q fu v0 v2 I → W p l e rm_X8_takeOut s m args below meth c H locs 0 0 (MQ below (va_Qv Q (fun I' t => gx_U L 7 (cellM L I') t) (gx_A L)) args s 0 0 (gx_A L)) (F0 m 18 ls []) := by
  have hx := C.1
  have hb := C.2.1
  intro fu
  induction fu with
  | zero => intros; rename_i h; exact False.elim h
  | succ fu ih =>
    intro v0 v2 hv0 I H locs ls hM hl h
    rw [wl_X8_takeOut_18] at h
    refine lv_iload_n hx hb dX8_takeOut_18 rfl (lv_at hl 1 rfl) ?_
    refine lv_sipush (v := (170 : Int32)) hx hb dX8_takeOut_19 (by decide) ?_
    refine lv_iconst (v := (4 : Int32)) hx hb dX8_takeOut_22 (by decide) ?_
    refine lv_aload_n hx hb dX8_takeOut_23 rfl (lv_at hl 0 rfl) ?_
    refine gX8_0 C hM hv0 gw_719 dX8_takeOut_24 ?_
    refine lv_iconst (v := (4 : Int32)) hx hb dX8_takeOut_27 (by decide) ?_
    refine gialdM C hM (kM_8_0 hv0) h.1 dX8_takeOut_28 ?_
    replace h := h.2
    refine lv_imul hx hb dX8_takeOut_29 ?_
    refine lv_iadd hx hb dX8_takeOut_30 ?_
    refine lv_icmp_ge (tgt := 54) hx hb dX8_takeOut_31 (by decide) (fun hc => ?_) (fun hc => ?_)
    · replace h := h.1 hc
      exact gq_vret C hM h dX8_takeOut_54
    · replace h := h.2 hc
      refine lv_aload_n hx hb dX8_takeOut_34 rfl (lv_at hl 0 rfl) ?_
      refine gX8_0 C hM hv0 gw_719 dX8_takeOut_35 ?_
      refine lv_iload_n hx hb dX8_takeOut_38 rfl (lv_at hl 1 rfl) ?_
      refine lv_aload_n hx hb dX8_takeOut_39 rfl (lv_at hl 0 rfl) ?_
      refine gX8_0 C hM hv0 gw_719 dX8_takeOut_40 ?_
      refine lv_iload_n hx hb dX8_takeOut_43 rfl (lv_at hl 1 rfl) ?_
      refine lv_iconst (v := (4 : Int32)) hx hb dX8_takeOut_44 (by decide) ?_
      refine lv_iadd hx hb dX8_takeOut_45 ?_
      refine gialdM C hM (kM_8_0 hv0) h.1 dX8_takeOut_46 ?_
      replace h := h.2
      have hi := h.1
      replace h := h.2
      obtain ⟨I1, eI1⟩ : ∃ z : gx_MM, z = um I (v0 + 1) v2.toNatClampNeg (I.1 (v0 + 1) (v2 + (4 : Int32)).toNatClampNeg) := ⟨_, rfl⟩
      replace h := h I1 eI1
      refine giastM C hM (kM_8_0 hv0) hi eI1 dX8_takeOut_47 (fun H locs hM => ?_)
      obtain ⟨x1, ex1⟩ : ∃ z : Int32, z = v2 + (1 : Int32) := ⟨_, rfl⟩
      replace h := h x1 ex1
      refine lv_iinc (v := x1) (lv' := [(2, .int x1), (0, .ref (gx_ad L v0))]) hx hb dX8_takeOut_48 hl (k := 1) rfl (by rw [ex1]; rfl) (by decide) rfl (fun ls hl => ?_)
      refine lv_goto (tgt := 18) hx hb dX8_takeOut_51 (by decide) ?_
      exact ih v0 x1 (hv0) I1 _ _ _ hM (lv_sub hl [1, 0] rfl) h
set_option maxHeartbeats 4000000 in
set_option maxRecDepth 100000 in
theorem c_X8_takeOut (l : Launch) (L : gx_L) (a0 : Nat) (hk0 : kM a0 = 8) (p0 : Int32) (I : gx_MM) (Q : gx_MM → Prop) (h : wp_X8_takeOut a0 p0 I Q) : Met l yX8_takeOut (gx_w yX8_takeOut cX8_takeOut 3 none) rm_X8_takeOut (va_Pc [.ref (gx_ad L a0), .int p0] (gx_U L 7 (cellM L I))) (va_Qv Q (fun I' t => gx_U L 7 (cellM L I') t) (gx_A L)) 0 0 (gx_A L) := by
  refine gq_enter (by decide) (Nat.le_of_ble_eq_true rfl) (fun p e s m below meth c ls C hM hl => ?_)
  have C : gx_C L 7 p s m _ meth c RX8 cX8_takeOut 3 none := C
  have hl : lv_has ls 3 [(0, .ref (gx_ad L a0)), (1, .int p0)] := hl
  have hx := C.1
  have hb := C.2.1
  unfold wp_X8_takeOut at h
  refine lv_aload_n hx hb dX8_takeOut_0 rfl (lv_at hl 0 rfl) ?_
  refine gX8_0 C hM hk0 gw_719 dX8_takeOut_1 ?_
  refine lv_iconst (v := (4 : Int32)) hx hb dX8_takeOut_4 (by decide) ?_
  refine lv_dup2_11 hx hb dX8_takeOut_5 rfl rfl ?_
  refine gialdM C hM (kM_8_0 hk0) h.1 dX8_takeOut_6 ?_
  replace h := h.2
  refine lv_iconst (v := (1 : Int32)) hx hb dX8_takeOut_7 (by decide) ?_
  refine lv_isub hx hb dX8_takeOut_8 ?_
  have hi := h.1
  replace h := h.2
  obtain ⟨I1, eI1⟩ : ∃ z : gx_MM, z = um I (a0 + 1) (4 : Int32).toNatClampNeg ((I.1 (a0 + 1) (4 : Int32).toNatClampNeg) - (1 : Int32)) := ⟨_, rfl⟩
  replace h := h I1 eI1
  refine giastM C hM (kM_8_0 hk0) hi eI1 dX8_takeOut_9 (fun H locs hM => ?_)
  refine lv_sipush (v := (170 : Int32)) hx hb dX8_takeOut_10 (by decide) ?_
  refine lv_iconst (v := (4 : Int32)) hx hb dX8_takeOut_13 (by decide) ?_
  refine lv_iload_n hx hb dX8_takeOut_14 rfl (lv_at hl 1 rfl) ?_
  refine lv_imul hx hb dX8_takeOut_15 ?_
  refine lv_iadd hx hb dX8_takeOut_16 ?_
  refine lv_topi (fun x1 ex1 => ?_)
  replace h := h x1 ex1
  refine lv_istore_n (lv' := [(2, .int x1), (0, .ref (gx_ad L a0)), (1, .int p0)]) hx hb dX8_takeOut_17 rfl hl (by decide) rfl (fun ls hl => ?_)
  obtain ⟨fu, h⟩ := h
  exact tl_X8_takeOut_18 C fu a0 x1 (hk0) I1 _ _ _ hM (lv_sub hl [1, 0] rfl) h
theorem k_X8_takeOut : gx_kV yX8_takeOut cX8_takeOut 3 none 1 := ⟨⟨gw_884, gw_67, by decide, by decide, by decide +kernel⟩, gw_883, gw_38⟩
abbrev rm_X8_waitingFor : Room := { frames := 1, cells := 0, slots := 0, locals := 22 }
set_option maxHeartbeats 4000000 in
set_option maxRecDepth 100000 in
theorem tj_X8_waitingFor_30 (C : gx_C L 7 p s m args meth c RX8 cX8_waitingFor 4 (some .int)) {Q : Int32 → gx_MM → Prop} {K4 : Nat → Int32 → Int32 → Int32 → gx_MM → Prop} (hK4 : ∀ (v0 : Nat) (v1 : Int32) (v2 : Int32) (v3 : Int32) (hv0 : kM v0 = 8) (I : gx_MM) (H : Heap) (locs : List Loc) (ls : Array Slot), gx_S L 7 (cellM L I) s.heap H locs → lv_has ls 4 [(0, .ref (gx_ad L v0)), (1, .int v1), (2, .int v2), (3, .int v3)] → K4 v0 v1 v2 v3 I → W p l e rm_X8_waitingFor s m args below meth c H locs 0 0 (MQ below (va_Qi Q (fun I' t => gx_U L 7 (cellM L I') t) (gx_A L)) args s 0 0 (gx_A L)) (F0 m 4 ls [])) : ∀ (v0 : Nat) (v1 : Int32) (v3 : Int32) (u0 : Int32) (u1 : Int32) (hv0 : kM v0 = 8) (I : gx_MM) (H : Heap) (locs : List Loc) (ls : Array Slot), gx_S L 7 (cellM L I) s.heap H locs → lv_has ls 4 [(0, .ref (gx_ad L v0)), (1, .int v1), (3, .int v3)] → wj_X8_waitingFor_30 Q K4 v0 v1 v3 u0 u1 I → W p l e rm_X8_waitingFor s m args below meth c H locs 0 0 (MQ below (va_Qi Q (fun I' t => gx_U L 7 (cellM L I') t) (gx_A L)) args s 0 0 (gx_A L)) (F0 m 30 ls [.int u0, .int u1]) := by
  have hx := C.1
  have hb := C.2.1
  intro v0 v1 v3 u0 u1 hv0 I H locs ls hM hl h
  unfold wj_X8_waitingFor_30 at h
  refine lv_iadd hx hb dX8_waitingFor_30 ?_
  refine lv_topi (fun x1 ex1 => ?_)
  replace h := h x1 ex1
  refine lv_istore_n (lv' := [(2, .int x1), (0, .ref (gx_ad L v0)), (1, .int v1), (3, .int v3)]) hx hb dX8_waitingFor_31 rfl hl (by decide) rfl (fun ls hl => ?_)
  obtain ⟨x2, ex2⟩ : ∃ z : Int32, z = v3 + (1 : Int32) := ⟨_, rfl⟩
  replace h := h x2 ex2
  refine lv_iinc (v := x2) (lv' := [(3, .int x2), (2, .int x1), (0, .ref (gx_ad L v0)), (1, .int v1)]) hx hb dX8_waitingFor_32 hl (k := 3) rfl (by rw [ex2]; rfl) (by decide) rfl (fun ls hl => ?_)
  refine lv_goto (tgt := 4) hx hb dX8_waitingFor_35 (by decide) ?_
  exact hK4 v0 v1 x1 x2 (hv0) I _ _ _ hM (lv_sub hl [2, 3, 1, 0] rfl) h
set_option maxHeartbeats 4000000 in
set_option maxRecDepth 100000 in
theorem tl_X8_waitingFor_4 (C : gx_C L 7 p s m args meth c RX8 cX8_waitingFor 4 (some .int)) {Q : Int32 → gx_MM → Prop} : ∀ (fu : Nat) (v0 : Nat) (v1 : Int32) (v2 : Int32) (v3 : Int32) (hv0 : kM v0 = 8) (I : gx_MM) (H : Heap) (locs : List Loc) (ls : Array Slot), gx_S L 7 (cellM L I) s.heap H locs → lv_has ls 4 [(0, .ref (gx_ad L v0)), (1, .int v1), (2, .int v2), (3, .int v3)] → wl_X8_waitingFor_4 Q fu v0 v1 v2 v3 I → W p l e rm_X8_waitingFor s m args below meth c H locs 0 0 (MQ below (va_Qi Q (fun I' t => gx_U L 7 (cellM L I') t) (gx_A L)) args s 0 0 (gx_A L)) (F0 m 4 ls []) := by
  have hx := C.1
  have hb := C.2.1
  intro fu
  induction fu with
  | zero => intros; rename_i h; exact False.elim h
  | succ fu ih =>
    intro v0 v1 v2 v3 hv0 I H locs ls hM hl h
    rw [wl_X8_waitingFor_4] at h
    refine lv_iload_n hx hb dX8_waitingFor_4 rfl (lv_at hl 3 rfl) ?_
    refine lv_aload_n hx hb dX8_waitingFor_5 rfl (lv_at hl 0 rfl) ?_
    refine gX8_0 C hM hv0 gw_719 dX8_waitingFor_6 ?_
    refine lv_iconst (v := (4 : Int32)) hx hb dX8_waitingFor_9 (by decide) ?_
    refine gialdM C hM (kM_8_0 hv0) h.1 dX8_waitingFor_10 ?_
    replace h := h.2
    refine lv_icmp_ge (tgt := 38) hx hb dX8_waitingFor_11 (by decide) (fun hc => ?_) (fun hc => ?_)
    · replace h := h.1 hc
      refine lv_iload_n hx hb dX8_waitingFor_38 rfl (lv_at hl 2 rfl) ?_
      exact gq_iret C hM h dX8_waitingFor_39
    · replace h := h.2 hc
      refine lv_iload_n hx hb dX8_waitingFor_14 rfl (lv_at hl 2 rfl) ?_
      refine lv_aload_n hx hb dX8_waitingFor_15 rfl (lv_at hl 0 rfl) ?_
      refine lv_iload_n hx hb dX8_waitingFor_16 rfl (lv_at hl 3 rfl) ?_
      refine lv_iconst (v := (2 : Int32)) hx hb dX8_waitingFor_17 (by decide) ?_
      refine gq_backi C hM (gq_runV (As := [.int v3, .int (2 : Int32)]) (rest := [.int v2]) C hM (kM_lt hv0 (by decide)) (cM_8 hv0) rfl (c_X8_ofJob l L v0 hv0 v3 (2 : Int32) I _ h) k_X8_ofJob gw_877 rfl hl.1 rfl (Nat.le_of_ble_eq_true rfl) ⟨⟨rfl, rfl⟩, Nat.le_of_ble_eq_true rfl, Nat.le_of_ble_eq_true rfl⟩ ⟨Nat.zero_le _, Nat.zero_le _⟩ dX8_waitingFor_18) (fun r1 I1 H locs h hM => ?_)
      refine lv_iload_n hx hb dX8_waitingFor_21 rfl (lv_at hl 1 rfl) ?_
      refine lv_icmp_ne (tgt := 29) hx hb dX8_waitingFor_22 (by decide) (fun hc => ?_) (fun hc => ?_)
      · replace h := h.2 hc
        refine lv_iconst (v := (0 : Int32)) hx hb dX8_waitingFor_29 (by decide) ?_
        exact tj_X8_waitingFor_30 C ih v0 v1 v3 (0 : Int32) v2 (hv0) I1 _ _ _ hM (lv_sub hl [0, 1, 3] rfl) h
      · replace h := h.1 hc
        refine lv_iconst (v := (1 : Int32)) hx hb dX8_waitingFor_25 (by decide) ?_
        refine lv_goto (tgt := 30) hx hb dX8_waitingFor_26 (by decide) ?_
        exact tj_X8_waitingFor_30 C ih v0 v1 v3 (1 : Int32) v2 (hv0) I1 _ _ _ hM (lv_sub hl [0, 1, 3] rfl) h
set_option maxHeartbeats 4000000 in
set_option maxRecDepth 100000 in
theorem c_X8_waitingFor (l : Launch) (L : gx_L) (a0 : Nat) (hk0 : kM a0 = 8) (p0 : Int32) (I : gx_MM) (Q : Int32 → gx_MM → Prop) (h : wp_X8_waitingFor a0 p0 I Q) : Met l yX8_waitingFor (gx_w yX8_waitingFor cX8_waitingFor 4 (some .int)) rm_X8_waitingFor (va_Pc [.ref (gx_ad L a0), .int p0] (gx_U L 7 (cellM L I))) (va_Qi Q (fun I' t => gx_U L 7 (cellM L I') t) (gx_A L)) 0 0 (gx_A L) := by
  refine gq_enter (by decide) (Nat.le_of_ble_eq_true rfl) (fun p e s m below meth c ls C hM hl => ?_)
  have C : gx_C L 7 p s m _ meth c RX8 cX8_waitingFor 4 (some .int) := C
  have hl : lv_has ls 4 [(0, .ref (gx_ad L a0)), (1, .int p0)] := hl
  have hx := C.1
  have hb := C.2.1
  unfold wp_X8_waitingFor at h
  refine lv_iconst (v := (0 : Int32)) hx hb dX8_waitingFor_0 (by decide) ?_
  refine lv_istore_n (lv' := [(2, .int (0 : Int32)), (0, .ref (gx_ad L a0)), (1, .int p0)]) hx hb dX8_waitingFor_1 rfl hl (by decide) rfl (fun ls hl => ?_)
  refine lv_iconst (v := (0 : Int32)) hx hb dX8_waitingFor_2 (by decide) ?_
  refine lv_istore_n (lv' := [(3, .int (0 : Int32)), (2, .int (0 : Int32)), (0, .ref (gx_ad L a0)), (1, .int p0)]) hx hb dX8_waitingFor_3 rfl hl (by decide) rfl (fun ls hl => ?_)
  obtain ⟨fu, h⟩ := h
  exact tl_X8_waitingFor_4 C fu a0 p0 (0 : Int32) (0 : Int32) (hk0) I _ _ _ hM (lv_sub hl [2, 3, 1, 0] rfl) h
theorem k_X8_waitingFor : gx_kV yX8_waitingFor cX8_waitingFor 4 (some .int) 1 := ⟨⟨gw_876, gw_67, by decide, by decide, by decide +kernel⟩, gw_875, gw_36⟩
abbrev rm_X8_cancel : Room := { frames := 2, cells := 0, slots := 0, locals := 45 }
set_option maxHeartbeats 4000000 in
set_option maxRecDepth 100000 in
theorem tj_X8_cancel_56 (C : gx_C L 7 p s m args meth c RX8 cX8_cancel 4 (some .int)) {Q : Int32 → gx_MM → Prop} {K37 : Nat → Int32 → Int32 → Int32 → gx_MM → Prop} (hK37 : ∀ (v0 : Nat) (v1 : Int32) (v2 : Int32) (v3 : Int32) (hv0 : kM v0 = 8) (I : gx_MM) (H : Heap) (locs : List Loc) (ls : Array Slot), gx_S L 7 (cellM L I) s.heap H locs → lv_has ls 4 [(0, .ref (gx_ad L v0)), (1, .int v1), (2, .int v2), (3, .int v3)] → K37 v0 v1 v2 v3 I → W p l e rm_X8_cancel s m args below meth c H locs 0 0 (MQ below (va_Qi Q (fun I' t => gx_U L 7 (cellM L I') t) (gx_A L)) args s 0 0 (gx_A L)) (F0 m 37 ls [])) : ∀ (v0 : Nat) (v1 : Int32) (v2 : Int32) (v3 : Int32) (hv0 : kM v0 = 8) (I : gx_MM) (H : Heap) (locs : List Loc) (ls : Array Slot), gx_S L 7 (cellM L I) s.heap H locs → lv_has ls 4 [(0, .ref (gx_ad L v0)), (1, .int v1), (2, .int v2), (3, .int v3)] → wj_X8_cancel_56 Q K37 v0 v1 v2 v3 I → W p l e rm_X8_cancel s m args below meth c H locs 0 0 (MQ below (va_Qi Q (fun I' t => gx_U L 7 (cellM L I') t) (gx_A L)) args s 0 0 (gx_A L)) (F0 m 56 ls []) := by
  have hx := C.1
  have hb := C.2.1
  intro v0 v1 v2 v3 hv0 I H locs ls hM hl h
  unfold wj_X8_cancel_56 at h
  obtain ⟨x1, ex1⟩ : ∃ z : Int32, z = v3 + (-1 : Int32) := ⟨_, rfl⟩
  replace h := h x1 ex1
  refine lv_iinc (v := x1) (lv' := [(3, .int x1), (0, .ref (gx_ad L v0)), (1, .int v1), (2, .int v2)]) hx hb dX8_cancel_56 hl (k := 3) rfl (by rw [ex1]; rfl) (by decide) rfl (fun ls hl => ?_)
  refine lv_goto (tgt := 37) hx hb dX8_cancel_59 (by decide) ?_
  exact hK37 v0 v1 v2 x1 (hv0) I _ _ _ hM (lv_sub hl [1, 2, 3, 0] rfl) h
set_option maxHeartbeats 4000000 in
set_option maxRecDepth 100000 in
theorem tl_X8_cancel_37 (C : gx_C L 7 p s m args meth c RX8 cX8_cancel 4 (some .int)) {Q : Int32 → gx_MM → Prop} : ∀ (fu : Nat) (v0 : Nat) (v1 : Int32) (v2 : Int32) (v3 : Int32) (hv0 : kM v0 = 8) (I : gx_MM) (H : Heap) (locs : List Loc) (ls : Array Slot), gx_S L 7 (cellM L I) s.heap H locs → lv_has ls 4 [(0, .ref (gx_ad L v0)), (1, .int v1), (2, .int v2), (3, .int v3)] → wl_X8_cancel_37 Q fu v0 v1 v2 v3 I → W p l e rm_X8_cancel s m args below meth c H locs 0 0 (MQ below (va_Qi Q (fun I' t => gx_U L 7 (cellM L I') t) (gx_A L)) args s 0 0 (gx_A L)) (F0 m 37 ls []) := by
  have hx := C.1
  have hb := C.2.1
  intro fu
  induction fu with
  | zero => intros; rename_i h; exact False.elim h
  | succ fu ih =>
    intro v0 v1 v2 v3 hv0 I H locs ls hM hl h
    rw [wl_X8_cancel_37] at h
    refine lv_iload_n hx hb dX8_cancel_37 rfl (lv_at hl 3 rfl) ?_
    refine lv_if_lt (tgt := 62) hx hb dX8_cancel_38 (by decide) (fun hc => ?_) (fun hc => ?_)
    · replace h := h.1 hc
      refine lv_iload_n hx hb dX8_cancel_62 rfl (lv_at hl 2 rfl) ?_
      exact gq_iret C hM h dX8_cancel_63
    · replace h := h.2 hc
      refine lv_aload_n hx hb dX8_cancel_41 rfl (lv_at hl 0 rfl) ?_
      refine lv_iload_n hx hb dX8_cancel_42 rfl (lv_at hl 3 rfl) ?_
      refine lv_iconst (v := (2 : Int32)) hx hb dX8_cancel_43 (by decide) ?_
      refine gq_backi C hM (gq_runV (As := [.int v3, .int (2 : Int32)]) (rest := []) C hM (kM_lt hv0 (by decide)) (cM_8 hv0) rfl (c_X8_ofJob l L v0 hv0 v3 (2 : Int32) I _ h) k_X8_ofJob gw_877 rfl hl.1 rfl (Nat.le_of_ble_eq_true rfl) ⟨⟨rfl, rfl⟩, Nat.le_of_ble_eq_true rfl, Nat.le_of_ble_eq_true rfl⟩ ⟨Nat.zero_le _, Nat.zero_le _⟩ dX8_cancel_44) (fun r1 I1 H locs h hM => ?_)
      refine lv_iload_n hx hb dX8_cancel_47 rfl (lv_at hl 1 rfl) ?_
      refine lv_icmp_ne (tgt := 56) hx hb dX8_cancel_48 (by decide) (fun hc => ?_) (fun hc => ?_)
      · replace h := h.2 hc
        exact tj_X8_cancel_56 C ih v0 v1 v2 v3 (hv0) I1 _ _ _ hM (lv_sub hl [0, 1, 2, 3] rfl) h
      · replace h := h.1 hc
        refine lv_aload_n hx hb dX8_cancel_51 rfl (lv_at hl 0 rfl) ?_
        refine lv_iload_n hx hb dX8_cancel_52 rfl (lv_at hl 3 rfl) ?_
        refine gq_backv C hM (gq_runV (As := [.int v3]) (rest := []) C hM (kM_lt hv0 (by decide)) (cM_8 hv0) rfl (c_X8_takeOut l L v0 hv0 v3 I1 _ h) k_X8_takeOut gw_881 rfl hl.1 rfl (Nat.le_of_ble_eq_true rfl) ⟨⟨rfl, rfl⟩, Nat.le_of_ble_eq_true rfl, Nat.le_of_ble_eq_true rfl⟩ ⟨Nat.zero_le _, Nat.zero_le _⟩ dX8_cancel_53) (fun I2 H locs h hM => ?_)
        exact tj_X8_cancel_56 C ih v0 v1 v2 v3 (hv0) I2 _ _ _ hM (lv_sub hl [0, 1, 2, 3] rfl) h
set_option maxHeartbeats 4000000 in
set_option maxRecDepth 100000 in
theorem c_X8_cancel (l : Launch) (L : gx_L) (a0 : Nat) (hk0 : kM a0 = 8) (p0 : Int32) (I : gx_MM) (Q : Int32 → gx_MM → Prop) (h : wp_X8_cancel a0 p0 I Q) : Met l yX8_cancel (gx_w yX8_cancel cX8_cancel 4 (some .int)) rm_X8_cancel (va_Pc [.ref (gx_ad L a0), .int p0] (gx_U L 7 (cellM L I))) (va_Qi Q (fun I' t => gx_U L 7 (cellM L I') t) (gx_A L)) 0 0 (gx_A L) := by
  refine gq_enter (by decide) (Nat.le_of_ble_eq_true rfl) (fun p e s m below meth c ls C hM hl => ?_)
  have C : gx_C L 7 p s m _ meth c RX8 cX8_cancel 4 (some .int) := C
  have hl : lv_has ls 4 [(0, .ref (gx_ad L a0)), (1, .int p0)] := hl
  have hx := C.1
  have hb := C.2.1
  unfold wp_X8_cancel at h
  refine lv_aload_n hx hb dX8_cancel_0 rfl (lv_at hl 0 rfl) ?_
  refine lv_iload_n hx hb dX8_cancel_1 rfl (lv_at hl 1 rfl) ?_
  refine gq_backi C hM (gq_runV (As := [.int p0]) (rest := []) C hM (kM_lt hk0 (by decide)) (cM_8 hk0) rfl (c_X8_noRosette l L a0 hk0 p0 I _ h) k_X8_noRosette gw_810 rfl hl.1 rfl (Nat.le_of_ble_eq_true rfl) ⟨⟨rfl, rfl⟩, Nat.le_of_ble_eq_true rfl, Nat.le_of_ble_eq_true rfl⟩ ⟨Nat.zero_le _, Nat.zero_le _⟩ dX8_cancel_2) (fun r1 I1 H locs h hM => ?_)
  obtain ⟨hz1, h⟩ := h
  refine lv_if_eq (tgt := 11) hx hb dX8_cancel_5 (by decide) (fun hc => ?_) (fun hc => ?_)
  · replace h := h.1 hc
    refine lv_aload_n hx hb dX8_cancel_11 rfl (lv_at hl 0 rfl) ?_
    refine lv_iload_n hx hb dX8_cancel_12 rfl (lv_at hl 1 rfl) ?_
    refine gq_backi C hM (gq_runV (As := [.int p0]) (rest := []) C hM (kM_lt hk0 (by decide)) (cM_8 hk0) rfl (c_X8_waitingFor l L a0 hk0 p0 I1 _ h) k_X8_waitingFor gw_873 rfl hl.1 rfl (Nat.le_of_ble_eq_true rfl) ⟨⟨rfl, rfl⟩, Nat.le_of_ble_eq_true rfl, Nat.le_of_ble_eq_true rfl⟩ ⟨Nat.zero_le _, Nat.zero_le _⟩ dX8_cancel_13) (fun r2 I2 H locs h hM => ?_)
    refine lv_istore_n (lv' := [(2, .int r2), (0, .ref (gx_ad L a0)), (1, .int p0)]) hx hb dX8_cancel_16 rfl hl (by decide) rfl (fun ls hl => ?_)
    refine lv_iload_n hx hb dX8_cancel_17 rfl (lv_at hl 0 rfl) ?_
    refine lv_if_ne (tgt := 24) hx hb dX8_cancel_18 (by decide) (fun hc => ?_) (fun hc => ?_)
    · replace h := h.2 hc
      refine lv_aload_n hx hb dX8_cancel_24 rfl (lv_at hl 1 rfl) ?_
      refine gq_backv C hM (gq_runV (As := []) (rest := []) C hM (kM_lt hk0 (by decide)) (cM_8 hk0) rfl (c_X8_save l L a0 hk0 I2 _ h) k_X8_save gw_794 rfl hl.1 rfl (Nat.le_of_ble_eq_true rfl) ⟨⟨rfl, rfl⟩, Nat.le_of_ble_eq_true rfl, Nat.le_of_ble_eq_true rfl⟩ ⟨Nat.zero_le _, Nat.zero_le _⟩ dX8_cancel_25) (fun I3 H locs h hM => ?_)
      refine lv_aload_n hx hb dX8_cancel_28 rfl (lv_at hl 1 rfl) ?_
      refine gX8_0 C hM hk0 gw_719 dX8_cancel_29 ?_
      refine lv_iconst (v := (4 : Int32)) hx hb dX8_cancel_32 (by decide) ?_
      refine gialdM C hM (kM_8_0 hk0) h.1 dX8_cancel_33 ?_
      replace h := h.2
      refine lv_iconst (v := (1 : Int32)) hx hb dX8_cancel_34 (by decide) ?_
      refine lv_isub hx hb dX8_cancel_35 ?_
      refine lv_topi (fun x1 ex1 => ?_)
      replace h := h x1 ex1
      refine lv_istore_n (lv' := [(3, .int x1), (2, .int r2), (0, .ref (gx_ad L a0)), (1, .int p0)]) hx hb dX8_cancel_36 rfl hl (by decide) rfl (fun ls hl => ?_)
      obtain ⟨fu, h⟩ := h
      exact tl_X8_cancel_37 C fu a0 p0 r2 x1 (hk0) I3 _ _ _ hM (lv_sub hl [2, 3, 1, 0] rfl) h
    · replace h := h.1 hc
      refine gq_ldc (v := (-1000004 : Int32)) C gw_793 dX8_cancel_21 ?_
      exact gq_iret C hM h dX8_cancel_23
  · replace h := h.2 hc
    refine gq_ldc (v := (-1000001 : Int32)) C gw_814 dX8_cancel_8 ?_
    exact gq_iret C hM h dX8_cancel_10
theorem k_X8_cancel : gx_kV yX8_cancel cX8_cancel 4 (some .int) 1 := ⟨⟨gw_872, gw_67, by decide, by decide, by decide +kernel⟩, gw_870, gw_871⟩
abbrev rm_X8_clearText : Room := { frames := 0, cells := 0, slots := 0, locals := 0 }
set_option maxHeartbeats 4000000 in
set_option maxRecDepth 100000 in
theorem c_X8_clearText (l : Launch) (L : gx_L) (a0 : Nat) (hk0 : kM a0 = 8) (I : gx_MM) (Q : Int32 → gx_MM → Prop) (h : wp_X8_clearText a0 I Q) : Met l yX8_clearText (gx_w yX8_clearText cX8_clearText 2 (some .int)) rm_X8_clearText (va_Pc [.ref (gx_ad L a0)] (gx_U L 7 (cellM L I))) (va_Qi Q (fun I' t => gx_U L 7 (cellM L I') t) (gx_A L)) 0 0 (gx_A L) := by
  refine gq_enter (by decide) (Nat.le_of_ble_eq_true rfl) (fun p e s m below meth c ls C hM hl => ?_)
  have C : gx_C L 7 p s m _ meth c RX8 cX8_clearText 2 (some .int) := C
  have hl : lv_has ls 2 [(0, .ref (gx_ad L a0))] := hl
  have hx := C.1
  have hb := C.2.1
  unfold wp_X8_clearText at h
  refine lv_aload_n hx hb dX8_clearText_0 rfl (lv_at hl 0 rfl) ?_
  refine gX8_12 C hM hk0 gw_731 dX8_clearText_1 ?_
  refine lv_topi (fun x1 ex1 => ?_)
  replace h := h x1 ex1
  refine lv_istore_n (lv' := [(1, .int x1), (0, .ref (gx_ad L a0))]) hx hb dX8_clearText_4 rfl hl (by decide) rfl (fun ls hl => ?_)
  refine lv_aload_n hx hb dX8_clearText_5 rfl (lv_at hl 1 rfl) ?_
  refine lv_iconst (v := (0 : Int32)) hx hb dX8_clearText_6 (by decide) ?_
  obtain ⟨I1, eI1⟩ : ∃ z : gx_MM, z = um I a0 12 (0 : Int32) := ⟨_, rfl⟩
  replace h := h I1 eI1
  refine pX8_12 C hM hk0 eI1 gw_731 dX8_clearText_7 (fun H locs hM => ?_)
  refine lv_iload_n hx hb dX8_clearText_10 rfl (lv_at hl 0 rfl) ?_
  exact gq_iret C hM h dX8_clearText_11
theorem k_X8_clearText : gx_kV yX8_clearText cX8_clearText 2 (some .int) 0 := ⟨⟨gw_978, gw_67, by decide, by decide, by decide +kernel⟩, gw_976, gw_977⟩
abbrev rm_X8_readingOf : Room := { frames := 4, cells := 0, slots := 0, locals := 97 }
set_option maxHeartbeats 4000000 in
set_option maxRecDepth 100000 in
theorem c_X8_readingOf (l : Launch) (L : gx_L) (a0 : Nat) (hk0 : kM a0 = 8) (p0 : Int32) (p1 : Int32) (I : gx_MM) (Q : Int32 → gx_MM → Prop) (h : wp_X8_readingOf a0 p0 p1 I Q) : Met l yX8_readingOf (gx_w yX8_readingOf cX8_readingOf 3 (some .int)) rm_X8_readingOf (va_Pc [.ref (gx_ad L a0), .int p0, .int p1] (gx_U L 7 (cellM L I))) (va_Qi Q (fun I' t => gx_U L 7 (cellM L I') t) (gx_A L)) 0 0 (gx_A L) := by
  refine gq_enter (by decide) (Nat.le_of_ble_eq_true rfl) (fun p e s m below meth c ls C hM hl => ?_)
  have C : gx_C L 7 p s m _ meth c RX8 cX8_readingOf 3 (some .int) := C
  have hl : lv_has ls 3 [(0, .ref (gx_ad L a0)), (1, .int p0), (2, .int p1)] := hl
  have hx := C.1
  have hb := C.2.1
  unfold wp_X8_readingOf at h
  refine lv_aload_n hx hb dX8_readingOf_0 rfl (lv_at hl 0 rfl) ?_
  refine lv_iload_n hx hb dX8_readingOf_1 rfl (lv_at hl 1 rfl) ?_
  refine lv_iload_n hx hb dX8_readingOf_2 rfl (lv_at hl 2 rfl) ?_
  refine lv_aload_n hx hb dX8_readingOf_3 rfl (lv_at hl 0 rfl) ?_
  refine lv_iload_n hx hb dX8_readingOf_4 rfl (lv_at hl 1 rfl) ?_
  refine lv_bipush (v := (8 : Int32)) hx hb dX8_readingOf_5 (by decide) ?_
  refine gq_backi C hM (gq_runV (As := [.int p0, .int (8 : Int32)]) (rest := [.int p1, .int p0, .ref (gx_ad L a0)]) C hM (kM_lt hk0 (by decide)) (cM_8 hk0) rfl (c_X8_of l L a0 hk0 p0 (8 : Int32) I _ h) k_X8_of gw_789 rfl hl.1 rfl (Nat.le_of_ble_eq_true rfl) ⟨⟨rfl, rfl⟩, Nat.le_of_ble_eq_true rfl, Nat.le_of_ble_eq_true rfl⟩ ⟨Nat.zero_le _, Nat.zero_le _⟩ dX8_readingOf_7) (fun r1 I1 H locs h hM => ?_)
  refine gq_backi C hM (gq_runV (As := [.int p0, .int p1, .int r1]) (rest := []) C hM (kM_lt hk0 (by decide)) (cM_8 hk0) rfl (c_X8_readingBy l L a0 hk0 p0 p1 r1 I1 _ h) k_X8_readingBy gw_819 rfl hl.1 rfl (Nat.le_of_ble_eq_true rfl) ⟨⟨rfl, rfl⟩, Nat.le_of_ble_eq_true rfl, Nat.le_of_ble_eq_true rfl⟩ ⟨Nat.zero_le _, Nat.zero_le _⟩ dX8_readingOf_10) (fun r2 I2 H locs h hM => ?_)
  exact gq_iret C hM h dX8_readingOf_13
theorem k_X8_readingOf : gx_kV yX8_readingOf cX8_readingOf 3 (some .int) 2 := ⟨⟨gw_818, gw_67, by decide, by decide, by decide +kernel⟩, gw_817, gw_28⟩
abbrev rm_X8_correctedOf : Room := { frames := 5, cells := 0, slots := 0, locals := 119 }
set_option maxHeartbeats 4000000 in
set_option maxRecDepth 100000 in
theorem c_X8_correctedOf (l : Launch) (L : gx_L) (a0 : Nat) (hk0 : kM a0 = 8) (p0 : Int32) (p1 : Int32) (I : gx_MM) (Q : Int32 → gx_MM → Prop) (h : wp_X8_correctedOf a0 p0 p1 I Q) : Met l yX8_correctedOf (gx_w yX8_correctedOf cX8_correctedOf 5 (some .int)) rm_X8_correctedOf (va_Pc [.ref (gx_ad L a0), .int p0, .int p1] (gx_U L 7 (cellM L I))) (va_Qi Q (fun I' t => gx_U L 7 (cellM L I') t) (gx_A L)) 0 0 (gx_A L) := by
  refine gq_enter (by decide) (Nat.le_of_ble_eq_true rfl) (fun p e s m below meth c ls C hM hl => ?_)
  have C : gx_C L 7 p s m _ meth c RX8 cX8_correctedOf 5 (some .int) := C
  have hl : lv_has ls 5 [(0, .ref (gx_ad L a0)), (1, .int p0), (2, .int p1)] := hl
  have hx := C.1
  have hb := C.2.1
  unfold wp_X8_correctedOf at h
  refine lv_aload_n hx hb dX8_correctedOf_0 rfl (lv_at hl 0 rfl) ?_
  refine lv_iload_n hx hb dX8_correctedOf_1 rfl (lv_at hl 1 rfl) ?_
  refine lv_iload_n hx hb dX8_correctedOf_2 rfl (lv_at hl 2 rfl) ?_
  refine gq_backi C hM (gq_runV (As := [.int p0, .int p1]) (rest := []) C hM (kM_lt hk0 (by decide)) (cM_8 hk0) rfl (c_X8_readingOf l L a0 hk0 p0 p1 I _ h) k_X8_readingOf gw_815 rfl hl.1 rfl (Nat.le_of_ble_eq_true rfl) ⟨⟨rfl, rfl⟩, Nat.le_of_ble_eq_true rfl, Nat.le_of_ble_eq_true rfl⟩ ⟨Nat.zero_le _, Nat.zero_le _⟩ dX8_correctedOf_3) (fun r1 I1 H locs h hM => ?_)
  refine lv_i2l hx hb dX8_correctedOf_6 rfl ?_
  refine lv_aload_n hx hb dX8_correctedOf_7 rfl (lv_at hl 0 rfl) ?_
  refine lv_iload_n hx hb dX8_correctedOf_8 rfl (lv_at hl 1 rfl) ?_
  refine lv_iload_n hx hb dX8_correctedOf_9 rfl (lv_at hl 2 rfl) ?_
  refine lv_iconst (v := (2 : Int32)) hx hb dX8_correctedOf_10 (by decide) ?_
  refine gq_backi C hM (gq_runV (As := [.int p0, .int p1, .int (2 : Int32)]) (rest := [.long (Int32.toInt64 r1)]) C hM (kM_lt hk0 (by decide)) (cM_8 hk0) rfl (c_X8_ofGauge l L a0 hk0 p0 p1 (2 : Int32) I1 _ h) k_X8_ofGauge gw_827 rfl hl.1 rfl (Nat.le_of_ble_eq_true rfl) ⟨⟨rfl, rfl⟩, Nat.le_of_ble_eq_true rfl, Nat.le_of_ble_eq_true rfl⟩ ⟨Nat.zero_le _, Nat.zero_le _⟩ dX8_correctedOf_11) (fun r2 I2 H locs h hM => ?_)
  refine lv_i2l hx hb dX8_correctedOf_14 rfl ?_
  refine lv_lmul hx hb dX8_correctedOf_15 ?_
  refine gq_ldc2 (v := (1000 : Int64)) C gw_835 dX8_correctedOf_16 ?_
  refine lv_ldiv hx hb dX8_correctedOf_19 (by decide) ?_
  refine lv_topl (fun x1 ex1 => ?_)
  replace h := h x1 ex1
  refine lv_lstore_n (lv' := [(3, .long x1), (0, .ref (gx_ad L a0)), (1, .int p0), (2, .int p1)]) hx hb dX8_correctedOf_20 rfl hl (by decide) rfl (fun ls hl => ?_)
  refine lv_lload_n hx hb dX8_correctedOf_21 rfl (lv_at hl 0 rfl) ?_
  refine gq_ldc2 (v := (100 : Int64)) C gw_936 dX8_correctedOf_22 ?_
  refine lv_lmul hx hb dX8_correctedOf_25 ?_
  refine lv_aload_n hx hb dX8_correctedOf_26 rfl (lv_at hl 1 rfl) ?_
  refine lv_iload_n hx hb dX8_correctedOf_27 rfl (lv_at hl 2 rfl) ?_
  refine lv_iconst (v := (3 : Int32)) hx hb dX8_correctedOf_28 (by decide) ?_
  refine gq_backi C hM (gq_runV (As := [.int p0, .int (3 : Int32)]) (rest := [.long (x1 * (100 : Int64))]) C hM (kM_lt hk0 (by decide)) (cM_8 hk0) rfl (c_X8_of l L a0 hk0 p0 (3 : Int32) I2 _ h) k_X8_of gw_789 rfl hl.1 rfl (Nat.le_of_ble_eq_true rfl) ⟨⟨rfl, rfl⟩, Nat.le_of_ble_eq_true rfl, Nat.le_of_ble_eq_true rfl⟩ ⟨Nat.zero_le _, Nat.zero_le _⟩ dX8_correctedOf_29) (fun r3 I3 H locs h hM => ?_)
  refine lv_i2l hx hb dX8_correctedOf_32 rfl ?_
  refine lv_ldiv hx hb dX8_correctedOf_33 h.1 ?_
  replace h := h.2
  refine lv_l2i hx hb dX8_correctedOf_34 rfl ?_
  exact gq_iret C hM h dX8_correctedOf_35
theorem k_X8_correctedOf : gx_kV yX8_correctedOf cX8_correctedOf 5 (some .int) 2 := ⟨⟨gw_935, gw_67, by decide, by decide, by decide +kernel⟩, gw_934, gw_49⟩
abbrev rm_X8_firstOf : Room := { frames := 0, cells := 0, slots := 0, locals := 0 }
set_option maxHeartbeats 4000000 in
set_option maxRecDepth 100000 in
theorem c_X8_firstOf (l : Launch) (L : gx_L) (p0 : Int32) (I : gx_MM) (Q : Int32 → gx_MM → Prop) (h : wp_X8_firstOf p0 I Q) : Met l yX8_firstOf (gx_w yX8_firstOf cX8_firstOf 1 (some .int)) rm_X8_firstOf (va_Pc [.int p0] (gx_U L 7 (cellM L I))) (va_Qi Q (fun I' t => gx_U L 7 (cellM L I') t) (gx_A L)) 0 0 (gx_A L) := by
  refine gq_enter (by decide) (Nat.le_of_ble_eq_true rfl) (fun p e s m below meth c ls C hM hl => ?_)
  have C : gx_C L 7 p s m _ meth c RX8 cX8_firstOf 1 (some .int) := C
  have hl : lv_has ls 1 [(0, .int p0)] := hl
  have hx := C.1
  have hb := C.2.1
  unfold wp_X8_firstOf at h
  refine lv_iload_n hx hb dX8_firstOf_0 rfl (lv_at hl 0 rfl) ?_
  by_cases hs0 : p0 = (0 : Int32)
  · replace h := h.1 hs0
    refine lv_tableIn (tgt := 40) hx hb dX8_firstOf_1 (by rw [hs0]; decide) (by rw [hs0]; decide) (by rw [hs0]; rfl) (by decide) ?_
    refine lv_sipush (v := (10000 : Int32)) hx hb dX8_firstOf_40 (by decide) ?_
    exact gq_iret C hM h dX8_firstOf_43
  by_cases hs1 : p0 = (1 : Int32)
  · replace h := h.2.1 hs1
    refine lv_tableIn (tgt := 44) hx hb dX8_firstOf_1 (by rw [hs1]; decide) (by rw [hs1]; decide) (by rw [hs1]; rfl) (by decide) ?_
    refine lv_sipush (v := (9659 : Int32)) hx hb dX8_firstOf_44 (by decide) ?_
    exact gq_iret C hM h dX8_firstOf_47
  by_cases hs2 : p0 = (2 : Int32)
  · replace h := h.2.2.1 hs2
    refine lv_tableIn (tgt := 48) hx hb dX8_firstOf_1 (by rw [hs2]; decide) (by rw [hs2]; decide) (by rw [hs2]; rfl) (by decide) ?_
    refine lv_sipush (v := (8660 : Int32)) hx hb dX8_firstOf_48 (by decide) ?_
    exact gq_iret C hM h dX8_firstOf_51
  by_cases hs3 : p0 = (3 : Int32)
  · replace h := h.2.2.2.1 hs3
    refine lv_tableIn (tgt := 52) hx hb dX8_firstOf_1 (by rw [hs3]; decide) (by rw [hs3]; decide) (by rw [hs3]; rfl) (by decide) ?_
    refine lv_sipush (v := (7071 : Int32)) hx hb dX8_firstOf_52 (by decide) ?_
    exact gq_iret C hM h dX8_firstOf_55
  by_cases hs4 : p0 = (4 : Int32)
  · replace h := h.2.2.2.2.1 hs4
    refine lv_tableIn (tgt := 56) hx hb dX8_firstOf_1 (by rw [hs4]; decide) (by rw [hs4]; decide) (by rw [hs4]; rfl) (by decide) ?_
    refine lv_sipush (v := (5000 : Int32)) hx hb dX8_firstOf_56 (by decide) ?_
    exact gq_iret C hM h dX8_firstOf_59
  by_cases hs5 : p0 = (5 : Int32)
  · replace h := h.2.2.2.2.2.1 hs5
    refine lv_tableIn (tgt := 60) hx hb dX8_firstOf_1 (by rw [hs5]; decide) (by rw [hs5]; decide) (by rw [hs5]; rfl) (by decide) ?_
    refine lv_sipush (v := (2588 : Int32)) hx hb dX8_firstOf_60 (by decide) ?_
    exact gq_iret C hM h dX8_firstOf_63
  replace h := h.2.2.2.2.2.2 hs0 hs1 hs2 hs3 hs4 hs5
  refine lv_tableOut (tgt := 64) hx hb dX8_firstOf_1 (by have q0 := lv_neT (a := 0) hs0 (by decide); have q1 := lv_neT (a := 1) hs1 (by decide); have q2 := lv_neT (a := 2) hs2 (by decide); have q3 := lv_neT (a := 3) hs3 (by decide); have q4 := lv_neT (a := 4) hs4 (by decide); have q5 := lv_neT (a := 5) hs5 (by decide); omega) (by decide) ?_
  refine lv_iconst (v := (0 : Int32)) hx hb dX8_firstOf_64 (by decide) ?_
  exact gq_iret C hM h dX8_firstOf_65
theorem k_X8_firstOf : gx_kS yX8_firstOf cX8_firstOf 1 (some .int) 1 := ⟨⟨gw_950, gw_67, by decide, by decide, by decide +kernel⟩, gw_949⟩
abbrev rm_X8_cos : Room := { frames := 1, cells := 0, slots := 0, locals := 20 }
set_option maxHeartbeats 4000000 in
set_option maxRecDepth 100000 in
theorem tj_X8_cos_14 (C : gx_C L 7 p s m args meth c RX8 cX8_cos 2 (some .int)) {Q : Int32 → gx_MM → Prop} : ∀ (u0 : Int32) (I : gx_MM) (H : Heap) (locs : List Loc) (ls : Array Slot), gx_S L 7 (cellM L I) s.heap H locs → lv_has ls 2 [] → wj_X8_cos_14 Q u0 I → W p l e rm_X8_cos s m args below meth c H locs 0 0 (MQ below (va_Qi Q (fun I' t => gx_U L 7 (cellM L I') t) (gx_A L)) args s 0 0 (gx_A L)) (F0 m 14 ls [.int u0]) := by
  have hx := C.1
  have hb := C.2.1
  intro u0  I H locs ls hM hl h
  unfold wj_X8_cos_14 at h
  refine lv_istore_n (lv' := [(1, .int u0)]) hx hb dX8_cos_14 rfl hl (by decide) rfl (fun ls hl => ?_)
  refine lv_iload_n hx hb dX8_cos_15 rfl (lv_at hl 0 rfl) ?_
  refine lv_bipush (v := (6 : Int32)) hx hb dX8_cos_16 (by decide) ?_
  refine lv_icmp_gt (tgt := 28) hx hb dX8_cos_18 (by decide) (fun hc => ?_) (fun hc => ?_)
  · replace h := h.1 hc
    refine lv_bipush (v := (12 : Int32)) hx hb dX8_cos_28 (by decide) ?_
    refine lv_iload_n hx hb dX8_cos_30 rfl (lv_at hl 0 rfl) ?_
    refine lv_isub hx hb dX8_cos_31 ?_
    refine gq_backi C hM (gq_runS (As := [.int ((12 : Int32) - u0)]) (rest := []) C hM (c_X8_firstOf l L ((12 : Int32) - u0) I _ h) k_X8_firstOf gw_948 rfl hl.1 rfl (Nat.le_of_ble_eq_true rfl) ⟨⟨rfl, rfl⟩, Nat.le_of_ble_eq_true rfl, Nat.le_of_ble_eq_true rfl⟩ ⟨Nat.zero_le _, Nat.zero_le _⟩ dX8_cos_32) (fun r1 I1 H locs h hM => ?_)
    refine lv_ineg hx hb dX8_cos_35 ?_
    exact gq_iret C hM h dX8_cos_36
  · replace h := h.2 hc
    refine lv_iload_n hx hb dX8_cos_21 rfl (lv_at hl 0 rfl) ?_
    refine gq_backi C hM (gq_runS (As := [.int u0]) (rest := []) C hM (c_X8_firstOf l L u0 I _ h) k_X8_firstOf gw_948 rfl hl.1 rfl (Nat.le_of_ble_eq_true rfl) ⟨⟨rfl, rfl⟩, Nat.le_of_ble_eq_true rfl, Nat.le_of_ble_eq_true rfl⟩ ⟨Nat.zero_le _, Nat.zero_le _⟩ dX8_cos_22) (fun r2 I2 H locs h hM => ?_)
    refine lv_goto (tgt := 36) hx hb dX8_cos_25 (by decide) ?_
    exact gq_iret C hM h dX8_cos_36
set_option maxHeartbeats 4000000 in
set_option maxRecDepth 100000 in
theorem c_X8_cos (l : Launch) (L : gx_L) (p0 : Int32) (I : gx_MM) (Q : Int32 → gx_MM → Prop) (h : wp_X8_cos p0 I Q) : Met l yX8_cos (gx_w yX8_cos cX8_cos 2 (some .int)) rm_X8_cos (va_Pc [.int p0] (gx_U L 7 (cellM L I))) (va_Qi Q (fun I' t => gx_U L 7 (cellM L I') t) (gx_A L)) 0 0 (gx_A L) := by
  refine gq_enter (by decide) (Nat.le_of_ble_eq_true rfl) (fun p e s m below meth c ls C hM hl => ?_)
  have C : gx_C L 7 p s m _ meth c RX8 cX8_cos 2 (some .int) := C
  have hl : lv_has ls 2 [(0, .int p0)] := hl
  have hx := C.1
  have hb := C.2.1
  unfold wp_X8_cos at h
  refine lv_iload_n hx hb dX8_cos_0 rfl (lv_at hl 0 rfl) ?_
  refine lv_bipush (v := (12 : Int32)) hx hb dX8_cos_1 (by decide) ?_
  refine lv_icmp_le (tgt := 13) hx hb dX8_cos_3 (by decide) (fun hc => ?_) (fun hc => ?_)
  · replace h := h.1 hc
    refine lv_iload_n hx hb dX8_cos_13 rfl (lv_at hl 0 rfl) ?_
    exact tj_X8_cos_14 C p0 I _ _ _ hM (lv_sub hl [] rfl) h
  · replace h := h.2 hc
    refine lv_bipush (v := (24 : Int32)) hx hb dX8_cos_6 (by decide) ?_
    refine lv_iload_n hx hb dX8_cos_8 rfl (lv_at hl 0 rfl) ?_
    refine lv_isub hx hb dX8_cos_9 ?_
    refine lv_goto (tgt := 14) hx hb dX8_cos_10 (by decide) ?_
    exact tj_X8_cos_14 C ((24 : Int32) - p0) I _ _ _ hM (lv_sub hl [] rfl) h
theorem k_X8_cos : gx_kS yX8_cos cX8_cos 2 (some .int) 1 := ⟨⟨gw_947, gw_67, by decide, by decide, by decide +kernel⟩, gw_946⟩
abbrev rm_X8_count : Room := { frames := 0, cells := 0, slots := 0, locals := 0 }
set_option maxHeartbeats 4000000 in
set_option maxRecDepth 100000 in
theorem c_X8_count (l : Launch) (L : gx_L) (a0 : Nat) (hk0 : kM a0 = 8) (p0 : Int32) (I : gx_MM) (Q : Int32 → gx_MM → Prop) (h : wp_X8_count a0 p0 I Q) : Met l yX8_count (gx_w yX8_count cX8_count 2 (some .int)) rm_X8_count (va_Pc [.ref (gx_ad L a0), .int p0] (gx_U L 7 (cellM L I))) (va_Qi Q (fun I' t => gx_U L 7 (cellM L I') t) (gx_A L)) 0 0 (gx_A L) := by
  refine gq_enter (by decide) (Nat.le_of_ble_eq_true rfl) (fun p e s m below meth c ls C hM hl => ?_)
  have C : gx_C L 7 p s m _ meth c RX8 cX8_count 2 (some .int) := C
  have hl : lv_has ls 2 [(0, .ref (gx_ad L a0)), (1, .int p0)] := hl
  have hx := C.1
  have hb := C.2.1
  unfold wp_X8_count at h
  refine lv_iload_n hx hb dX8_count_0 rfl (lv_at hl 1 rfl) ?_
  by_cases hs0 : p0 = (0 : Int32)
  · replace h := h.1 hs0
    refine lv_tableIn (tgt := 64) hx hb dX8_count_1 (by rw [hs0]; decide) (by rw [hs0]; decide) (by rw [hs0]; rfl) (by decide) ?_
    refine lv_aload_n hx hb dX8_count_64 rfl (lv_at hl 0 rfl) ?_
    refine gX8_0 C hM hk0 gw_719 dX8_count_65 ?_
    refine lv_iconst (v := (0 : Int32)) hx hb dX8_count_68 (by decide) ?_
    refine gialdM C hM (kM_8_0 hk0) h.1 dX8_count_69 ?_
    replace h := h.2
    exact gq_iret C hM h dX8_count_70
  by_cases hs1 : p0 = (1 : Int32)
  · replace h := h.2.1 hs1
    refine lv_tableIn (tgt := 71) hx hb dX8_count_1 (by rw [hs1]; decide) (by rw [hs1]; decide) (by rw [hs1]; rfl) (by decide) ?_
    refine lv_aload_n hx hb dX8_count_71 rfl (lv_at hl 0 rfl) ?_
    refine gX8_0 C hM hk0 gw_719 dX8_count_72 ?_
    refine lv_iconst (v := (4 : Int32)) hx hb dX8_count_75 (by decide) ?_
    refine gialdM C hM (kM_8_0 hk0) h.1 dX8_count_76 ?_
    replace h := h.2
    exact gq_iret C hM h dX8_count_77
  by_cases hs2 : p0 = (2 : Int32)
  · replace h := h.2.2.1 hs2
    refine lv_tableIn (tgt := 78) hx hb dX8_count_1 (by rw [hs2]; decide) (by rw [hs2]; decide) (by rw [hs2]; rfl) (by decide) ?_
    refine lv_aload_n hx hb dX8_count_78 rfl (lv_at hl 0 rfl) ?_
    refine gX8_0 C hM hk0 gw_719 dX8_count_79 ?_
    refine lv_iconst (v := (5 : Int32)) hx hb dX8_count_82 (by decide) ?_
    refine gialdM C hM (kM_8_0 hk0) h.1 dX8_count_83 ?_
    replace h := h.2
    exact gq_iret C hM h dX8_count_84
  by_cases hs3 : p0 = (3 : Int32)
  · replace h := h.2.2.2.1 hs3
    refine lv_tableIn (tgt := 85) hx hb dX8_count_1 (by rw [hs3]; decide) (by rw [hs3]; decide) (by rw [hs3]; rfl) (by decide) ?_
    refine lv_aload_n hx hb dX8_count_85 rfl (lv_at hl 0 rfl) ?_
    refine gX8_0 C hM hk0 gw_719 dX8_count_86 ?_
    refine lv_bipush (v := (6 : Int32)) hx hb dX8_count_89 (by decide) ?_
    refine gialdM C hM (kM_8_0 hk0) h.1 dX8_count_91 ?_
    replace h := h.2
    exact gq_iret C hM h dX8_count_92
  by_cases hs4 : p0 = (4 : Int32)
  · replace h := h.2.2.2.2.1 hs4
    refine lv_tableIn (tgt := 93) hx hb dX8_count_1 (by rw [hs4]; decide) (by rw [hs4]; decide) (by rw [hs4]; rfl) (by decide) ?_
    refine lv_aload_n hx hb dX8_count_93 rfl (lv_at hl 0 rfl) ?_
    refine gX8_0 C hM hk0 gw_719 dX8_count_94 ?_
    refine lv_bipush (v := (7 : Int32)) hx hb dX8_count_97 (by decide) ?_
    refine gialdM C hM (kM_8_0 hk0) h.1 dX8_count_99 ?_
    replace h := h.2
    exact gq_iret C hM h dX8_count_100
  by_cases hs5 : p0 = (5 : Int32)
  · replace h := h.2.2.2.2.2.1 hs5
    refine lv_tableIn (tgt := 101) hx hb dX8_count_1 (by rw [hs5]; decide) (by rw [hs5]; decide) (by rw [hs5]; rfl) (by decide) ?_
    refine lv_aload_n hx hb dX8_count_101 rfl (lv_at hl 0 rfl) ?_
    refine gX8_0 C hM hk0 gw_719 dX8_count_102 ?_
    refine lv_iconst (v := (1 : Int32)) hx hb dX8_count_105 (by decide) ?_
    refine gialdM C hM (kM_8_0 hk0) h.1 dX8_count_106 ?_
    replace h := h.2
    exact gq_iret C hM h dX8_count_107
  by_cases hs6 : p0 = (6 : Int32)
  · replace h := h.2.2.2.2.2.2.1 hs6
    refine lv_tableIn (tgt := 108) hx hb dX8_count_1 (by rw [hs6]; decide) (by rw [hs6]; decide) (by rw [hs6]; rfl) (by decide) ?_
    refine lv_aload_n hx hb dX8_count_108 rfl (lv_at hl 0 rfl) ?_
    refine gX8_0 C hM hk0 gw_719 dX8_count_109 ?_
    refine lv_iconst (v := (2 : Int32)) hx hb dX8_count_112 (by decide) ?_
    refine gialdM C hM (kM_8_0 hk0) h.1 dX8_count_113 ?_
    replace h := h.2
    exact gq_iret C hM h dX8_count_114
  by_cases hs7 : p0 = (7 : Int32)
  · replace h := h.2.2.2.2.2.2.2.1 hs7
    refine lv_tableIn (tgt := 115) hx hb dX8_count_1 (by rw [hs7]; decide) (by rw [hs7]; decide) (by rw [hs7]; rfl) (by decide) ?_
    refine lv_aload_n hx hb dX8_count_115 rfl (lv_at hl 0 rfl) ?_
    refine gX8_0 C hM hk0 gw_719 dX8_count_116 ?_
    refine lv_iconst (v := (3 : Int32)) hx hb dX8_count_119 (by decide) ?_
    refine gialdM C hM (kM_8_0 hk0) h.1 dX8_count_120 ?_
    replace h := h.2
    exact gq_iret C hM h dX8_count_121
  by_cases hs8 : p0 = (8 : Int32)
  · replace h := h.2.2.2.2.2.2.2.2.1 hs8
    refine lv_tableIn (tgt := 122) hx hb dX8_count_1 (by rw [hs8]; decide) (by rw [hs8]; decide) (by rw [hs8]; rfl) (by decide) ?_
    refine lv_aload_n hx hb dX8_count_122 rfl (lv_at hl 0 rfl) ?_
    refine gX8_0 C hM hk0 gw_719 dX8_count_123 ?_
    refine lv_bipush (v := (8 : Int32)) hx hb dX8_count_126 (by decide) ?_
    refine gialdM C hM (kM_8_0 hk0) h.1 dX8_count_128 ?_
    replace h := h.2
    exact gq_iret C hM h dX8_count_129
  by_cases hs9 : p0 = (9 : Int32)
  · replace h := h.2.2.2.2.2.2.2.2.2.1 hs9
    refine lv_tableIn (tgt := 130) hx hb dX8_count_1 (by rw [hs9]; decide) (by rw [hs9]; decide) (by rw [hs9]; rfl) (by decide) ?_
    refine lv_aload_n hx hb dX8_count_130 rfl (lv_at hl 0 rfl) ?_
    refine gX8_5 C hM hk0 gw_724 dX8_count_131 ?_
    exact gq_iret C hM h dX8_count_134
  by_cases hs10 : p0 = (10 : Int32)
  · replace h := h.2.2.2.2.2.2.2.2.2.2.1 hs10
    refine lv_tableIn (tgt := 135) hx hb dX8_count_1 (by rw [hs10]; decide) (by rw [hs10]; decide) (by rw [hs10]; rfl) (by decide) ?_
    refine lv_aload_n hx hb dX8_count_135 rfl (lv_at hl 0 rfl) ?_
    refine gX8_2 C hM hk0 gw_721 dX8_count_136 ?_
    exact gq_iret C hM h dX8_count_139
  by_cases hs11 : p0 = (11 : Int32)
  · replace h := h.2.2.2.2.2.2.2.2.2.2.2.1 hs11
    refine lv_tableIn (tgt := 140) hx hb dX8_count_1 (by rw [hs11]; decide) (by rw [hs11]; decide) (by rw [hs11]; rfl) (by decide) ?_
    refine lv_aload_n hx hb dX8_count_140 rfl (lv_at hl 0 rfl) ?_
    refine gX8_12 C hM hk0 gw_731 dX8_count_141 ?_
    exact gq_iret C hM h dX8_count_144
  replace h := h.2.2.2.2.2.2.2.2.2.2.2.2 hs0 hs1 hs2 hs3 hs4 hs5 hs6 hs7 hs8 hs9 hs10 hs11
  refine lv_tableOut (tgt := 145) hx hb dX8_count_1 (by have q0 := lv_neT (a := 0) hs0 (by decide); have q1 := lv_neT (a := 1) hs1 (by decide); have q2 := lv_neT (a := 2) hs2 (by decide); have q3 := lv_neT (a := 3) hs3 (by decide); have q4 := lv_neT (a := 4) hs4 (by decide); have q5 := lv_neT (a := 5) hs5 (by decide); have q6 := lv_neT (a := 6) hs6 (by decide); have q7 := lv_neT (a := 7) hs7 (by decide); have q8 := lv_neT (a := 8) hs8 (by decide); have q9 := lv_neT (a := 9) hs9 (by decide); have q10 := lv_neT (a := 10) hs10 (by decide); have q11 := lv_neT (a := 11) hs11 (by decide); omega) (by decide) ?_
  refine gq_ldc (v := (-1000002 : Int32)) C gw_779 dX8_count_145 ?_
  exact gq_iret C hM h dX8_count_147
theorem k_X8_count : gx_kV yX8_count cX8_count 2 (some .int) 1 := ⟨⟨gw_1038, gw_67, by decide, by decide, by decide +kernel⟩, gw_1036, gw_1037⟩
abbrev rm_X8_digit : Room := { frames := 1, cells := 0, slots := 0, locals := 22 }
set_option maxHeartbeats 4000000 in
set_option maxRecDepth 100000 in
theorem c_X8_digit (l : Launch) (L : gx_L) (a0 : Nat) (hk0 : kM a0 = 8) (p0 : Int32) (I : gx_MM) (Q : Int32 → gx_MM → Prop) (h : wp_X8_digit a0 p0 I Q) : Met l yX8_digit (gx_w yX8_digit cX8_digit 2 (some .int)) rm_X8_digit (va_Pc [.ref (gx_ad L a0), .int p0] (gx_U L 7 (cellM L I))) (va_Qi Q (fun I' t => gx_U L 7 (cellM L I') t) (gx_A L)) 0 0 (gx_A L) := by
  refine gq_enter (by decide) (Nat.le_of_ble_eq_true rfl) (fun p e s m below meth c ls C hM hl => ?_)
  have C : gx_C L 7 p s m _ meth c RX8 cX8_digit 2 (some .int) := C
  have hl : lv_has ls 2 [(0, .ref (gx_ad L a0)), (1, .int p0)] := hl
  have hx := C.1
  have hb := C.2.1
  unfold wp_X8_digit at h
  refine lv_aload_n hx hb dX8_digit_0 rfl (lv_at hl 0 rfl) ?_
  refine gX8_14 C hM hk0 gw_733 dX8_digit_1 ?_
  refine lv_aload_n hx hb dX8_digit_4 rfl (lv_at hl 0 rfl) ?_
  refine gX8_12 C hM hk0 gw_731 dX8_digit_5 ?_
  refine lv_icmp_ge (tgt := 32) hx hb dX8_digit_8 (by decide) (fun hc => ?_) (fun hc => ?_)
  · replace h := h.1 hc
    refine gq_ldc (v := (-1000004 : Int32)) C gw_793 dX8_digit_32 ?_
    exact gq_iret C hM h dX8_digit_34
  · replace h := h.2 hc
    refine lv_aload_n hx hb dX8_digit_11 rfl (lv_at hl 0 rfl) ?_
    refine gX8_13 C hM hk0 gw_732 dX8_digit_12 ?_
    refine lv_aload_n hx hb dX8_digit_15 rfl (lv_at hl 0 rfl) ?_
    refine gX8_14 C hM hk0 gw_733 dX8_digit_16 ?_
    refine gcaldM C hM (kM_8_13 hk0) h.1 dX8_digit_19 ?_
    replace h := h.2
    refine lv_bipush (v := (48 : Int32)) hx hb dX8_digit_20 (by decide) ?_
    refine lv_bipush (v := (48 : Int32)) hx hb dX8_digit_22 (by decide) ?_
    refine lv_iload_n hx hb dX8_digit_24 rfl (lv_at hl 1 rfl) ?_
    refine lv_iadd hx hb dX8_digit_25 ?_
    refine gq_backi C hM (gq_runS (As := [.int (I.1 (a0 + 5) (I.1 a0 14).toNatClampNeg), .int (48 : Int32), .int ((48 : Int32) + p0)]) (rest := []) C hM (c_X8_in l L (I.1 (a0 + 5) (I.1 a0 14).toNatClampNeg) (48 : Int32) ((48 : Int32) + p0) I _ h) k_X8_in gw_776 rfl hl.1 rfl (Nat.le_of_ble_eq_true rfl) ⟨⟨rfl, rfl⟩, Nat.le_of_ble_eq_true rfl, Nat.le_of_ble_eq_true rfl⟩ ⟨Nat.zero_le _, Nat.zero_le _⟩ dX8_digit_26) (fun r1 I1 H locs h hM => ?_)
    obtain ⟨hz1, h⟩ := h
    refine lv_if_ne (tgt := 35) hx hb dX8_digit_29 (by decide) (fun hc => ?_) (fun hc => ?_)
    · replace h := h.2 hc
      refine lv_aload_n hx hb dX8_digit_35 rfl (lv_at hl 0 rfl) ?_
      refine lv_dup hx hb dX8_digit_36 rfl ?_
      refine gX8_14 C hM hk0 gw_733 dX8_digit_37 ?_
      refine lv_iconst (v := (1 : Int32)) hx hb dX8_digit_40 (by decide) ?_
      refine lv_iadd hx hb dX8_digit_41 ?_
      obtain ⟨I2, eI2⟩ : ∃ z : gx_MM, z = um I1 a0 14 ((I1.1 a0 14) + (1 : Int32)) := ⟨_, rfl⟩
      replace h := h I2 eI2
      refine pX8_14 C hM hk0 eI2 gw_733 dX8_digit_42 (fun H locs hM => ?_)
      refine lv_aload_n hx hb dX8_digit_45 rfl (lv_at hl 0 rfl) ?_
      refine gX8_13 C hM hk0 gw_732 dX8_digit_46 ?_
      refine lv_aload_n hx hb dX8_digit_49 rfl (lv_at hl 0 rfl) ?_
      refine gX8_14 C hM hk0 gw_733 dX8_digit_50 ?_
      refine lv_iconst (v := (1 : Int32)) hx hb dX8_digit_53 (by decide) ?_
      refine lv_isub hx hb dX8_digit_54 ?_
      refine gcaldM C hM (kM_8_13 hk0) h.1 dX8_digit_55 ?_
      replace h := h.2
      refine lv_bipush (v := (48 : Int32)) hx hb dX8_digit_56 (by decide) ?_
      refine lv_isub hx hb dX8_digit_58 ?_
      exact gq_iret C hM h dX8_digit_59
    · replace h := h.1 hc
      refine gq_ldc (v := (-1000004 : Int32)) C gw_793 dX8_digit_32 ?_
      exact gq_iret C hM h dX8_digit_34
theorem k_X8_digit : gx_kV yX8_digit cX8_digit 2 (some .int) 1 := ⟨⟨gw_994, gw_67, by decide, by decide, by decide +kernel⟩, gw_993, gw_56⟩
abbrev rm_X8_wayTo : Room := { frames := 1, cells := 0, slots := 0, locals := 22 }
set_option maxHeartbeats 4000000 in
set_option maxRecDepth 100000 in
theorem c_X8_wayTo (l : Launch) (L : gx_L) (a0 : Nat) (hk0 : kM a0 = 8) (p0 : Int32) (p1 : Int32) (I : gx_MM) (Q : Int32 → gx_MM → Prop) (h : wp_X8_wayTo a0 p0 p1 I Q) : Met l yX8_wayTo (gx_w yX8_wayTo cX8_wayTo 3 (some .int)) rm_X8_wayTo (va_Pc [.ref (gx_ad L a0), .int p0, .int p1] (gx_U L 7 (cellM L I))) (va_Qi Q (fun I' t => gx_U L 7 (cellM L I') t) (gx_A L)) 0 0 (gx_A L) := by
  refine gq_enter (by decide) (Nat.le_of_ble_eq_true rfl) (fun p e s m below meth c ls C hM hl => ?_)
  have C : gx_C L 7 p s m _ meth c RX8 cX8_wayTo 3 (some .int) := C
  have hl : lv_has ls 3 [(0, .ref (gx_ad L a0)), (1, .int p0), (2, .int p1)] := hl
  have hx := C.1
  have hb := C.2.1
  unfold wp_X8_wayTo at h
  refine lv_aload_n hx hb dX8_wayTo_0 rfl (lv_at hl 0 rfl) ?_
  refine lv_aload_n hx hb dX8_wayTo_1 rfl (lv_at hl 0 rfl) ?_
  refine lv_iload_n hx hb dX8_wayTo_2 rfl (lv_at hl 1 rfl) ?_
  refine lv_iconst (v := (2 : Int32)) hx hb dX8_wayTo_3 (by decide) ?_
  refine gq_backi C hM (gq_runV (As := [.int p0, .int (2 : Int32)]) (rest := [.ref (gx_ad L a0)]) C hM (kM_lt hk0 (by decide)) (cM_8 hk0) rfl (c_X8_ofJob l L a0 hk0 p0 (2 : Int32) I _ h) k_X8_ofJob gw_877 rfl hl.1 rfl (Nat.le_of_ble_eq_true rfl) ⟨⟨rfl, rfl⟩, Nat.le_of_ble_eq_true rfl, Nat.le_of_ble_eq_true rfl⟩ ⟨Nat.zero_le _, Nat.zero_le _⟩ dX8_wayTo_4) (fun r1 I1 H locs h hM => ?_)
  refine lv_iconst (v := (0 : Int32)) hx hb dX8_wayTo_7 (by decide) ?_
  refine gq_backi C hM (gq_runV (As := [.int r1, .int (0 : Int32)]) (rest := []) C hM (kM_lt hk0 (by decide)) (cM_8 hk0) rfl (c_X8_of l L a0 hk0 r1 (0 : Int32) I1 _ h) k_X8_of gw_789 rfl hl.1 rfl (Nat.le_of_ble_eq_true rfl) ⟨⟨rfl, rfl⟩, Nat.le_of_ble_eq_true rfl, Nat.le_of_ble_eq_true rfl⟩ ⟨Nat.zero_le _, Nat.zero_le _⟩ dX8_wayTo_8) (fun r2 I2 H locs h hM => ?_)
  refine lv_iload_n hx hb dX8_wayTo_11 rfl (lv_at hl 2 rfl) ?_
  refine lv_isub hx hb dX8_wayTo_12 ?_
  refine gq_backi C hM (gq_runS (As := [.int (r2 - p1)]) (rest := []) C hM (c_X8_size l L (r2 - p1) I2 _ h) k_X8_size gw_897 rfl hl.1 rfl (Nat.le_of_ble_eq_true rfl) ⟨⟨rfl, rfl⟩, Nat.le_of_ble_eq_true rfl, Nat.le_of_ble_eq_true rfl⟩ ⟨Nat.zero_le _, Nat.zero_le _⟩ dX8_wayTo_13) (fun r3 I3 H locs h hM => ?_)
  exact gq_iret C hM h dX8_wayTo_16
theorem k_X8_wayTo : gx_kV yX8_wayTo cX8_wayTo 3 (some .int) 2 := ⟨⟨gw_896, gw_67, by decide, by decide, by decide +kernel⟩, gw_895, gw_40⟩
end
