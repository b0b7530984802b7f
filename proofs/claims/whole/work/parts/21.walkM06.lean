section
variable {p : Program} {l : Launch} {e : Env} {s : State} {m : MethodId} {args : Array Value} {below : List Frame} {meth : Method} {c : Code} {L : gx_L}
abbrev rm_X8_undo : Room := { frames := 0, cells := 0, slots := 0, locals := 0 }
set_option maxHeartbeats 4000000 in
set_option maxRecDepth 100000 in
theorem tl_X8_undo_22 (C : gx_C L 7 p s m args meth c RX8 cX8_undo 2 (some .int)) {Q : Int32 → gx_MM → Prop} : ∀ (fu : Nat) (v0 : Nat) (v1 : Int32) (hv0 : kM v0 = 8) (I : gx_MM) (H : Heap) (locs : List Loc) (ls : Array Slot), gx_S L 7 (cellM L I) s.heap H locs → lv_has ls 2 [(0, .ref (gx_ad L v0)), (1, .int v1)] → wl_X8_undo_22 Q fu v0 v1 I → W p l e rm_X8_undo s m args below meth c H locs 0 0 (MQ below (va_Qi Q (fun I' t => gx_U L 7 (cellM L I') t) (gx_A L)) args s 0 0 (gx_A L)) (F0 m 22 ls []) := by
  have hx := C.1
  have hb := C.2.1
  intro fu
  induction fu with
  | zero => intros; rename_i h; exact False.elim h
  | succ fu ih =>
    intro v0 v1 hv0 I H locs ls hM hl h
    rw [wl_X8_undo_22] at h
    refine lv_iload_n hx hb dX8_undo_22 rfl (lv_at hl 1 rfl) ?_
    refine lv_sipush (v := (298 : Int32)) hx hb dX8_undo_23 (by decide) ?_
    refine lv_icmp_ge (tgt := 56) hx hb dX8_undo_26 (by decide) (fun hc => ?_) (fun hc => ?_)
    · replace h := h.1 hc
      refine lv_aload_n hx hb dX8_undo_56 rfl (lv_at hl 0 rfl) ?_
      refine gX8_2 C hM hv0 gw_721 dX8_undo_57 ?_
      exact gq_iret C hM h dX8_undo_60
    · replace h := h.2 hc
      refine lv_aload_n hx hb dX8_undo_29 rfl (lv_at hl 0 rfl) ?_
      refine gX8_0 C hM hv0 gw_719 dX8_undo_30 ?_
      refine lv_iload_n hx hb dX8_undo_33 rfl (lv_at hl 1 rfl) ?_
      refine lv_aload_n hx hb dX8_undo_34 rfl (lv_at hl 0 rfl) ?_
      refine gX8_1 C hM hv0 gw_720 dX8_undo_35 ?_
      refine lv_sipush (v := (298 : Int32)) hx hb dX8_undo_38 (by decide) ?_
      refine lv_aload_n hx hb dX8_undo_41 rfl (lv_at hl 0 rfl) ?_
      refine gX8_2 C hM hv0 gw_721 dX8_undo_42 ?_
      refine lv_imul hx hb dX8_undo_45 ?_
      refine lv_iload_n hx hb dX8_undo_46 rfl (lv_at hl 1 rfl) ?_
      refine lv_iadd hx hb dX8_undo_47 ?_
      refine gialdM C hM (kM_8_1 hv0) h.1 dX8_undo_48 ?_
      replace h := h.2
      have hi := h.1
      replace h := h.2
      obtain ⟨I1, eI1⟩ : ∃ z : gx_MM, z = um I (v0 + 1) v1.toNatClampNeg (I.1 (v0 + 2) (((298 : Int32) * (I.1 v0 2)) + v1).toNatClampNeg) := ⟨_, rfl⟩
      replace h := h I1 eI1
      refine giastM C hM (kM_8_0 hv0) hi eI1 dX8_undo_49 (fun H locs hM => ?_)
      obtain ⟨x1, ex1⟩ : ∃ z : Int32, z = v1 + (1 : Int32) := ⟨_, rfl⟩
      replace h := h x1 ex1
      refine lv_iinc (v := x1) (lv' := [(1, .int x1), (0, .ref (gx_ad L v0))]) hx hb dX8_undo_50 hl (k := 1) rfl (by rw [ex1]; rfl) (by decide) rfl (fun ls hl => ?_)
      refine lv_goto (tgt := 22) hx hb dX8_undo_53 (by decide) ?_
      exact ih v0 x1 (hv0) I1 _ _ _ hM (lv_sub hl [1, 0] rfl) h
set_option maxHeartbeats 4000000 in
set_option maxRecDepth 100000 in
theorem c_X8_undo (l : Launch) (L : gx_L) (a0 : Nat) (hk0 : kM a0 = 8) (I : gx_MM) (Q : Int32 → gx_MM → Prop) (h : wp_X8_undo a0 I Q) : Met l yX8_undo (gx_w yX8_undo cX8_undo 2 (some .int)) rm_X8_undo (va_Pc [.ref (gx_ad L a0)] (gx_U L 7 (cellM L I))) (va_Qi Q (fun I' t => gx_U L 7 (cellM L I') t) (gx_A L)) 0 0 (gx_A L) := by
  refine gq_enter (by decide) (Nat.le_of_ble_eq_true rfl) (fun p e s m below meth c ls C hM hl => ?_)
  have C : gx_C L 7 p s m _ meth c RX8 cX8_undo 2 (some .int) := C
  have hl : lv_has ls 2 [(0, .ref (gx_ad L a0))] := hl
  have hx := C.1
  have hb := C.2.1
  unfold wp_X8_undo at h
  refine lv_aload_n hx hb dX8_undo_0 rfl (lv_at hl 0 rfl) ?_
  refine gX8_2 C hM hk0 gw_721 dX8_undo_1 ?_
  refine lv_if_ne (tgt := 10) hx hb dX8_undo_4 (by decide) (fun hc => ?_) (fun hc => ?_)
  · replace h := h.2 hc
    refine lv_aload_n hx hb dX8_undo_10 rfl (lv_at hl 0 rfl) ?_
    refine lv_dup hx hb dX8_undo_11 rfl ?_
    refine gX8_2 C hM hk0 gw_721 dX8_undo_12 ?_
    refine lv_iconst (v := (1 : Int32)) hx hb dX8_undo_15 (by decide) ?_
    refine lv_isub hx hb dX8_undo_16 ?_
    obtain ⟨I1, eI1⟩ : ∃ z : gx_MM, z = um I a0 2 ((I.1 a0 2) - (1 : Int32)) := ⟨_, rfl⟩
    replace h := h I1 eI1
    refine pX8_2 C hM hk0 eI1 gw_721 dX8_undo_17 (fun H locs hM => ?_)
    refine lv_iconst (v := (0 : Int32)) hx hb dX8_undo_20 (by decide) ?_
    refine lv_istore_n (lv' := [(1, .int (0 : Int32)), (0, .ref (gx_ad L a0))]) hx hb dX8_undo_21 rfl hl (by decide) rfl (fun ls hl => ?_)
    obtain ⟨fu, h⟩ := h
    exact tl_X8_undo_22 C fu a0 (0 : Int32) (hk0) I1 _ _ _ hM (lv_sub hl [1, 0] rfl) h
  · replace h := h.1 hc
    refine gq_ldc (v := (-1000004 : Int32)) C gw_793 dX8_undo_7 ?_
    exact gq_iret C hM h dX8_undo_9
theorem k_X8_undo : gx_kV yX8_undo cX8_undo 2 (some .int) 0 := ⟨⟨gw_998, gw_67, by decide, by decide, by decide +kernel⟩, gw_996, gw_997⟩
abbrev rm_X8_workOff : Room := { frames := 9, cells := 0, slots := 0, locals := 221 }
set_option maxHeartbeats 4000000 in
set_option maxRecDepth 100000 in
theorem tj_X8_workOff_40 (C : gx_C L 7 p s m args meth c RX8 cX8_workOff 2 (some .int)) {Q : Int32 → gx_MM → Prop} {K18 : Nat → Int32 → gx_MM → Prop} (hK18 : ∀ (v0 : Nat) (v1 : Int32) (hv0 : kM v0 = 8) (I : gx_MM) (H : Heap) (locs : List Loc) (ls : Array Slot), gx_S L 7 (cellM L I) s.heap H locs → lv_has ls 2 [(0, .ref (gx_ad L v0)), (1, .int v1)] → K18 v0 v1 I → W p l e rm_X8_workOff s m args below meth c H locs 0 0 (MQ below (va_Qi Q (fun I' t => gx_U L 7 (cellM L I') t) (gx_A L)) args s 0 0 (gx_A L)) (F0 m 18 ls [])) : ∀ (v0 : Nat) (u0 : Int32) (u1 : Int32) (hv0 : kM v0 = 8) (I : gx_MM) (H : Heap) (locs : List Loc) (ls : Array Slot), gx_S L 7 (cellM L I) s.heap H locs → lv_has ls 2 [(0, .ref (gx_ad L v0))] → wj_X8_workOff_40 Q K18 v0 u0 u1 I → W p l e rm_X8_workOff s m args below meth c H locs 0 0 (MQ below (va_Qi Q (fun I' t => gx_U L 7 (cellM L I') t) (gx_A L)) args s 0 0 (gx_A L)) (F0 m 40 ls [.int u0, .int u1]) := by
  have hx := C.1
  have hb := C.2.1
  intro v0 u0 u1 hv0 I H locs ls hM hl h
  unfold wj_X8_workOff_40 at h
  refine lv_iadd hx hb dX8_workOff_40 ?_
  refine lv_topi (fun x1 ex1 => ?_)
  replace h := h x1 ex1
  refine lv_istore_n (lv' := [(1, .int x1), (0, .ref (gx_ad L v0))]) hx hb dX8_workOff_41 rfl hl (by decide) rfl (fun ls hl => ?_)
  refine lv_goto (tgt := 18) hx hb dX8_workOff_42 (by decide) ?_
  exact hK18 v0 x1 (hv0) I _ _ _ hM (lv_sub hl [1, 0] rfl) h
set_option maxHeartbeats 4000000 in
set_option maxRecDepth 100000 in
theorem tl_X8_workOff_18 (C : gx_C L 7 p s m args meth c RX8 cX8_workOff 2 (some .int)) {Q : Int32 → gx_MM → Prop} : ∀ (fu : Nat) (v0 : Nat) (v1 : Int32) (hv0 : kM v0 = 8) (I : gx_MM) (H : Heap) (locs : List Loc) (ls : Array Slot), gx_S L 7 (cellM L I) s.heap H locs → lv_has ls 2 [(0, .ref (gx_ad L v0)), (1, .int v1)] → wl_X8_workOff_18 Q fu v0 v1 I → W p l e rm_X8_workOff s m args below meth c H locs 0 0 (MQ below (va_Qi Q (fun I' t => gx_U L 7 (cellM L I') t) (gx_A L)) args s 0 0 (gx_A L)) (F0 m 18 ls []) := by
  have hx := C.1
  have hb := C.2.1
  intro fu
  induction fu with
  | zero => intros; rename_i h; exact False.elim h
  | succ fu ih =>
    intro v0 v1 hv0 I H locs ls hM hl h
    rw [wl_X8_workOff_18] at h
    refine lv_aload_n hx hb dX8_workOff_18 rfl (lv_at hl 0 rfl) ?_
    refine gX8_0 C hM hv0 gw_719 dX8_workOff_19 ?_
    refine lv_iconst (v := (4 : Int32)) hx hb dX8_workOff_22 (by decide) ?_
    refine gialdM C hM (kM_8_0 hv0) h.1 dX8_workOff_23 ?_
    replace h := h.2
    refine lv_if_le (tgt := 45) hx hb dX8_workOff_24 (by decide) (fun hc => ?_) (fun hc => ?_)
    · replace h := h.1 hc
      refine lv_iload_n hx hb dX8_workOff_45 rfl (lv_at hl 1 rfl) ?_
      exact gq_iret C hM h dX8_workOff_46
    · replace h := h.2 hc
      refine lv_iload_n hx hb dX8_workOff_27 rfl (lv_at hl 1 rfl) ?_
      refine lv_aload_n hx hb dX8_workOff_28 rfl (lv_at hl 0 rfl) ?_
      refine gq_backi C hM (gq_runV (As := []) (rest := [.int v1]) C hM (kM_lt hv0 (by decide)) (cM_8 hv0) rfl (c_X8_doNext l L v0 hv0 I _ h) k_X8_doNext gw_900 rfl hl.1 rfl (Nat.le_of_ble_eq_true rfl) ⟨⟨rfl, rfl⟩, Nat.le_of_ble_eq_true rfl, Nat.le_of_ble_eq_true rfl⟩ ⟨Nat.zero_le _, Nat.zero_le _⟩ dX8_workOff_29) (fun r1 I1 H locs h hM => ?_)
      obtain ⟨hz1, h⟩ := h
      refine lv_if_eq (tgt := 39) hx hb dX8_workOff_32 (by decide) (fun hc => ?_) (fun hc => ?_)
      · replace h := h.1 hc
        refine lv_iconst (v := (0 : Int32)) hx hb dX8_workOff_39 (by decide) ?_
        exact tj_X8_workOff_40 C ih v0 (0 : Int32) v1 (hv0) I1 _ _ _ hM (lv_sub hl [0] rfl) h
      · replace h := h.2 hc
        refine lv_iconst (v := (1 : Int32)) hx hb dX8_workOff_35 (by decide) ?_
        refine lv_goto (tgt := 40) hx hb dX8_workOff_36 (by decide) ?_
        exact tj_X8_workOff_40 C ih v0 (1 : Int32) v1 (hv0) I1 _ _ _ hM (lv_sub hl [0] rfl) h
set_option maxHeartbeats 4000000 in
set_option maxRecDepth 100000 in
theorem c_X8_workOff (l : Launch) (L : gx_L) (a0 : Nat) (hk0 : kM a0 = 8) (I : gx_MM) (Q : Int32 → gx_MM → Prop) (h : wp_X8_workOff a0 I Q) : Met l yX8_workOff (gx_w yX8_workOff cX8_workOff 2 (some .int)) rm_X8_workOff (va_Pc [.ref (gx_ad L a0)] (gx_U L 7 (cellM L I))) (va_Qi Q (fun I' t => gx_U L 7 (cellM L I') t) (gx_A L)) 0 0 (gx_A L) := by
  refine gq_enter (by decide) (Nat.le_of_ble_eq_true rfl) (fun p e s m below meth c ls C hM hl => ?_)
  have C : gx_C L 7 p s m _ meth c RX8 cX8_workOff 2 (some .int) := C
  have hl : lv_has ls 2 [(0, .ref (gx_ad L a0))] := hl
  have hx := C.1
  have hb := C.2.1
  unfold wp_X8_workOff at h
  refine lv_aload_n hx hb dX8_workOff_0 rfl (lv_at hl 0 rfl) ?_
  refine gX8_0 C hM hk0 gw_719 dX8_workOff_1 ?_
  refine lv_iconst (v := (4 : Int32)) hx hb dX8_workOff_4 (by decide) ?_
  refine gialdM C hM (kM_8_0 hk0) h.1 dX8_workOff_5 ?_
  replace h := h.2
  refine lv_if_ne (tgt := 12) hx hb dX8_workOff_6 (by decide) (fun hc => ?_) (fun hc => ?_)
  · replace h := h.2 hc
    refine lv_aload_n hx hb dX8_workOff_12 rfl (lv_at hl 0 rfl) ?_
    refine gq_backv C hM (gq_runV (As := []) (rest := []) C hM (kM_lt hk0 (by decide)) (cM_8 hk0) rfl (c_X8_save l L a0 hk0 I _ h) k_X8_save gw_794 rfl hl.1 rfl (Nat.le_of_ble_eq_true rfl) ⟨⟨rfl, rfl⟩, Nat.le_of_ble_eq_true rfl, Nat.le_of_ble_eq_true rfl⟩ ⟨Nat.zero_le _, Nat.zero_le _⟩ dX8_workOff_13) (fun I1 H locs h hM => ?_)
    refine lv_iconst (v := (0 : Int32)) hx hb dX8_workOff_16 (by decide) ?_
    refine lv_istore_n (lv' := [(1, .int (0 : Int32)), (0, .ref (gx_ad L a0))]) hx hb dX8_workOff_17 rfl hl (by decide) rfl (fun ls hl => ?_)
    obtain ⟨fu, h⟩ := h
    exact tl_X8_workOff_18 C fu a0 (0 : Int32) (hk0) I1 _ _ _ hM (lv_sub hl [1, 0] rfl) h
  · replace h := h.1 hc
    refine gq_ldc (v := (-1000004 : Int32)) C gw_793 dX8_workOff_9 ?_
    exact gq_iret C hM h dX8_workOff_11
theorem k_X8_workOff : gx_kV yX8_workOff cX8_workOff 2 (some .int) 0 := ⟨⟨gw_970, gw_67, by decide, by decide, by decide +kernel⟩, gw_968, gw_969⟩
end
