/-! records -/
theorem upd_comm {f : Nat → Int32} {a b : Nat} {x y : Int32} (h : a ≠ b) : upd (upd f a x) b y = upd (upd f b y) a x := by
  funext o
  by_cases ha : o = a
  · subst ha; rw [upd_n h, upd_s, upd_s]
  · by_cases hb : o = b
    · subst hb; rw [upd_s, upd_n ha, upd_s]
    · rw [upd_n hb, upd_n ha, upd_n ha, upd_n hb]
theorem upd_id {f : Nat → Int32} {a : Nat} {x : Int32} (h : x = f a) : upd f a x = f := by
  funext o
  by_cases ha : o = a
  · subst ha; rw [upd_s, h]
  · rw [upd_n ha]
def tc (f : Nat → Int32) (k : Nat) : Nat → Int32 := fun o => if o = 8 then nI (k - 1) else if 250 ≤ o ∧ o < 250 + 4 * (k - 1) then f (o + 4) else f o
def ac (f : Nat → Int32) (k : Nat) (a b c d : Int32) : Nat → Int32 :=
  upd (upd (upd (upd (upd f (250 + (4 * k + 0)) a) (250 + (4 * k + 1)) b) (250 + (4 * k + 2)) c) (250 + (4 * k + 3)) d) 8 (nI (k + 1))
def rec (f : Nat → Int32) (k : Nat) (a b c d : Int32) : Nat → Int32 := if k < 12 then ac f k a b c d else ac (tc f 12) 11 a b c d
def rek (k : Nat) : Nat := if k < 12 then k + 1 else 12
theorem rec_lo {f : Nat → Int32} {k o : Nat} {a b c d : Int32} (h : o < 250) (h8 : o ≠ 8) : rec f k a b c d o = f o := by
  unfold rec ac tc
  split
  · rw [upd_n h8, upd_n (by omega), upd_n (by omega), upd_n (by omega), upd_n (by omega)]
  · rw [upd_n h8, upd_n (by omega), upd_n (by omega), upd_n (by omega), upd_n (by omega), if_neg h8, if_neg (by omega)]
theorem rec_8 {f : Nat → Int32} {k : Nat} {a b c d : Int32} : rec f k a b c d 8 = nI (rek k) := by
  unfold rec ac rek
  split
  · rw [upd_s]
  · rw [upd_s]
theorem rek_le {k : Nat} : rek k ≤ 12 := by unfold rek; split <;> omega
theorem gd_fr {f f' : Nat → Int32} {m w k k' : Nat} (h : gd f m w k) (e : ∀ o, o ≠ 1 → o ≠ 2 → o ≠ 5 → o ≠ 6 → o ≠ 7 → o ≠ 8 → o < 250 → f' o = f o) (h1 : ∃ p, f' 1 = nI p ∧ p ≤ 1000) (h8 : f' 8 = nI k') (hk : k' ≤ 12) : gd f' m w k' := by
  obtain ⟨a1, a2, a3, a4, a5, a6, a7, a8, a9, a10⟩ := h
  have e2 : ∀ o, 10 ≤ o → o < 250 → f' o = f o := fun o h1 h2 => e o (by omega) (by omega) (by omega) (by omega) (by omega) (by omega) h2
  refine ⟨by rw [e 0 (by decide) (by decide) (by decide) (by decide) (by decide) (by decide) (by decide)]; exact a1, a2, by rw [e 4 (by decide) (by decide) (by decide) (by decide) (by decide) (by decide) (by decide)]; exact a3, a4, h8, hk, by rw [e 3 (by decide) (by decide) (by decide) (by decide) (by decide) (by decide) (by decide)]; exact a7, h1, fun r hr => ?_, fun j hj => ?_⟩
  · obtain ⟨g1, g2, g3, g4, g5, g6, g7, g8⟩ := a9 r hr
    refine ⟨by rw [e2 _ (by omega) (by omega)]; exact g1, by rw [e2 _ (by omega) (by omega)]; exact g2, by rw [e2 _ (by omega) (by omega)]; exact g3, by rw [e2 _ (by omega) (by omega)]; exact g4, by rw [e2 _ (by omega) (by omega)]; exact g5, fun q hq => by rw [e2 _ (by omega) (by omega)]; exact g6 q hq, by rw [e2 _ (by omega) (by omega)]; exact g7, fun k hk => ?_⟩
    rw [e2 _ (by omega) (by omega), e2 _ (by omega) (by omega), e2 _ (by omega) (by omega)]
    exact g8 k hk
  · unfold gj
    rw [e2 _ (by omega) (by omega), e2 _ (by omega) (by omega), e2 _ (by omega) (by omega)]
    exact a10 j hj
section RX
variable {I : gx_M} {f : Nat → Int32} {hs : Nat → Nat → Int32} {n : Nat} {sn : Nat → Int32} {ha : Nat} {tx : Nat → Int32} {tl : Nat} {re : Int32} {m w k : Nat} {a b c d : Int32}
theorem s5_addc {Q : gx_M → Prop} (hx : vx I f hs n sn ha tx tl re) (hw0 : f 8 = nI k) (hw : k < 12) (hQ : ∀ I' : gx_M, vx I' (ac f k a b c d) hs n sn ha tx tl re → (∀ a, a ≠ 5 → a ≠ 6 → I' a = I a) → Q I') : wp_X5_add 5 a b c d I Q := by
  have aw : I 5 1 = nI k := by rw [← hw0]; exact hx.1 8 (by decide)
  unfold wp_X5_add
  intro y ey
  have ey : y = nI (4 * k + 0) := by
    rw [ey, aw, show (4 : Int32) = nI 4 from rfl, pk_mul, Nat.mul_comm]; rfl
  have e1 : y + (1 : Int32) = nI (4 * k + 1) := n_add ey rfl
  have e2 : y + (2 : Int32) = nI (4 * k + 2) := n_add ey rfl
  have e3 : y + (3 : Int32) = nI (4 * k + 3) := n_add ey rfl
  have e4 : y + (4 : Int32) = nI (4 * k + 4) := n_add ey rfl
  rw [cl_of ey, cl_of e1, cl_of e2, cl_of e3]
  refine ⟨fun h => absurd h (n_neg ey), fun _ => ⟨fun _ => ⟨ix_of (N := 48) ey (by omega), fun I1 f1 => ⟨ix_of (N := 48) e1 (by omega), fun I2 f2 => ⟨ix_of (N := 48) e2 (by omega), fun I3 f3 => ⟨ix_of (N := 48) e3 (by omega), fun I4 f4 I5 f5 => ?_⟩⟩⟩⟩, fun h => absurd ((n_le (b := 48) e4 rfl).mpr (by omega)) h⟩⟩
  have h1 : vx I1 (upd f (250 + (4 * k + 0)) a) hs n sn ha tx tl re := by rw [f1]; exact hx.putc (by omega)
  have h2 : vx I2 (upd (upd f (250 + (4 * k + 0)) a) (250 + (4 * k + 1)) b) hs n sn ha tx tl re := by rw [f2]; exact h1.putc (by omega)
  have h3 : vx I3 (upd (upd (upd f (250 + (4 * k + 0)) a) (250 + (4 * k + 1)) b) (250 + (4 * k + 2)) c) hs n sn ha tx tl re := by rw [f3]; exact h2.putc (by omega)
  have h4 : vx I4 (upd (upd (upd (upd f (250 + (4 * k + 0)) a) (250 + (4 * k + 1)) b) (250 + (4 * k + 2)) c) (250 + (4 * k + 3)) d) hs n sn ha tx tl re := by rw [f4]; exact h3.putc (by omega)
  have g4 : I4 5 1 = nI k := by
    rw [f4, up_ne (by omega), f3, up_ne (by omega), f2, up_ne (by omega), f1, up_ne (by omega)]
    exact aw
  have h5 : vx I5 (ac f k a b c d) hs n sn ha tx tl re := by
    rw [f5, show I4 5 1 + (1 : Int32) = nI (k + 1) from n_add (b := 1) g4 rfl]
    exact h4.put8
  refine hQ I5 h5 fun a h5 h6 => ?_
  rw [f5, up_ne h5, f4, up_ne (by omega), f3, up_ne (by omega), f2, up_ne (by omega), f1, up_ne (by omega)]
theorem s5_dropc {Q : gx_M → Prop} (hx : vx I f hs n sn ha tx tl re) (hw0 : f 8 = nI k) (hw : k ≤ 12) (hk0 : 0 < k) (hQ : ∀ I' : gx_M, vx I' (tc f k) hs n sn ha tx tl re → (∀ a, a ≠ 5 → a ≠ 6 → I' a = I a) → Q I') : wp_X5_drop 5 (0 : Int32) I Q := by
  have aw : I 5 1 = nI k := by rw [← hw0]; exact hx.1 8 (by decide)
  have e4 : (4 : Int32) = nI 4 := rfl
  unfold wp_X5_drop
  refine ⟨fun h => absurd h (by decide), fun _ => ⟨fun _ x ex => ?_, fun h => absurd ((n_lt (a := 0) rfl aw).mpr hk0) h⟩⟩
  have ex : x = nI 4 := by rw [ex]; rfl
  have ep : (0 : Int32) * (4 : Int32) = nI 0 := rfl
  have ew : I 5 1 * (4 : Int32) = nI (4 * k) := by rw [aw, e4, pk_mul, Nat.mul_comm]
  have es : I 5 1 * (4 : Int32) - x = nI (4 * k - 4) := n_sub ew ex (by omega)
  rw [cl_of ex, cl_of ep, cl_of es]
  refine ⟨⟨⟨n_neg ex, n_neg ep, n_neg es⟩, by show 4 + (4 * k - 4) ≤ 48; omega, by show 0 + (4 * k - 4) ≤ 48; omega⟩, fun I1 e1 I2 e2 => ?_⟩
  have z : ∀ a, a ≠ 5 → a ≠ 6 → I2 a = I a := fun a h3 h4 => by rw [e2, up_ne h3, e1, upr_ne h4]
  have v3 : I2 5 1 = nI (k - 1) := by rw [e2, up_eq, upd_s, e1, upr_ne (by decide)]; exact n_sub (b := 1) aw rfl
  have v4 : ∀ q, I2 6 q = if q < 4 * (k - 1) then I 6 (q + 4) else I 6 q := fun q => by
    rw [e2, up_ne (by decide), e1]
    show upr I 6 _ 6 q = _
    rw [upr_eq]
    by_cases h : q < 4 * (k - 1)
    · rw [if_pos h, pk_cpy_in (Nat.zero_le _) (by omega)]
      show I 6 _ = _
      rw [show 4 + (q - 0) = q + 4 by omega]
    · rw [if_neg h, pk_cpy_out (by omega)]
  refine hQ I2 ⟨fun o ho => ?_, hx.2.fr (fun a ha => z a (by omega) (by omega)) (by rw [z 269 (by decide) (by decide)])⟩ z
  unfold tc
  by_cases h4 : o = 8
  · rw [if_pos h4, h4]; exact v3
  rw [if_neg h4]
  by_cases hr : 250 ≤ o
  · obtain ⟨q, rfl⟩ : ∃ q, o = 250 + q := ⟨o - 250, by omega⟩
    rw [fl_c (by omega)]
    show I2 6 q = _
    rw [v4 q]
    by_cases h : q < 4 * (k - 1)
    · rw [if_pos h, if_pos (by omega), hx.co (by omega)]; rfl
    · rw [if_neg h, if_neg (by omega), hx.co (by omega)]
  · have h5 := lo_nc o ho h4 (by omega)
    rw [if_neg (by omega), fl_off (I := I) (z _ (by omega) (by omega)), hx.1 o ho]
theorem s6_leave {Q : gx_M → Prop} (hx : vx I f hs n sn ha tx tl re) (hw0 : f 8 = nI k) (hw : k ≤ 12) (hQ : ∀ I' : gx_M, vx I' (rec f k a b c d) hs n sn ha tx tl re → (∀ a, a ≠ 5 → a ≠ 6 → I' a = I a) → Q I') : wp_X6_leaveRecord 1 a b c d I Q := by
  have aw : I (1 + 4) 1 = nI k := by rw [← hw0]; exact hx.1 8 (by decide)
  unfold wp_X6_leaveRecord
  refine ⟨fun h => ?_, fun h => ?_⟩
  · have hk : k < 12 := (n_lt (b := 12) aw rfl).mp h
    unfold rec at hQ
    rw [if_pos hk] at hQ
    exact s5_addc hx hw0 hk hQ
  · have hk : ¬ k < 12 := fun q => h ((n_lt (b := 12) aw rfl).mpr q)
    have hk : k = 12 := by omega
    subst hk
    unfold rec at hQ
    rw [if_neg (by decide)] at hQ
    refine s5_dropc hx hw0 (by decide) (by decide) fun I1 h1 z1 => s5_addc (k := 11) h1 rfl (by decide) fun I2 h2 z2 => hQ I2 h2 fun a g1 g2 => by rw [z2 a g1 g2, z1 a g1 g2]
end RX
