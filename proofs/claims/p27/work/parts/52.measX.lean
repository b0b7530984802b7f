/-! the class's Measure -/
theorem s7_q {p0 p1 : Int64} {I : gx_M} {Q : Int64 → gx_M → Prop} (hd : ¬ p1 = 0) (h : Q (p0 / p1) I) : wp_X7_quotient p0 p1 I Q :=
  ⟨fun c => absurd ((lg_cmp_eq p1 0).mp c) hd, fun _ => ⟨hd, h⟩⟩
theorem s2_lim {p : Int32} {I : gx_M} {Q : Int32 → gx_M → Prop} (h : Q (lim p) I) : wp_X2_limited p I Q := h
theorem s2_bey {p : Int32} {I : gx_M} {Q : Int32 → gx_M → Prop} (h : Q (if bey p = true then 1 else 0) I) : wp_X2_isBeyond p I Q := by
  unfold wp_X2_isBeyond
  refine s7_a (fun c1 c2 => ⟨fun h => absurd h (by decide), fun _ => ?_⟩) (fun c => ⟨fun _ => ?_, fun h => absurd rfl h⟩)
  · rw [if_neg] at h
    · exact h
    · unfold bey; rw [decide_eq_true_iff]; exact fun q => q ⟨c1, c2⟩
  · rw [if_pos] at h
    · exact h
    · unfold bey; rw [decide_eq_true_iff]; exact c
def m1 (f : Nat → Int32) (r i : Nat) (I : gx_M) : Prop :=
  (∀ j, j < 3 → I 276 j = stn f r j) ∧ I 275 6 = sv f r ∧ I 275 7 = ovc f r i ∧ (I 275 8 &&& 1 = 0 ↔ chk f r i = false) ∧ ∀ j, j < i → I 277 j = sgn f r j ∧ I 278 j = rdg f r j ∧ I 280 j = stp f r j
def mea (f : Nat → Int32) (r : Nat) (I : gx_M) : Prop :=
  m1 f r 3 I ∧ (∀ j, j < 3 → I 281 j = crr f r j) ∧ I 275 9 = mx f r ∧ I 275 10 = my f r ∧ I 275 11 = mg f r ∧ I 275 12 = mm f r ∧ I 275 13 = (bst f r 23).1 ∧ I 275 14 = rad f r
section MX
variable {I : gx_M} {f : Nat → Int32} {hs : Nat → Nat → Int32} {n : Nat} {sn : Nat → Int32} {ha : Nat} {tx : Nat → Int32} {tl : Nat} {re : Int32} {m w k r : Nat} {p : Int32}
theorem nX_ros (hr : r < 8) : nX (1 + (6 + 4 * r) + 1) = 3 ∧ nX (1 + (6 + 4 * r) + 2) = 3 ∧ nX (1 + (6 + 4 * r) + 3) = 3 := (show ∀ r, r < 8 → nX (1 + (6 + 4 * r) + 1) = 3 ∧ nX (1 + (6 + 4 * r) + 2) = 3 ∧ nX (1 + (6 + 4 * r) + 3) = 3 by decide +kernel) r hr
theorem s2_comes {Q : Int32 → gx_M → Prop} (hx : vx I f hs n sn ha tx tl re) (hr : r < 8) (hg : gr f r) (h : Q (ld f r p) I) : wp_X2_comesOut (1 + (6 + 4 * r)) p I Q := by
  obtain ⟨l, l1, l2⟩ := qr_L hg
  have a2 : I (1 + (6 + 4 * r)) 2 = qr f r 2 := hx.ro hr (by omega)
  have a4 : I (1 + (6 + 4 * r)) 4 = qr f r 4 := hx.ro hr (by omega)
  have hd := led_nz (qr_R hg) l1 l2
  unfold wp_X2_comesOut
  intro x1 e1
  rw [e1, a2, a4, Int64.mul_comm (Int32.toInt64 (qr f r 2)) 1000]
  exact s7_q hd h
theorem s2_strains {Q : gx_M → Prop} (hx : vx I f hs n sn ha tx tl re) (hr : r < 8) (h : ∀ I' : gx_M, (∀ a, a ≠ 276 → I' a = I a) → (∀ j, j < 3 → I' 276 j = stn f r j) → Q I') : wp_X2_findStrains 275 (1 + (6 + 4 * r)) I Q := by
  have a1 : I (1 + (6 + 4 * r)) 1 &&& 1 = qr f r 1 := hx.rb hr (Or.inl rfl)
  have a5 : I (1 + (6 + 4 * r)) 5 = qr f r 5 := hx.ro hr (by omega)
  have a6 : I (1 + (6 + 4 * r)) 6 = qr f r 6 := hx.ro hr (by omega)
  have a7 : I (1 + (6 + 4 * r)) 7 = qr f r 7 := hx.ro hr (by omega)
  have fin : ∀ (v0 v1 v2 : Int32), v0 = stn f r 0 → v1 = stn f r 1 → v2 = stn f r 2 → Q (up (up (up I 276 0 v0) 276 1 v1) 276 2 v2) := by
    intro v0 v1 v2 h0 h1 h2
    refine h _ (fun a ha => by rw [up_ne ha, up_ne ha, up_ne ha]) (fun j hj => ?_)
    have : j = 0 ∨ j = 1 ∨ j = 2 := by omega
    rcases this with rfl | rfl | rfl
    · rw [up_eq, upd_n (by decide), up_eq, upd_n (by decide), up_eq, upd_s, h0]
    · rw [up_eq, upd_n (by decide), up_eq, upd_s, h1]
    · rw [up_eq, upd_s, h2]
  unfold wp_X2_findStrains
  rw [a1]
  refine ⟨fun c => ⟨ix_of (n := 0) (N := 3) rfl (by decide), fun I1 e1 => ⟨ix_of (n := 1) (N := 3) rfl (by decide), fun I2 e2 => ⟨ix_of (n := 2) (N := 3) rfl (by decide), fun I3 e3 => ?_⟩⟩⟩, fun c x1 ex1 x2 ex2 => ⟨ix_of (n := 0) (N := 3) rfl (by decide), fun I1 e1 => ⟨ix_of (n := 1) (N := 3) rfl (by decide), fun I2 e2 => ⟨ix_of (n := 2) (N := 3) rfl (by decide), fun I3 e3 => ?_⟩⟩⟩⟩
  · have e1 : I1 = up I 276 0 (I (1 + (6 + 4 * r)) 5) := e1
    have q1 : I1 (1 + (6 + 4 * r)) = I (1 + (6 + 4 * r)) := by rw [e1, up_ne (by omega)]
    have e2 : I2 = up I1 276 1 ((I1 (1 + (6 + 4 * r)) 5 + I1 (1 + (6 + 4 * r)) 6 + I1 (1 + (6 + 4 * r)) 7) / 2) := e2
    have q2 : I2 (1 + (6 + 4 * r)) = I (1 + (6 + 4 * r)) := by rw [e2, up_ne (by omega), q1]
    have e3 : I3 = up I2 276 2 (I2 (1 + (6 + 4 * r)) 6) := e3
    rw [q2] at e3
    rw [q1] at e2
    rw [e3, e2, e1, a5, a6, a7]
    refine fin _ _ _ rfl ?_ ?_
    · unfold stn; rw [if_neg (by decide), if_pos c, if_pos rfl]
    · unfold stn; rw [if_neg (by decide), if_pos c, if_neg (by decide)]
  · have e1 : I1 = up I 276 0 (I (1 + (6 + 4 * r)) 5) := e1
    have e2 : I2 = up I1 276 1 (x1 + x2) := e2
    have e3 : I3 = up I2 276 2 (x1 - x2) := e3
    rw [e3, e2, e1, a5]
    rw [a5, a6] at ex1
    rw [a7] at ex2
    refine fin _ _ _ rfl ?_ ?_
    · unfold stn; rw [if_neg (by decide), if_neg c, if_pos rfl, ex1, ex2]
    · unfold stn; rw [if_neg (by decide), if_neg c, if_neg (by decide), ex1, ex2]
theorem bit01 {t : Bool} : (if t = true then (1 : Int32) else 0) &&& 1 = (if t = true then 1 else 0) := by cases t <;> rfl
theorem s2_121 {Q : gx_M → Prop} {t a b : Bool} {von vof : Int32} (ha2 : bey von = a) (hb2 : bey vof = b) (ht : I 275 8 &&& 1 = 0 ↔ t = false) (h : Q (up I 275 8 (if (t || a || b) = true then 1 else 0))) : wj_X2_findSignal_121 Q 275 vof von I := by
  have p1 : (t || a || b) = true → wj_X2_findSignal_144 Q 275 I := fun q => ⟨rfl, fun I1 e1 => by rw [if_pos q] at h; rw [e1]; exact h⟩
  refine ⟨fun c => s2_bey ⟨fun c2 => s2_bey ⟨fun c3 => ?_, fun c3 => p1 ?_⟩, fun c2 => p1 ?_⟩, fun c => p1 ?_⟩
  · have e1 := ht.mp c
    have e2 : a = false := by rw [ha2] at c2; cases a with
      | false => rfl
      | true => exact absurd c2 (by decide)
    have e3 : b = false := by rw [hb2] at c3; cases b with
      | false => rfl
      | true => exact absurd c3 (by decide)
    rw [e1, e2, e3] at h
    exact ⟨rfl, fun I1 e1 => by rw [e1]; exact h⟩
  · have e3 : b = true := by rw [hb2] at c3; cases b with
      | true => rfl
      | false => exact absurd rfl c3
    rw [e3]; simp
  · have e3 : a = true := by rw [ha2] at c2; cases a with
      | true => rfl
      | false => exact absurd rfl c2
    rw [e3]; simp
  · have e3 : t = true := by cases t with
      | true => rfl
      | false => exact absurd (ht.mpr rfl) c
    rw [e3]; simp
theorem s2_67 {Q : gx_M → Prop} {i : Nat} {v : Int32} (hi : i < 3) (hp : p = nI i) (hv : v = sgn f r i) (h1 : m1 f r i I) (hQ : ∀ I' : gx_M, (∀ a, a < 275 → I' a = I a) → I' 279 = I 279 → I' 281 = I 281 → m1 f r (i + 1) I' → Q I') : wj_X2_findSignal_67 Q 275 p (off f r i) (onn f r i) v p (275 + 2) I := by
  obtain ⟨b1, b2, b3, b4, b5⟩ := h1
  have hin : vp_in p 3 := ix_of hp hi
  have hc : p.toNatClampNeg = i := cl_of hp
  unfold wj_X2_findSignal_67
  rw [hc]
  refine ⟨hin, fun I1 e1 => ⟨hin, s2_lim ⟨hin, fun I3 e3 => s2_lim (s2_lim ⟨hin, fun I6 e6 => ⟨hin, s2_bey ?_⟩⟩)⟩⟩⟩
  have e1 : I1 = up I 277 i v := e1
  have w1 : I1 277 i = sgn f r i := by rw [e1, up_eq, upd_s, hv]
  have e3 : I3 = up I1 278 i (lim (I1 277 i)) := e3
  rw [w1] at e3
  have e6 : I6 = up I3 280 i (lim (onn f r i) - lim (off f r i)) := e6
  have w6 : I6 (275 + 2) i = sgn f r i := by show I6 277 i = _; rw [e6, up_ne (by decide), e3, up_ne (by decide), w1]
  rw [w6]
  have z6 : ∀ a, a ≠ 277 → a ≠ 278 → a ≠ 280 → I6 a = I a := fun a h7 h8 h0 => by rw [e6, up_ne h0, e3, up_ne h8, e1, up_ne h7]
  have fin : ∀ I8 : gx_M, (∀ a, a ≠ 275 → I8 a = I6 a) → (∀ q, q ≠ 7 → I8 275 q = I6 275 q) → I8 275 7 = ovc f r (i + 1) → wj_X2_findSignal_121 Q 275 (off f r i) (onn f r i) I8 := by
    intro I8 z8 z9 v7
    refine s2_121 (t := chk f r i) rfl rfl ?_ (hQ _ (fun a ha => ?_) ?_ ?_ ⟨fun j hj => ?_, ?_, ?_, ?_, fun j hj => ?_⟩)
    · rw [z9 8 (by decide), z6 275 (by decide) (by decide) (by decide)]; exact b4
    · rw [up_ne (by omega), z8 a (by omega), z6 a (by omega) (by omega) (by omega)]
    · rw [up_ne (by decide), z8 _ (by decide), z6 _ (by decide) (by decide) (by decide)]
    · rw [up_ne (by decide), z8 _ (by decide), z6 _ (by decide) (by decide) (by decide)]
    · rw [up_ne (by decide), z8 _ (by decide), z6 _ (by decide) (by decide) (by decide)]; exact b1 j hj
    · rw [up_eq, upd_n (by decide), z9 6 (by decide), z6 _ (by decide) (by decide) (by decide)]; exact b2
    · rw [up_eq, upd_n (by decide)]; exact v7
    · rw [up_eq, upd_s, bit01]
      show _ ↔ (chk f r i || bey (onn f r i) || bey (off f r i)) = false
      cases (chk f r i || bey (onn f r i) || bey (off f r i)) <;> decide
    · rw [up_ne (by decide), up_ne (by decide), up_ne (by decide), z8 _ (by decide), z8 _ (by decide), z8 _ (by decide)]
      have u7 : I6 277 j = upd (I 277) i v j := by rw [e6, up_ne (by decide), e3, up_ne (by decide), e1, up_eq]
      have u8 : I6 278 j = upd (I 278) i (lim (sgn f r i)) j := by rw [e6, up_ne (by decide), e3, up_eq, e1, up_ne (by decide)]
      have u0 : I6 280 j = upd (I 280) i (lim (onn f r i) - lim (off f r i)) j := by rw [e6, up_eq, e3, up_ne (by decide), e1, up_ne (by decide)]
      rw [u7, u8, u0]
      by_cases e : j = i
      · subst e
        rw [upd_s, upd_s, upd_s]
        exact ⟨hv, rfl, rfl⟩
      · rw [upd_n e, upd_n e, upd_n e]
        exact b5 j (by omega)
  have v7 : I6 275 7 = ovc f r i := by rw [z6 _ (by decide) (by decide) (by decide)]; exact b3
  refine ⟨fun c => fin I6 (fun _ _ => rfl) (fun _ _ => rfl) ?_, fun c I8 e8 => fin I8 (fun a h => by rw [e8, up_ne h]) (fun q h => by rw [e8, up_eq, upd_n h]) ?_⟩
  · rw [v7]
    conv => rhs; unfold ovc
    rw [if_neg (fun q => by rw [if_pos q] at c; exact absurd c (by decide))]
  · rw [e8, up_eq, upd_s, v7]
    conv => rhs; unfold ovc
    rw [if_pos (Classical.byContradiction fun q => by rw [if_neg q] at c; exact c rfl)]
theorem s2_signal {Q : gx_M → Prop} {i : Nat} (hx : vx I f hs n sn ha tx tl re) (hr : r < 8) (hg : gr f r) (hi : i < 3) (hp : p = nI i) (h1 : m1 f r i I) (hQ : ∀ I' : gx_M, (∀ a, a < 275 → I' a = I a) → I' 279 = I 279 → I' 281 = I 281 → m1 f r (i + 1) I' → Q I') : wp_X2_findSignal 275 (1 + (6 + 4 * r)) p I Q := by
  obtain ⟨n1, n2, n3⟩ := nX_ros hr
  have hin : vp_in p 3 := ix_of hp hi
  have hc : p.toNatClampNeg = i := cl_of hp
  have g0 : I (1 + (6 + 4 * r) + 1) i = qg f r i 0 := hx.go hr hi (w := 0) (by decide)
  have g1 : I (1 + (6 + 4 * r) + 2) i = qg f r i 1 := hx.go hr hi (w := 1) (by decide)
  have a3 : I (1 + (6 + 4 * r)) 3 = qr f r 3 := hx.ro hr (by omega)
  have a8 : I (1 + (6 + 4 * r)) 8 &&& 1 = qr f r 8 := hx.rb hr (Or.inr rfl)
  have as : I (275 + 1) i = stn f r i := h1.1 i hi
  have a6 : I 275 6 = sv f r := h1.2.1
  unfold wp_X2_findSignal
  rw [n1, n2, hc, g0]
  refine ⟨hin, s2_comes hx hr hg ⟨hin, ?_⟩⟩
  rw [as, a3]
  refine s2_comes hx hr hg ⟨hin, fun x1 e1 => ?_⟩
  rw [g1] at e1
  rw [a6]
  refine s2_comes hx hr hg fun x2 e2 => ?_
  have e1 : x1 = off f r i := e1
  have e2 : x2 = onn f r i := by rw [e2, e1]; rfl
  rw [e1, e2, a8]
  refine ⟨fun c => s2_67 hi hp ?_ h1 hQ, fun c => s2_67 hi hp ?_ h1 hQ⟩
  · unfold sgn; rw [if_pos c]
  · unfold sgn; rw [if_neg c]
theorem s2_pull {Q : Int64 → gx_M → Prop} {t : Nat} (ht : t < 24) (hp : p = nI t) (h9 : I 275 9 = mx f r) (h10 : I 275 10 = my f r) (h11 : I 275 11 = mg f r) (h : Q (pul f r t) I) : wp_X2_pullTo 275 p I Q := by
  unfold wp_X2_pullTo
  refine s7_w (fun c1 c2 => ⟨fun h => absurd h (by decide), fun _ => ⟨ix_of hp ht, ix_of hp ht, ?_⟩⟩) (fun c => absurd ⟨?_, ?_⟩ c)
  · rw [cl_of hp, h9, h10, h11]; exact h
  · exact (n_le (a := 0) rfl hp).mpr (by omega)
  · exact (n_le (b := 23) hp rfl).mpr (by omega)
theorem s2_princ {Q : gx_M → Prop} (h9 : I 275 9 = mx f r) (h10 : I 275 10 = my f r) (h11 : I 275 11 = mg f r) (hQ : ∀ I' : gx_M, (∀ a, a ≠ 275 → I' a = I a) → (∀ q, q < 12 → I' 275 q = I 275 q) → I' 275 12 = mm f r → I' 275 13 = (bst f r 23).1 → I' 275 14 = rad f r → Q I') : wp_X2_findPrincipal 275 I Q := by
  unfold wp_X2_findPrincipal
  intro I1 e1 I2 e2
  have z2 : ∀ a, a ≠ 275 → I2 a = I a := fun a h => by rw [e2, up_ne h, e1, up_ne h]
  have q2 : ∀ q, q < 12 → I2 275 q = I 275 q := fun q h => by rw [e2, up_eq, upd_n (by omega), e1, up_eq, upd_n (by omega)]
  have v12 : I2 275 12 = mm f r := by rw [e2, up_eq, upd_n (by decide), e1, up_eq, upd_s, h9, h10]; rfl
  have v13 : I2 275 13 = 0 := by rw [e2, up_eq, upd_s]
  have key : ∀ (d i : Nat), i + d = 23 → ∀ (I3 : gx_M) (v3 : Int32), v3 = nI (i + 1) → (∀ a, a ≠ 275 → I3 a = I a) → (∀ q, q < 12 → I3 275 q = I 275 q) → I3 275 12 = mm f r → I3 275 13 = (bst f r i).1 → wl_X2_findPrincipal_28 Q (d + 1) 275 (bst f r i).2 v3 I3 := by
    intro d
    induction d with
    | zero =>
      intro i hi I3 v3 hv g1 g2 g3 g4
      have hi : i = 23 := by omega
      subst hi
      rw [wl_X2_findPrincipal_28]
      refine ⟨fun _ I4 e4 => hQ I4 (fun a h => by rw [e4, up_ne h, g1 a h]) (fun q h => by rw [e4, up_eq, upd_n (by omega), g2 q h]) ?_ ?_ ?_, fun h => absurd ((n_le (a := 24) rfl hv).mpr (by omega)) h⟩
      · rw [e4, up_eq, upd_n (by decide)]; exact g3
      · rw [e4, up_eq, upd_n (by decide)]; exact g4
      · rw [e4, up_eq, upd_s]; rfl
    | succ d ih =>
      intro i hi I3 v3 hv g1 g2 g3 g4
      rw [wl_X2_findPrincipal_28]
      refine ⟨fun h => absurd ((n_le (a := 24) rfl hv).mp h) (by omega), fun _ => s2_pull (f := f) (r := r) (t := i + 1) (by omega) hv (by rw [g2 9 (by decide)]; exact h9) (by rw [g2 10 (by decide)]; exact h10) (by rw [g2 11 (by decide)]; exact h11) ⟨fun c x ex => ?_, fun c I4 e4 x ex => ?_⟩⟩
      · have eb : bst f r (i + 1) = bst f r i := by
          conv => lhs; unfold bst
          rw [if_pos c]
        have := ih (i + 1) (by omega) I3 x (by rw [ex]; exact n_add hv rfl) g1 g2 g3 (by rw [eb]; exact g4)
        rw [eb] at this
        exact this
      · have eb : bst f r (i + 1) = (nI (i + 1), pul f r (i + 1)) := by
          conv => lhs; unfold bst
          rw [if_neg c]
        have := ih (i + 1) (by omega) I4 x (by rw [ex]; exact n_add hv rfl) (fun a h => by rw [e4, up_ne h, g1 a h]) (fun q h => by rw [e4, up_eq, upd_n (by omega), g2 q h]) (by rw [e4, up_eq, upd_n (by decide)]; exact g3) (by rw [eb, e4, up_eq, upd_s]; exact hv)
        rw [eb] at this
        exact this
  refine s2_pull (f := f) (r := r) (t := 0) (by decide) rfl (by rw [q2 9 (by decide)]; exact h9) (by rw [q2 10 (by decide)]; exact h10) (by rw [q2 11 (by decide)]; exact h11) ⟨23 + 1, ?_⟩
  exact key 23 0 rfl I2 1 rfl z2 q2 v12 (by rw [v13]; rfl)
theorem s2_take {Q : gx_M → Prop} (hx : vx I f hs n sn ha tx tl re) (hg : gd f m w k) (hr : r < m) (hp : p = f 3) (hQ : ∀ I' : gx_M, vx I' f hs n sn ha tx tl re → (∀ a, a < 275 → I' a = I a) → I' 279 = I 279 → mea f r I' → Q I') : wp_X2_take 275 (1 + (6 + 4 * r)) p I Q := by
  have hr8 : r < 8 := by have := hg.2.1; omega
  have hgr := hg.2.2.2.2.2.2.2.2.1 r hr
  obtain ⟨z, z1, z2, z3⟩ := hg.2.2.2.2.2.2.1
  obtain ⟨s1, s2, s3, s4⟩ := sv_x z z3 z2 _ (qr_R hgr)
  obtain ⟨n1, n2, n3⟩ := nX_ros hr8
  have a2 : I (1 + (6 + 4 * r)) 2 = qr f r 2 := hx.ro hr8 (by omega)
  unfold wp_X2_take
  rw [a2, hp, z1]
  refine s7_q s1 fun I2 e2 I3 e3 I4 e4 => ?_
  rw [s3] at e2
  have y4 : ∀ a, a ≠ 275 → I4 a = I a := fun a h => by rw [e4, up_ne h, e3, up_ne h, e2, up_ne h]
  have hx4 : vx I4 f hs n sn ha tx tl re := hx.fr (fun a h1 h2 => y4 a (by omega)) (by rw [y4 269 (by decide)])
  refine s2_strains hx4 hr8 fun I5 y5 w5 => ⟨3 + 1, ?_⟩
  have v6 : I5 275 6 = sv f r := by
    rw [y5 275 (by decide), e4, up_eq, upd_n (by decide), e3, up_eq, upd_n (by decide), e2, up_eq, upd_s]
    unfold sv; rw [z1]
  have v7 : I5 275 7 = 0 := by rw [y5 275 (by decide), e4, up_eq, upd_n (by decide), e3, up_eq, upd_s]
  have v8 : I5 275 8 = 0 := by rw [y5 275 (by decide), e4, up_eq, upd_s]
  have key : ∀ (d i : Nat), i + d = 3 → ∀ (I6 : gx_M) (v : Int32), v = nI i → (∀ a, a < 275 → I6 a = I a) → I6 279 = I 279 → m1 f r i I6 → (∀ j, j < i → I6 281 j = crr f r j) → wl_X2_take_46 Q (d + 1) 275 (1 + (6 + 4 * r)) v I6 := by
    intro d
    induction d with
    | zero =>
      intro i hi I6 v hv g1 g2 g3 g4
      have hi : i = 3 := by omega
      subst hi
      have hx6 : vx I6 f hs n sn ha tx tl re := hx.fr (fun a h1 h2 => g1 a (by omega)) (by rw [g1 269 (by decide)])
      have a1 : I6 (1 + (6 + 4 * r)) 1 &&& 1 = qr f r 1 := hx6.rb hr8 (Or.inl rfl)
      have c0 : I6 281 0 = crr f r 0 := g4 0 (by decide)
      have c1 : I6 281 1 = crr f r 1 := g4 1 (by decide)
      have c2 : I6 281 2 = crr f r 2 := g4 2 (by decide)
      have fin : ∀ (u v y : Int32), u = mx f r → v = my f r → y = mg f r → wj_X2_take_119 Q 275 (up (up (up I6 275 9 u) 275 10 v) 275 11 y) := by
        intro u v y hu hv hy
        refine s2_princ (f := f) (r := r) ?_ ?_ ?_ fun I7 k1 k2 k3 k4 k5 => ?_
        · rw [up_eq, upd_n (by decide), up_eq, upd_n (by decide), up_eq, upd_s, hu]
        · rw [up_eq, upd_n (by decide), up_eq, upd_s, hv]
        · rw [up_eq, upd_s, hy]
        · have y7 : ∀ a, a ≠ 275 → I7 a = I6 a := fun a h => by rw [k1 a h, up_ne h, up_ne h, up_ne h]
          have l7 : ∀ q, q < 9 → I7 275 q = I6 275 q := fun q h => by rw [k2 q (by omega), up_eq, upd_n (by omega), up_eq, upd_n (by omega), up_eq, upd_n (by omega)]
          obtain ⟨b1, b2, b3, b4, b5⟩ := g3
          refine hQ I7 (hx6.fr (fun a h1 h2 => y7 a (by omega)) (by rw [y7 269 (by decide)])) (fun a h => by rw [y7 a (by omega), g1 a h]) (by rw [y7 279 (by decide), g2]) ⟨⟨fun j hj => by rw [y7 276 (by decide)]; exact b1 j hj, by rw [l7 6 (by decide)]; exact b2, by rw [l7 7 (by decide)]; exact b3, by rw [l7 8 (by decide)]; exact b4, fun j hj => by rw [y7 277 (by decide), y7 278 (by decide), y7 280 (by decide)]; exact b5 j hj⟩, fun j hj => by rw [y7 281 (by decide)]; exact g4 j hj, ?_, ?_, ?_, k3, k4, k5⟩
          · rw [k2 9 (by decide), up_eq, upd_n (by decide), up_eq, upd_n (by decide), up_eq, upd_s, hu]
          · rw [k2 10 (by decide), up_eq, upd_n (by decide), up_eq, upd_s, hv]
          · rw [k2 11 (by decide), up_eq, upd_s, hy]
      rw [wl_X2_take_46]
      rw [a1]
      refine ⟨fun _ => ⟨fun c => ?_, fun c => ?_⟩, fun h => absurd ((n_le (a := 3) rfl hv).mpr (by omega)) h⟩
      · unfold wp_X2_findRightNumbers
        refine ⟨ix_of (n := 0) (N := 3) rfl (by decide), fun J1 f1 => ⟨ix_of (n := 2) (N := 3) rfl (by decide), fun J2 f2 => ⟨ix_of (n := 1) (N := 3) rfl (by decide), ix_of (n := 0) (N := 3) rfl (by decide), ix_of (n := 2) (N := 3) rfl (by decide), fun J3 f3 => ?_⟩⟩⟩
        have f1 : J1 = up I6 275 9 (I6 281 0) := f1
        have f2 : J2 = up J1 275 10 (J1 281 2) := f2
        have f3 : J3 = up J2 275 11 (2 * J2 281 1 - J2 281 0 - J2 281 2) := f3
        have j1 : J1 281 = I6 281 := by rw [f1, up_ne (by decide)]
        have j2 : J2 281 = I6 281 := by rw [f2, up_ne (by decide), j1]
        rw [j2, c0, c1, c2] at f3
        rw [j1, c2] at f2
        rw [c0] at f1
        rw [f3, f2, f1]
        refine fin _ _ _ rfl ?_ ?_
        · unfold my; rw [if_pos c]
        · unfold mg; rw [if_pos c]
      · unfold wp_X2_findDeltaNumbers
        refine ⟨ix_of (n := 0) (N := 3) rfl (by decide), fun J1 f1 => ⟨ix_of (n := 1) (N := 3) rfl (by decide), ix_of (n := 2) (N := 3) rfl (by decide), ix_of (n := 0) (N := 3) rfl (by decide), fun J2 f2 => ⟨ix_of (n := 1) (N := 3) rfl (by decide), ix_of (n := 2) (N := 3) rfl (by decide), fun J3 f3 => ?_⟩⟩⟩
        have f1 : J1 = up I6 275 9 (I6 281 0) := f1
        have f2 : J2 = up J1 275 10 ((2 * J1 281 1 + 2 * J1 281 2 - J1 281 0) / 3) := f2
        have f3 : J3 = up J2 275 11 (Int64.toInt32 ((Int32.toInt64 (J2 281 1 - J2 281 2) * 11547) / 10000)) := f3
        have j1 : J1 281 = I6 281 := by rw [f1, up_ne (by decide)]
        have j2 : J2 281 = I6 281 := by rw [f2, up_ne (by decide), j1]
        rw [j2, c1, c2] at f3
        rw [j1, c0, c1, c2] at f2
        rw [c0] at f1
        rw [f3, f2, f1]
        refine fin _ _ _ rfl ?_ ?_
        · unfold my; rw [if_neg c]
        · unfold mg; rw [if_neg c]
    | succ d ih =>
      intro i hi I6 v hv g1 g2 g3 g4
      have hi3 : i < 3 := by omega
      have hin : vp_in v 3 := ix_of hv hi3
      have hx6 : vx I6 f hs n sn ha tx tl re := hx.fr (fun a h1 h2 => g1 a (by omega)) (by rw [g1 269 (by decide)])
      rw [wl_X2_take_46]
      rw [n3, cl_of hv]
      refine ⟨fun h => absurd ((n_le (a := 3) rfl hv).mp h) (by omega), fun _ => s2_signal hx6 hr8 hgr hi3 hv g3 fun I7 k1 k2 k3 k4 => ⟨hin, hin, ?_⟩⟩
      have hx7 : vx I7 f hs n sn ha tx tl re := hx6.fr (fun a h1 h2 => k1 a (by omega)) (by rw [k1 269 (by decide)])
      have r1 : I7 (275 + 3) i = rdg f r i := (k4.2.2.2.2 i (by omega)).2.1
      have r2 : I7 (1 + (6 + 4 * r) + 3) i = qg f r i 2 := hx7.go hr8 hi3 (w := 2) (by decide)
      have r3 : I7 (1 + (6 + 4 * r)) 3 = qr f r 3 := hx7.ro hr8 (by omega)
      obtain ⟨c, cc1, cc2, cc3⟩ := qr_f hgr
      have hnz : ¬ Int32.toInt64 (qr f r 3) = 0 := by
        intro q
        have : (Int32.toInt64 (qr f r 3)).toInt = c := by rw [Int32.toInt_toInt64, cc1, nI_toInt (by omega)]
        rw [q] at this
        have : (0 : Int64).toInt = 0 := rfl
        omega
      rw [r1, r2, r3]
      refine s7_q hnz ⟨hin, fun I8 e8 x ex => ?_⟩
      have e8 : I8 = up I7 281 i (crr f r i) := e8
      obtain ⟨b1, b2, b3, b4, b5⟩ := k4
      refine ih (i + 1) (by omega) I8 x (by rw [ex]; exact n_add hv rfl) (fun a h => by rw [e8, up_ne (by omega), k1 a h, g1 a h]) (by rw [e8, up_ne (by decide), k2, g2]) ⟨fun j hj => by rw [e8, up_ne (by decide)]; exact b1 j hj, by rw [e8, up_ne (by decide)]; exact b2, by rw [e8, up_ne (by decide)]; exact b3, by rw [e8, up_ne (by decide)]; exact b4, fun j hj => by rw [e8, up_ne (by decide), up_ne (by decide), up_ne (by decide)]; exact b5 j hj⟩ (fun j hj => ?_)
      rw [e8, up_eq]
      by_cases e : j = i
      · rw [e, upd_s]
      · rw [upd_n e, k3]; exact g4 j (by omega)
  refine key 3 0 rfl I5 0 rfl (fun a h => by rw [y5 a (by omega), y4 a (by omega)]) (by rw [y5 _ (by decide), y4 _ (by decide)]) ⟨w5, v6, v7, ?_, fun j hj => absurd hj (by omega)⟩ (fun j hj => absurd hj (by omega))
  rw [v8]
  exact ⟨fun _ => rfl, fun _ => rfl⟩
end MX
