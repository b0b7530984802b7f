/-! the strain is set -/
def chg (g f : Nat → Int32) (r : Nat) : Nat → Int32
  | 0 => 0
  | i + 1 => if rdg f r i = rdg g r i then chg g f r i else chg g f r i + 1
section SX
variable {I : gx_M} {J : gx_MM} {f : Nat → Int32} {hs : Nat → Nat → Int32} {n : Nat} {sn : Nat → Int32} {ha : Nat} {tx : Nat → Int32} {tl : Nat} {re : Int32} {m w k r q : Nat} {p0 v2 v3 v4 : Int32} {g : Nat → Int32}
theorem s2_changed {Q : Int32 → gx_M → Prop} (h1 : ∀ j, j < 3 → I 278 j = rdg f r j) (h2 : ∀ j, j < 3 → I 279 j = rdg g r j) (h : Q (chg g f r 3) I) : wp_X2_readingsChanged 275 I Q := by
  have key : ∀ (d i : Nat), i + d = 3 → ∀ (v1 v2 : Int32), v1 = chg g f r i → v2 = nI i → wl_X2_readingsChanged_4 Q (d + 1) 275 v1 v2 I := by
    intro d
    induction d with
    | zero =>
      intro i hi v1 v2 e1 e2
      rw [wl_X2_readingsChanged_4]
      exact ⟨fun _ => by rw [e1, show i = 3 by omega]; exact h, fun h => absurd ((n_le (a := 3) rfl e2).mpr (by omega)) h⟩
    | succ d ih =>
      intro i hi v1 v2 e1 e2
      have hin : vp_in v2 3 := ix_of e2 (by omega)
      have w1 : I (275 + 3) i = rdg f r i := h1 i (by omega)
      have w2 : I (275 + 4) i = rdg g r i := h2 i (by omega)
      rw [wl_X2_readingsChanged_4]
      rw [cl_of e2, w1, w2]
      refine ⟨fun h => absurd ((n_le (a := 3) rfl e2).mp h) (by omega), fun _ => ⟨hin, hin, fun c x ex => ih (i + 1) (by omega) v1 x ?_ (by rw [ex]; exact n_add e2 rfl), fun c y ey x ex => ih (i + 1) (by omega) y x ?_ (by rw [ex]; exact n_add e2 rfl)⟩⟩
      · conv => rhs; unfold chg
        rw [if_pos c, e1]
      · conv => rhs; unfold chg
        rw [if_neg c, ey, e1]
  exact ⟨3 + 1, key 3 0 rfl 0 0 rfl rfl⟩
/-- the row with the new strain -/
def nst (f : Nat → Int32) (r : Nat) (x y z : Int32) : Nat → Int32 := upd (upd (upd f (10 + 20 * r + 5) x) (10 + 20 * r + 6) y) (10 + 20 * r + 7) z
theorem s8_strain {Q : Int32 → gx_MM → Prop} (hm : vm J f hs n sn ha tx tl re) (hg : gd f m w k) (hg2 : gd (nst f r v2 v3 v4) m w k) (hr : r < m) (hp : p0 = nI r) (hQ : ∀ J' : gx_MM, vm J' (nst f r v2 v3 v4) hs n sn ha tx tl re → Q (chg f (nst f r v2 v3 v4) r 3) J') : ∃ fu, wl_X8_setStrain_97 Q fu 0 p0 v2 v3 v4 (0 : Int32) J := by
  have hgm := gd_gm hg hr
  have hgm2 := gd_gm hg2 hr
  have hr8 := hgm.1
  have loop2 : ∀ (d i : Nat), i + d = 3 → ∀ (J3 : gx_MM) (v5 v6 : Int32), vm J3 (nst f r v2 v3 v4) hs n sn ha tx tl re → (∀ j, j < 3 → J3.1 4 j = rdg f r j) → v5 = chg f (nst f r v2 v3 v4) r i → v6 = nI i → wl_X8_setStrain_153 Q (d + 1) 0 p0 v5 v6 J3 := by
    intro d
    induction d with
    | zero =>
      intro i hi J3 v5 v6 g1 g2 e5 e6
      rw [wl_X8_setStrain_153]
      exact ⟨fun _ => by rw [e5, show i = 3 by omega]; exact hQ J3 g1, fun h => absurd ((n_le (a := 3) rfl e6).mpr (by omega)) h⟩
    | succ d ih =>
      intro i hi J3 v5 v6 g1 g2 e5 e6
      have w1 : J3.1 (0 + 4) i = rdg f r i := g2 i (by omega)
      rw [wl_X8_setStrain_153]
      rw [cl_of e6, w1]
      refine ⟨fun h => absurd ((n_le (a := 3) rfl e6).mp h) (by omega), fun _ => ⟨ix_of (N := 3) e6 (by omega), s8_rdg g1 hp hgm2 e6 (by omega) ⟨fun c x ex y ey => ih (i + 1) (by omega) J3 x y g1 g2 ?_ (by rw [ey]; exact n_add e6 rfl), fun c x ex y ey => ih (i + 1) (by omega) J3 x y g1 g2 ?_ (by rw [ey]; exact n_add e6 rfl)⟩⟩⟩
      · conv => rhs; unfold chg
        rw [if_pos c.symm, ex, e5, Int32.add_zero]
      · conv => rhs; unfold chg
        rw [if_neg (fun q => c q.symm), ex, e5]
  have loop1 : ∀ (d i : Nat), i + d = 3 → ∀ (J3 : gx_MM) (v5 : Int32), vm J3 f hs n sn ha tx tl re → (∀ j, j < i → J3.1 4 j = rdg f r j) → v5 = nI i → wl_X8_setStrain_97 Q (d + 1) 0 p0 v2 v3 v4 v5 J3 := by
    intro d
    induction d with
    | zero =>
      intro i hi J3 v5 g1 g2 e5
      have hi : i = 3 := by omega
      subst hi
      rw [wl_X8_setStrain_97]
      refine ⟨fun _ => s8_put g1 hp (q := 5) rfl (by omega) fun J4 h4 z4 => s8_put h4 hp (q := 6) rfl (by omega) fun J5 h5 z5 => s8_put h5 hp (q := 7) rfl (by omega) fun J6 h6 z6 => ⟨3 + 1, loop2 3 0 rfl J6 0 0 h6 (fun j hj => ?_) rfl rfl⟩, fun h => absurd ((n_le (a := 3) rfl e5).mpr (by omega)) h⟩
      rw [z6 4 (by decide), z5 4 (by decide), z4 4 (by decide)]
      exact g2 j hj
    | succ d ih =>
      intro i hi J3 v5 g1 g2 e5
      rw [wl_X8_setStrain_97]
      refine ⟨fun h => absurd ((n_le (a := 3) rfl e5).mp h) (by omega), fun _ => s8_rdg g1 hp hgm e5 (by omega) ⟨ix_of (N := 3) e5 (by omega), fun J4 e4 x ex => ?_⟩⟩
      rw [cl_of e5] at e4
      have e4 : J4 = um J3 4 i (rdg f r i) := e4
      refine ih (i + 1) (by omega) J4 x (g1.fr (fun a ha => by rw [e4, um_ne (by omega)]) (fun q hq => by rw [e4, um_ne (by omega)])) (fun j hj => ?_) (by rw [ex]; exact n_add e5 rfl)
      rw [e4, um_eq]
      by_cases e : j = i
      · rw [e, upd_s]
      · rw [upd_n e]; exact g2 j (by omega)
  exact ⟨3 + 1, loop1 3 0 rfl J 0 hm (fun j hj => absurd hj (by omega)) rfl⟩
end SX
theorem st_setStrain : ∀ (I : gx_M) (J : gx_MM) (p0 p1 p2 p3 : Int32), gv_Inv I J → wp_X7_setStrain 0 p0 p1 p2 p3 I (fun r I1 => wp_X8_setStrain 0 p0 p1 p2 p3 J (fun r2 J1 => r = r2 ∧ gv_Inv I1 J1)) := by
  intro I J p0 p1 p2 p3 hI
  obtain ⟨f, hs, n, sn, ha, tx, tl, re, hx, hm, gf, gh, gs⟩ := id hI
  obtain ⟨m, w, k, hg⟩ := id gf
  have hm8 := hg.2.1
  unfold wp_X7_setStrain wp_X8_setStrain
  refine s6_find (hx.mo hg) hm8 (fun r hr hp => ?_) (fun hp => ?_)
  · refine ⟨fun h => (by cases h), fun b hb hkb => ?_⟩
    cases hb
    have hr8 : r < 8 := by omega
    have a5 : I (1 + (6 + 4 * r)) 5 = qr f r 5 := hx.ro hr8 (by omega)
    have a6 : I (1 + (6 + 4 * r)) 6 = qr f r 6 := hx.ro hr8 (by omega)
    have a7 : I (1 + (6 + 4 * r)) 7 = qr f r 7 := hx.ro hr8 (by omega)
    refine s7_a (fun b1 b2 => ⟨fun h => absurd h (by decide), fun _ => s7_a (fun c1 c2 => ⟨fun h => absurd h (by decide), fun _ => s7_a (fun d1 d2 => ⟨fun h => absurd h (by decide), fun _ => ?_⟩) (fun d => ⟨fun _ => ?_, fun h => absurd rfl h⟩)⟩) (fun c => ⟨fun _ => ?_, fun h => absurd rfl h⟩)⟩) (fun b => ⟨fun _ => ?_, fun h => absurd rfl h⟩)
    · rw [a5, a6, a7]
      have hg1 : gd (upd f (10 + 20 * r + 5) p1) m w k := gd_ros hg hr (by decide) (gr_xyg (hg.2.2.2.2.2.2.2.2.1 r hr) (by omega) ⟨Int32.le_iff_toInt_le.mp b1, Int32.le_iff_toInt_le.mp b2⟩)
      have hg2 : gd (upd (upd f (10 + 20 * r + 5) p1) (10 + 20 * r + 6) p2) m w k := gd_ros hg1 hr (by decide) (gr_xyg (hg1.2.2.2.2.2.2.2.2.1 r hr) (by omega) ⟨Int32.le_iff_toInt_le.mp c1, Int32.le_iff_toInt_le.mp c2⟩)
      have hg3 : gd (nst f r p1 p2 p3) m w k := gd_ros hg2 hr (by decide) (gr_xyg (hg2.2.2.2.2.2.2.2.2.1 r hr) (by omega) ⟨Int32.le_iff_toInt_le.mp d1, Int32.le_iff_toInt_le.mp d2⟩)
      have mid : ∀ {Q : Int32 → gx_M → Prop}, (∀ I' : gx_M, vx I' (nst f r p1 p2 p3) (psh hs n f) (psn n) sn ha tx tl re → Q (chg f (nst f r p1 p2 p3) r 3) I') → wj_X7_setStrain_83 Q 0 p1 p2 p3 (1 + (6 + 4 * r)) I := by
        intro Q hQ
        unfold wj_X7_setStrain_83
        refine s0_add hx fun I1 hx1 z1 => ?_
        have hp3 : I1 (0 + 1) 4 = f 3 := hx1.1 3 (by decide)
        refine s2_take hx1 hg hr hp3 fun I2 hx2 z2 z9 hme => ?_
        unfold wp_X2_holdReadings
        refine ⟨⟨⟨by decide, by decide, by decide⟩, by decide, by decide⟩, fun I3 e3 I4 e4 I5 e5 I6 e6 => ?_⟩
        have z3 : ∀ a, a ≠ 279 → I3 a = I2 a := fun a h => by rw [e3]; exact upr_ne h
        have hx3 : vx I3 f (psh hs n f) (psn n) sn ha tx tl re := hx2.fr (fun a h1 h2 => z3 a (by omega)) (by rw [z3 269 (by decide)])
        have v3 : ∀ j, j < 3 → I3 279 j = rdg f r j := by
          intro j hj
          rw [e3]
          show upr I2 279 _ 279 j = _
          rw [upr_eq]
          show va_cpy (I2 278) (I2 279) 0 0 3 j = _
          rw [pk_cpy_in (Nat.zero_le _) (by omega)]
          rw [show 0 + (j - 0) = j by omega]
          exact (hme.1.2.2.2.2 j hj).2.1
        have hx4 : vx I4 (upd f (10 + 20 * r + 5) p1) (psh hs n f) (psn n) sn ha tx tl re := by rw [e4]; exact hx3.putr hr8 (by decide) (fun h => by omega)
        have hx5 : vx I5 (upd (upd f (10 + 20 * r + 5) p1) (10 + 20 * r + 6) p2) (psh hs n f) (psn n) sn ha tx tl re := by rw [e5]; exact hx4.putr hr8 (by decide) (fun h => by omega)
        have hx6 : vx I6 (nst f r p1 p2 p3) (psh hs n f) (psn n) sn ha tx tl re := by rw [e6]; exact hx5.putr hr8 (by decide) (fun h => by omega)
        have v6 : ∀ j, j < 3 → I6 279 j = rdg f r j := by
          intro j hj
          rw [e6, up_ne (by omega), e5, up_ne (by omega), e4, up_ne (by omega)]
          exact v3 j hj
        have hp6 : I6 (0 + 1) 4 = (nst f r p1 p2 p3) 3 := hx6.1 3 (by decide)
        refine s2_take hx6 hg3 hr hp6 fun I7 hx7 z7 y7 hme7 => ?_
        refine s2_changed (f := nst f r p1 p2 p3) (g := f) (r := r) (fun j hj => (hme7.1.2.2.2.2 j hj).2.1) (fun j hj => by rw [y7]; exact v6 j hj) (hQ I7 hx7)
      have fin : (¬ (qr f r 5 = p1 ∧ qr f r 6 = p2 ∧ qr f r 7 = p3)) → ∀ I' : gx_M, vx I' (nst f r p1 p2 p3) (psh hs n f) (psn n) sn ha tx tl re → wp_X8_noRosette 0 p0 J (fun r1 I1 => (r1 = 0 → wp_X8_in p1 (-5000 : Int32) (5000 : Int32) I1 (fun r2 I2 => (r2 = 0 → (fun r2 J1 => chg f (nst f r p1 p2 p3) r 3 = r2 ∧ gv_Inv I' J1) (-1000002 : Int32) I2) ∧ (¬ r2 = 0 → wp_X8_in p2 (-5000 : Int32) (5000 : Int32) I2 (fun r3 I3 => (r3 = 0 → (fun r2 J1 => chg f (nst f r p1 p2 p3) r 3 = r2 ∧ gv_Inv I' J1) (-1000002 : Int32) I3) ∧ (¬ r3 = 0 → wp_X8_in p3 (-5000 : Int32) (5000 : Int32) I3 (fun r4 I4 => (r4 = 0 → (fun r2 J1 => chg f (nst f r p1 p2 p3) r 3 = r2 ∧ gv_Inv I' J1) (-1000002 : Int32) I4) ∧ (¬ r4 = 0 → wp_X8_of 0 p0 (5 : Int32) I4 (fun r5 I5 => (r5 = p1 → wp_X8_of 0 p0 (6 : Int32) I5 (fun r6 I6 => (r6 = p2 → wp_X8_of 0 p0 (7 : Int32) I6 (fun r7 I7 => (r7 = p3 → (fun r2 J1 => chg f (nst f r p1 p2 p3) r 3 = r2 ∧ gv_Inv I' J1) (-1000004 : Int32) I7) ∧ (¬ r7 = p3 → wj_X8_setStrain_90 (fun r2 J1 => chg f (nst f r p1 p2 p3) r 3 = r2 ∧ gv_Inv I' J1) 0 p0 p1 p2 p3 I7))) ∧ (¬ r6 = p2 → wj_X8_setStrain_90 (fun r2 J1 => chg f (nst f r p1 p2 p3) r 3 = r2 ∧ gv_Inv I' J1) 0 p0 p1 p2 p3 I6))) ∧ (¬ r5 = p1 → wj_X8_setStrain_90 (fun r2 J1 => chg f (nst f r p1 p2 p3) r 3 = r2 ∧ gv_Inv I' J1) 0 p0 p1 p2 p3 I5))))))))) ∧ (¬ r1 = 0 → (fun r2 J1 => chg f (nst f r p1 p2 p3) r 3 = r2 ∧ gv_Inv I' J1) (-1000001 : Int32) I1)) := by
        intro hne I' hx'
        have act : wj_X8_setStrain_90 (fun r2 J1 => chg f (nst f r p1 p2 p3) r 3 = r2 ∧ gv_Inv I' J1) 0 p0 p1 p2 p3 J := by
          unfold wj_X8_setStrain_90
          refine s8_save hm fun J1 hm1 _ => s8_strain hm1 hg hg3 hr hp fun J2 hm2 => ⟨rfl, _, _, _, sn, ha, tx, tl, re, hx', hm2, ⟨m, w, k, hg3⟩, psh_good hx.2.2.1 gh gf, gs⟩
        refine s8_no_t (hm.mo hg) hm8 hr hp ⟨fun _ => s8_w (fun _ _ => ⟨fun h => absurd h (by decide), fun _ => s8_w (fun _ _ => ⟨fun h => absurd h (by decide), fun _ => s8_w (fun _ _ => ⟨fun h => absurd h (by decide), fun _ => ?_⟩) (fun d => absurd ⟨d1, d2⟩ d)⟩) (fun d => absurd ⟨c1, c2⟩ d)⟩) (fun d => absurd ⟨b1, b2⟩ d), fun h => absurd rfl h⟩
        exact s8_q hm hp hr8 (q := 5) rfl (by decide) ⟨fun e5 => s8_q hm hp hr8 (q := 6) rfl (by decide) ⟨fun e6 => s8_q hm hp hr8 (q := 7) rfl (by decide) ⟨fun e7 => absurd ⟨e5, e6, e7⟩ hne, fun _ => act⟩, fun _ => act⟩, fun _ => act⟩
      refine ⟨fun e5 => ⟨fun e6 => ⟨fun e7 => ?_, fun e7 => mid fun I' h' => fin (fun q => e7 q.2.2) I' h'⟩, fun e6 => mid fun I' h' => fin (fun q => e6 q.2.1) I' h'⟩, fun e5 => mid fun I' h' => fin (fun q => e5 q.1) I' h'⟩
      refine s8_no_t (hm.mo hg) hm8 hr hp ⟨fun _ => s8_w (fun _ _ => ⟨fun h => absurd h (by decide), fun _ => s8_w (fun _ _ => ⟨fun h => absurd h (by decide), fun _ => s8_w (fun _ _ => ⟨fun h => absurd h (by decide), fun _ => ?_⟩) (fun d => absurd ⟨d1, d2⟩ d)⟩) (fun d => absurd ⟨c1, c2⟩ d)⟩) (fun d => absurd ⟨b1, b2⟩ d), fun h => absurd rfl h⟩
      exact s8_q hm hp hr8 (q := 5) rfl (by decide) ⟨fun _ => s8_q hm hp hr8 (q := 6) rfl (by decide) ⟨fun _ => s8_q hm hp hr8 (q := 7) rfl (by decide) ⟨fun _ => ⟨rfl, hI⟩, fun h => absurd e7 h⟩, fun h => absurd e6 h⟩, fun h => absurd e5 h⟩
    · exact s8_no_t (hm.mo hg) hm8 hr hp ⟨fun _ => s8_w (fun _ _ => ⟨fun h => absurd h (by decide), fun _ => s8_w (fun _ _ => ⟨fun h => absurd h (by decide), fun _ => s8_w (fun q1 q2 => absurd ⟨q1, q2⟩ d) (fun _ => ⟨fun _ => ⟨rfl, hI⟩, fun h => absurd rfl h⟩)⟩) (fun d => absurd ⟨c1, c2⟩ d)⟩) (fun d => absurd ⟨b1, b2⟩ d), fun h => absurd rfl h⟩
    · exact s8_no_t (hm.mo hg) hm8 hr hp ⟨fun _ => s8_w (fun _ _ => ⟨fun h => absurd h (by decide), fun _ => s8_w (fun q1 q2 => absurd ⟨q1, q2⟩ c) (fun _ => ⟨fun _ => ⟨rfl, hI⟩, fun h => absurd rfl h⟩)⟩) (fun d => absurd ⟨b1, b2⟩ d), fun h => absurd rfl h⟩
    · exact s8_no_t (hm.mo hg) hm8 hr hp ⟨fun _ => s8_w (fun q1 q2 => absurd ⟨q1, q2⟩ b) (fun _ => ⟨fun _ => ⟨rfl, hI⟩, fun h => absurd rfl h⟩), fun h => absurd rfl h⟩
  · exact ⟨fun _ => s8_no_f (hm.mo hg) hm8 hp ⟨fun h => absurd h (by decide), fun _ => ⟨rfl, hI⟩⟩, fun b hb => (by cases hb)⟩
