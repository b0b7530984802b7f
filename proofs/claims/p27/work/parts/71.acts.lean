/-! WHAT EACH ACT DOES -/
theorem gd_size {f : Nat → Int32} {m w k : Nat} {v : Int32} (h : gd f m w k) (hv : ∃ z, v = nI z ∧ 20 ≤ z ∧ z ≤ 500) : gd (upd f 3 v) m w k := by
  obtain ⟨a1, a2, a3, a4, a5, a6, a7, a8, a9, a10⟩ := h
  exact ⟨by rw [upd_n (by decide)]; exact a1, a2, by rw [upd_n (by decide)]; exact a3, a4, by rw [upd_n (by decide)]; exact a5, a6, by rw [upd_s]; exact hv, by rw [upd_n (by decide)]; exact a8, fun r hr => gr_upd (a9 r hr) (by omega), fun j hj => gj_upd (a10 j hj) (by omega)⟩
section ACTS
variable {I : gx_M} {f : Nat → Int32} {hs : Nat → Nat → Int32} {n : Nat} {sn : Nat → Int32} {ha : Nat} {tx : Nat → Int32} {tl : Nat} {re : Int32} {m w k r q : Nat} {p p0 p1 p2 p3 : Int32} {Q : Int32 → gx_M → Prop}
theorem i_bd {v : Int32} {b : Int32} {B : Int} (hb : b.toInt = B) (hnb : (-b).toInt = -B) (h : -B ≤ v.toInt ∧ v.toInt ≤ B) : -b ≤ v ∧ v ≤ b := ⟨Int32.le_iff_toInt_le.mpr (by omega), Int32.le_iff_toInt_le.mpr (by omega)⟩
theorem x7_setStrain (hx : vx I f hs n sn ha tx tl re) (hg : gd f m w k) (hr : r < m) (hp0 : p0 = nI r) (b1 : -5000 ≤ p1.toInt ∧ p1.toInt ≤ 5000) (b2 : -5000 ≤ p2.toInt ∧ p2.toInt ≤ 5000) (b3 : -5000 ≤ p3.toInt ∧ p3.toInt ≤ 5000)
    (h1 : qr f r 5 = p1 → qr f r 6 = p2 → qr f r 7 = p3 → Q (-1000004) I)
    (h2 : ∀ I2 : gx_M, vx I2 (nst f r p1 p2 p3) (psh hs n f) (psn n) sn ha tx tl re → gd (nst f r p1 p2 p3) m w k → Q (chg f (nst f r p1 p2 p3) r 3) I2) : wp_X7_setStrain 0 p0 p1 p2 p3 I Q := by
  have hm8 := hg.2.1
  have hr8 : r < 8 := by omega
  have a5 : I (1 + (6 + 4 * r)) 5 = qr f r 5 := hx.ro hr8 (by omega)
  have a6 : I (1 + (6 + 4 * r)) 6 = qr f r 6 := hx.ro hr8 (by omega)
  have a7 : I (1 + (6 + 4 * r)) 7 = qr f r 7 := hx.ro hr8 (by omega)
  have hg1 : gd (upd f (10 + 20 * r + 5) p1) m w k := gd_ros hg hr (by decide) (gr_xyg (hg.2.2.2.2.2.2.2.2.1 r hr) (by omega) b1)
  have hg2 : gd (upd (upd f (10 + 20 * r + 5) p1) (10 + 20 * r + 6) p2) m w k := gd_ros hg1 hr (by decide) (gr_xyg (hg1.2.2.2.2.2.2.2.2.1 r hr) (by omega) b2)
  have hg3 : gd (nst f r p1 p2 p3) m w k := gd_ros hg2 hr (by decide) (gr_xyg (hg2.2.2.2.2.2.2.2.2.1 r hr) (by omega) b3)
  unfold wp_X7_setStrain
  refine s6_find_t (hx.mo hg) hm8 hr hp0 ⟨fun h => (by cases h), fun b hb hkb => ?_⟩
  cases hb
  refine s7_a (fun _ _ => ⟨fun h => absurd h (by decide), fun _ => s7_a (fun _ _ => ⟨fun h => absurd h (by decide), fun _ => s7_a (fun _ _ => ⟨fun h => absurd h (by decide), fun _ => ?_⟩) (fun d => absurd (i_bd (b := 5000) (B := 5000) rfl rfl b3) d)⟩) (fun d => absurd (i_bd (b := 5000) (B := 5000) rfl rfl b2) d)⟩) (fun d => absurd (i_bd (b := 5000) (B := 5000) rfl rfl b1) d)
  rw [a5, a6, a7]
  have mid : wj_X7_setStrain_83 Q 0 p1 p2 p3 (1 + (6 + 4 * r)) I := by
    unfold wj_X7_setStrain_83
    refine s0_add hx fun I1 hx1 z1 => ?_
    have hp3 : I1 (0 + 1) 4 = f 3 := hx1.1 3 (by decide)
    refine s2_take hx1 hg hr hp3 fun I2 hx2 z2 z9 hme => ?_
    unfold wp_X2_holdReadings
    refine ⟨⟨⟨by decide, by decide, by decide⟩, by decide, by decide⟩, fun I3 e3 I4 e4 I5 e5 I6 e6 => ?_⟩
    have z3 : ∀ a, a ≠ 279 → I3 a = I2 a := fun a h => by rw [e3]; exact upr_ne h
    have hx3 : vx I3 f (psh hs n f) (psn n) sn ha tx tl re := hx2.fr (fun a h1 h2 => z3 a (by omega)) (by rw [z3 269 (by decide)])
    have v3 : ∀ j, j < 3 → I3 279 j = rdg f r j := by
      intro j hj
      rw [e3]
      show upr I2 279 _ 279 j = _
      rw [upr_eq]
      show va_cpy (I2 278) (I2 279) 0 0 3 j = _
      rw [pk_cpy_in (Nat.zero_le _) (by omega)]
      rw [show 0 + (j - 0) = j by omega]
      exact (hme.1.2.2.2.2 j hj).2.1
    have hx4 : vx I4 (upd f (10 + 20 * r + 5) p1) (psh hs n f) (psn n) sn ha tx tl re := by rw [e4]; exact hx3.putr hr8 (by decide) (fun h => by omega)
    have hx5 : vx I5 (upd (upd f (10 + 20 * r + 5) p1) (10 + 20 * r + 6) p2) (psh hs n f) (psn n) sn ha tx tl re := by rw [e5]; exact hx4.putr hr8 (by decide) (fun h => by omega)
    have hx6 : vx I6 (nst f r p1 p2 p3) (psh hs n f) (psn n) sn ha tx tl re := by rw [e6]; exact hx5.putr hr8 (by decide) (fun h => by omega)
    have v6 : ∀ j, j < 3 → I6 279 j = rdg f r j := by
      intro j hj
      rw [e6, up_ne (by omega), e5, up_ne (by omega), e4, up_ne (by omega)]
      exact v3 j hj
    have hp6 : I6 (0 + 1) 4 = (nst f r p1 p2 p3) 3 := hx6.1 3 (by decide)
    refine s2_take hx6 hg3 hr hp6 fun I7 hx7 z7 y7 hme7 => ?_
    exact s2_changed (f := nst f r p1 p2 p3) (g := f) (r := r) (fun j hj => (hme7.1.2.2.2.2 j hj).2.1) (fun j hj => by rw [y7]; exact v6 j hj) (h2 I7 hx7 hg3)
  exact ⟨fun e5 => ⟨fun e6 => ⟨fun e7 => h1 e5 e6 e7, fun _ => mid⟩, fun _ => mid⟩, fun _ => mid⟩
theorem chg_le {g : Nat → Int32} : ∀ i, ∃ c, chg g f r i = nI c ∧ c ≤ i := by
  intro i
  induction i with
  | zero => exact ⟨0, rfl, Nat.le_refl _⟩
  | succ i ih =>
    obtain ⟨c, h1, h2⟩ := ih
    unfold chg
    split
    · exact ⟨c, h1, by omega⟩
    · exact ⟨c + 1, by rw [h1]; exact n_add rfl rfl, by omega⟩
theorem x7_setStrainB (hx : vx I f hs n sn ha tx tl re) (hg : gd f m w k) (hr : r < m) (hp0 : p0 = nI r) (h : Q (-1000002) I) : wp_X7_setStrain 0 p0 (5001 : Int32) (0 : Int32) (0 : Int32) I Q := by
  unfold wp_X7_setStrain
  refine s6_find_t (hx.mo hg) hg.2.1 hr hp0 ⟨fun h => (by cases h), fun b hb hkb => ?_⟩
  exact s7_a (fun _ c => absurd c (by decide)) (fun _ => ⟨fun _ => h, fun e => absurd rfl e⟩)
theorem x7_setLeads {l : Nat} (hx : vx I f hs n sn ha tx tl re) (hg : gd f m w k) (hr : r < m) (hp0 : p0 = nI r) (hp1 : p1 = nI l) (hl : l ≤ 20000)
    (h1 : qr f r 4 = p1 → Q (-1000004) I) (h2 : ¬ qr f r 4 = p1 → ∀ I2 : gx_M, vx I2 (upd f (10 + 20 * r + 4) p1) (psh hs n f) (psn n) sn ha tx tl re → gd (upd f (10 + 20 * r + 4) p1) m w k → Q (qr f r 4) I2) : wp_X7_setLeads 0 p0 p1 I Q := by
  have hm8 := hg.2.1
  unfold wp_X7_setLeads
  refine s6_find_t (hx.mo hg) hm8 hr hp0 ⟨fun h => (by cases h), fun b hb hkb => ?_⟩
  cases hb
  refine s7_w (fun c1 c2 => ⟨fun h => absurd h (by decide), fun _ x ex => ?_⟩) (fun c => absurd ⟨(n_le (a := 0) rfl hp1).mpr (by omega), (n_le (b := 20000) hp1 rfl).mpr hl⟩ c)
  rw [hx.ro (by omega) (by omega)] at ex
  have ex : x = qr f r 4 := ex
  rw [ex]
  refine ⟨h1, fun e => s0_add hx fun I1 hx1 z1 I2 e2 => h2 e I2 ?_ (gd_ros hg hr (by decide) ?_)⟩
  · rw [e2]; exact hx1.putr (by omega) (by decide) (fun h => by omega)
  · obtain ⟨g1, g2, g3, g4, g5, g6, g7, g8⟩ := hg.2.2.2.2.2.2.2.2.1 r hr
    refine ⟨by rw [upd_n (by omega)]; exact g1, by rw [upd_n (by omega)]; exact g2, by rw [upd_n (by omega)]; exact g3, by rw [upd_n (by omega)]; exact g4, by rw [upd_s]; exact ⟨l, hp1, hl⟩, fun q hq => by rw [upd_n (by omega)]; exact g6 q hq, by rw [upd_n (by omega)]; exact g7, fun k hk => ?_⟩
    rw [upd_n (by omega), upd_n (by omega), upd_n (by omega)]
    exact g8 k hk
theorem x7_setLeadsB (hx : vx I f hs n sn ha tx tl re) (hg : gd f m w k) (hr : r < m) (hp0 : p0 = nI r) (h : Q (-1000002) I) : wp_X7_setLeads 0 p0 (-1 : Int32) I Q := by
  unfold wp_X7_setLeads
  refine s6_find_t (hx.mo hg) hg.2.1 hr hp0 ⟨fun h => (by cases h), fun b hb hkb => ?_⟩
  exact s7_w (fun c _ => absurd c (by decide)) (fun _ => ⟨fun _ => h, fun e => absurd rfl e⟩)
theorem x7_setOffset {g : Nat} (hx : vx I f hs n sn ha tx tl re) (hg : gd f m w k) (hr : r < m) (hp0 : p0 = nI r) (hp1 : p1 = nI g) (hg3 : g < 3) (b2 : -9999 ≤ p2.toInt ∧ p2.toInt ≤ 9999)
    (h1 : qg f r g 0 = p2 → Q (-1000004) I) (h2 : ¬ qg f r g 0 = p2 → ∀ I2 : gx_M, vx I2 (upd f (10 + 20 * r + (9 + 3 * g + 0)) p2) (psh hs n f) (psn n) sn ha tx tl re → gd (upd f (10 + 20 * r + (9 + 3 * g + 0)) p2) m w k → Q (qg f r g 0) I2) : wp_X7_setOffset 0 p0 p1 p2 I Q := by
  have hm8 := hg.2.1
  unfold wp_X7_setOffset
  refine s6_find_t (hx.mo hg) hm8 hr hp0 ⟨fun h => (by cases h), fun b hb hkb => ?_⟩
  cases hb
  have n3 : nX (1 + (6 + 4 * r) + 1) = 3 := (nX_r hkb).1
  rw [n3]
  have hcg : p1.toNatClampNeg = g := cl_of hp1
  refine ⟨fun c => absurd c (n_neg hp1), fun c0 => ⟨fun c1 => ?_, fun c1 => absurd ((n_lt (b := 3) hp1 rfl).mpr hg3) c1⟩⟩
  refine s7_a (fun d1 d2 => ⟨fun h => absurd h (by decide), fun _ => ⟨ix_of hp1 hg3 (by decide), fun x ex => ?_⟩⟩) (fun d => absurd (i_bd (b := 9999) (B := 9999) rfl rfl b2) d)
  have ex : x = qg f r g 0 := by
    rw [ex, hcg]; exact hx.go (r := r) (k := g) (w := 0) (by omega) hg3 (by decide)
  rw [ex]
  refine ⟨h1, fun e => s0_add hx fun I1 hx1 z1 => ⟨ix_of hp1 hg3 (by decide), fun I2 e2 => h2 e I2 ?_ (gd_ros hg hr (by omega) ?_)⟩⟩
  · rw [hcg] at e2
    rw [e2]; exact hx1.putg (by omega) hg3 (u := 0) (by decide)
  · obtain ⟨g1, g2, g3, g4, g5, g6, g7, g8⟩ := hg.2.2.2.2.2.2.2.2.1 r hr
    refine ⟨by rw [upd_n (by omega)]; exact g1, by rw [upd_n (by omega)]; exact g2, by rw [upd_n (by omega)]; exact g3, by rw [upd_n (by omega)]; exact g4, by rw [upd_n (by omega)]; exact g5, fun q hq => by rw [upd_n (by omega)]; exact g6 q hq, by rw [upd_n (by omega)]; exact g7, fun k hk => ?_⟩
    rw [upd_n (show 10 + 20 * r + (9 + 3 * k + 1) ≠ 10 + 20 * r + (9 + 3 * g + 0) by omega), upd_n (show 10 + 20 * r + (9 + 3 * k + 2) ≠ 10 + 20 * r + (9 + 3 * g + 0) by omega)]
    refine ⟨?_, (g8 k hk).2⟩
    by_cases e3 : k = g
    · rw [e3, upd_s]; exact b2
    · rw [upd_n (by omega)]; exact (g8 k hk).1
theorem x7_setOffsetU (hx : vx I f hs n sn ha tx tl re) (hg : gd f m w k) (hr : r < m) (hp0 : p0 = nI r) (h : Q (-1000001) I) : wp_X7_setOffset 0 p0 (3 : Int32) (0 : Int32) I Q := by
  unfold wp_X7_setOffset
  refine s6_find_t (hx.mo hg) hg.2.1 hr hp0 ⟨fun h => (by cases h), fun b hb hkb => ?_⟩
  cases hb
  have n3 : nX (1 + (6 + 4 * r) + 1) = 3 := (nX_r hkb).1
  rw [n3]
  exact ⟨fun c => absurd c (by decide), fun _ => ⟨fun c => absurd c (by decide), fun _ => h⟩⟩
theorem x7_setShunt (hx : vx I f hs n sn ha tx tl re) (hg : gd f m w k) (hr : r < m) (hp0 : p0 = nI r) (h01 : p1 = 0 ∨ p1 = 1)
    (h1 : qr f r 8 = p1 → Q (-1000004) I) (h2 : ¬ qr f r 8 = p1 → ∀ I2 : gx_M, vx I2 (upd f (10 + 20 * r + 8) p1) (psh hs n f) (psn n) sn ha tx tl re → gd (upd f (10 + 20 * r + 8) p1) m w k → Q (rdg (upd f (10 + 20 * r + 8) p1) r 0) I2) : wp_X7_setShunt 0 p0 p1 I Q := by
  have hm8 := hg.2.1
  have hr8 : r < 8 := by omega
  have hpp : p1 &&& 1 = p1 := by rcases h01 with h | h <;> rw [h] <;> rfl
  unfold wp_X7_setShunt
  refine s6_find_t (hx.mo hg) hm8 hr hp0 ⟨fun h => (by cases h), fun b hb hkb => ?_⟩
  cases hb
  have a8 : I (1 + (6 + 4 * r)) 8 &&& 1 = qr f r 8 := hx.rb hr8 (Or.inr rfl)
  rw [a8]
  refine ⟨h1, fun c => s0_add hx fun I1 hx1 z1 => ⟨hpp, fun I3 e3 => ?_⟩⟩
  have hx3 : vx I3 (upd f (10 + 20 * r + 8) p1) (psh hs n f) (psn n) sn ha tx tl re := by
    rw [e3]; exact hx1.putr hr8 (by decide) (fun _ => hpp)
  have hg3 : gd (upd f (10 + 20 * r + 8) p1) m w k := by
    refine gd_ros hg hr (by decide) ?_
    obtain ⟨g1, g2, g3, g4, g5, g6, g7, g8⟩ := hg.2.2.2.2.2.2.2.2.1 r hr
    refine ⟨by rw [upd_n (by omega)]; exact g1, by rw [upd_n (by omega)]; exact g2, by rw [upd_n (by omega)]; exact g3, by rw [upd_n (by omega)]; exact g4, by rw [upd_n (by omega)]; exact g5, fun q hq => by rw [upd_n (by omega)]; exact g6 q hq, ?_, fun k hk => ?_⟩
    · rw [upd_s]
      rcases h01 with h | h
      · exact ⟨0, h, by decide⟩
      · exact ⟨1, h, by decide⟩
    · rw [upd_n (by omega), upd_n (by omega), upd_n (by omega)]
      exact g8 k hk
  have hp3 : I3 (0 + 1) 4 = (upd f (10 + 20 * r + 8) p1) 3 := hx3.1 3 (by decide)
  refine s2_take hx3 hg3 hr hp3 fun I4 hx4 z4 z9 hme => ⟨ix_of (n := 0) (N := 3) rfl (by decide), ?_⟩
  have e4 : I4 (0 + 275 + 3) (0 : Int32).toNatClampNeg = rdg (upd f (10 + 20 * r + 8) p1) r 0 := (hme.1.2.2.2.2 0 (by decide)).2.1
  rw [e4]
  exact h2 c I4 hx4 hg3
theorem x7_setSize {z : Nat} (hx : vx I f hs n sn ha tx tl re) (hg : gd f m w k) (hp0 : p0 = nI z) (hz1 : 20 ≤ z) (hz2 : z ≤ 500)
    (h1 : f 3 = p0 → Q (-1000004) I) (h2 : ¬ f 3 = p0 → ∀ I2 : gx_M, vx I2 (upd f 3 p0) (psh hs n f) (psn n) sn ha tx tl re → gd (upd f 3 p0) m w k → Q (f 3) I2) : wp_X7_setSize 0 p0 I Q := by
  unfold wp_X7_setSize
  have ax : I (0 + 1) 4 = f 3 := hx.1 3 (by decide)
  refine s7_w (fun c1 c2 => ⟨fun h => absurd h (by decide), fun _ x ex => ?_⟩) (fun c => absurd ⟨(n_le (a := 20) rfl hp0).mpr hz1, (n_le (b := 500) hp0 rfl).mpr hz2⟩ c)
  rw [ax] at ex
  rw [ex]
  refine ⟨h1, fun e => s0_add hx fun I1 hx1 z1 I2 e2 => h2 e I2 ?_ (gd_size hg ⟨z, hp0, hz1, hz2⟩)⟩
  have e2 : I2 = up I1 (1 + 0) 4 p0 := e2
  rw [e2]; exact hx1.put (o0 := 3) (by decide) rfl rfl
theorem x7_setSizeB (h : Q (-1000002) I) : wp_X7_setSize 0 (19 : Int32) I Q := by
  unfold wp_X7_setSize
  exact s7_w (fun c _ => absurd c (by decide)) (fun _ => ⟨fun _ => h, fun e => absurd rfl e⟩)
theorem x7_request {d u : Nat} (hx : vx I f hs n sn ha tx tl re) (hg : gd f m w k) (hr : r < m) (hp0 : p0 = nI d) (hd : d ≤ 2) (hp1 : p1 = nI r) (hp2 : p2 = nI u) (hu : u ≤ 9)
    (h1 : w = 20 → ∀ I2 : gx_M, vx I2 f hs n sn ha tx tl 1 → Q (-1000003) I2) (h2 : w < 20 → ∀ I2 : gx_M, vx I2 (aj f w p0 p1 p2) (psh hs n f) (psn n) sn ha tx tl re → Q (f 5) I2) : wp_X7_request 0 p0 p1 p2 I Q := by
  have hm8 := hg.2.1
  have hw20 := hg.2.2.2.1
  unfold wp_X7_request
  refine s6_find_t (hx.mo hg) hm8 hr hp1 ⟨fun h => (by cases h), fun b hb _ => ?_⟩
  refine s7_w (fun c1 c2 => ⟨fun h => absurd h (by decide), fun _ => ?_⟩) (fun c => absurd ⟨(n_le (a := 0) rfl hp0).mpr (by omega), (n_le (b := 2) hp0 rfl).mpr hd⟩ c)
  refine s7_w (fun d1 d2 => ⟨fun h => absurd h (by decide), fun _ => ?_⟩) (fun c => absurd ⟨(n_le (a := 0) rfl hp2).mpr (by omega), (n_le (b := 9) hp2 rfl).mpr hu⟩ c)
  have aw : I (0 + 1 + 2) 1 = nI w := hx.wo hg
  refine ⟨fun c => ?_, fun c => ?_⟩
  · have hw : w < 20 := (n_lt (b := 20) aw rfl).mp c
    exact s0_add hx fun I1 hx1 z1 => s6_addJob (w := w) hx1 hg.2.2.1 hw fun I2 hx2 z2 => h2 hw I2 hx2
  · have hw : w = 20 := by
      have : ¬ w < 20 := fun q => c ((n_lt (b := 20) aw rfl).mpr q)
      omega
    unfold wp_X7_refuse
    intro I1 e1
    exact h1 hw I1 (by rw [e1]; exact hx.re)
theorem x7_requestB (hx : vx I f hs n sn ha tx tl re) (hg : gd f m w k) (hm : 0 < m) (h : Q (-1000002) I) : wp_X7_request 0 (3 : Int32) (0 : Int32) (0 : Int32) I Q := by
  unfold wp_X7_request
  refine s6_find_t (hx.mo hg) hg.2.1 hm rfl ⟨fun h => (by cases h), fun b hb _ => ?_⟩
  exact s7_w (fun _ c => absurd c (by decide)) (fun _ => ⟨fun _ => h, fun e => absurd rfl e⟩)
theorem x7_cancel (hx : vx I f hs n sn ha tx tl re) (hg : gd f m w k) (hr : r < m) (hp0 : p0 = nI r)
    (h1 : cw f p0 w = 0 → Q (-1000004) I) (h2 : ¬ cw f p0 w = 0 → ∀ I2 : gx_M, vx I2 (cxs p0 w f w).1 (psh hs n f) (psn n) sn ha tx tl re → Q (nI (cw f p0 w)) I2) : wp_X7_cancel 0 p0 I Q := by
  have hw := hg.2.2.2.1
  have hcw := cw_le f p0 w
  unfold wp_X7_cancel
  refine s6_find_t (hx.mo hg) hg.2.1 hr hp0 ⟨fun h => (by cases h), fun b hb _ => s6_jobsFor hx hg ⟨fun c => ?_, fun c => ?_⟩⟩
  · exact h1 ((n_eq (b := 0) (x := nI (cw f p0 w)) rfl rfl).mp c)
  · refine s0_add hx fun I1 hx1 z1 x ex => ⟨w + 1, s6_dloop w f w I1 x hg hx1 (Nat.le_refl _) (by rw [ex, show I1 (0 + 1 + 2) 1 = nI w from hx1.wo hg]) fun I2 hx2 z2 => ?_⟩
    exact h2 (fun q => c (by rw [q]; rfl)) I2 hx2
theorem x7_cancelU (hx : vx I f hs n sn ha tx tl re) (hg : gd f 0 w k) (h : Q (-1000001) I) : wp_X7_cancel 0 p0 I Q := by
  unfold wp_X7_cancel
  exact s6_find (hx.mo hg) (by decide) (fun r hr _ => absurd hr (by omega)) (fun _ => ⟨fun _ => h, fun b hb => (by cases hb)⟩)
theorem x7_nextN (hx : vx I f hs n sn ha tx tl re) (hg : gd f m 0 k) (h : Q (-1000004) I) : wp_X7_next 0 I Q := by
  have aw : I (0 + 1 + 2) 1 = nI 0 := hx.wo hg
  unfold wp_X7_next
  exact ⟨fun _ => h, fun c => absurd aw c⟩
theorem x7_next {b : Nat} (hx : vx I f hs n sn ha tx tl re) (hg : gd f m w k) (hb : pks f 0 (f 1) w = some b) (h : ∀ I2 : gx_M, vx I2 (dj f w k b) (psh hs n f) (psn n) sn ha tx tl (jrs f w b re) → Q (f (170 + (4 * b + 0))) I2) : wp_X7_next 0 I Q := by
  have hbw := (pks_some w b hb).1
  have hw := hg.2.2.2.1
  have aw : I (0 + 1 + 2) 1 = nI w := hx.wo hg
  unfold wp_X7_next
  refine ⟨fun c => ?_, fun c => s0_add hx fun I1 hx1 _ => ?_⟩
  · have := (n_eq (b := 0) aw rfl).mp c
    omega
  · exact s3_both hx1 hg hb fun I2 hx2 v2 => s5_jobs hx2 hg v2 hbw (q := 0) rfl (by decide) (s7_doJob hx2 hg hbw v2 fun I3 hx3 => h I3 hx3)
theorem x7_woffN (hx : vx I f hs n sn ha tx tl re) (hg : gd f m 0 k) (h : Q (-1000004) I) : wp_X7_workOff 0 I Q := by
  have aw : I (0 + 1 + 2) 1 = nI 0 := hx.wo hg
  unfold wp_X7_workOff
  intro x ex
  exact ⟨fun _ => h, fun c => absurd (by rw [ex]; exact aw) c⟩
theorem x7_woff (hx : vx I f hs n sn ha tx tl re) (hg : gd f m w k) (hw0 : 0 < w) (h : ∀ I2 : gx_M, vx I2 (wo f w k re w).1 (psh hs n f) (psn n) sn ha tx tl (wo f w k re w).2.2.1 → Q (wo f w k re w).2.2.2 I2) : wp_X7_workOff 0 I Q := by
  have hw := hg.2.2.2.1
  have aw : I (0 + 1 + 2) 1 = nI w := hx.wo hg
  unfold wp_X7_workOff
  intro x ex
  rw [aw] at ex
  refine ⟨fun c => ?_, fun c => s0_add hx fun I1 hx1 _ x2 ex2 => ⟨w + 1, ?_⟩⟩
  · have := (n_eq (b := 0) ex rfl).mp c
    omega
  · have ex2 : x2 = f 7 := by rw [ex2]; exact hx1.1 7 (by decide)
    exact s7_woff (re := re) hg ex ex2 (fun I2 hx2 => h I2 hx2) w 0 (by omega) I1 0 rfl hx1
theorem x7_add {a c : Nat} (hx : vx I f hs n sn ha tx tl re) (hg : gd f m w k) (hp0 : p0 = nI a) (ha1 : a ≤ 1000) (h01 : p1 = 0 ∨ p1 = 1) (h2 : p2 = 120 ∨ p2 = 350) (hp3 : p3 = nI c) (hc1 : 180 ≤ c) (hc2 : c ≤ 240)
    (h8 : m = 8 → ∀ I2 : gx_M, vx I2 f hs n sn ha tx tl 1 → Q (-1000003) I2) (h6 : m < 8 → 0 < m → ∀ I2 : gx_M, vx I2 f hs n sn ha tx tl 6 → Q (-1000003) I2)
    (h : m < 8 → ∀ I2 : gx_M, vx I2 (adr f m p0 p1 p2 p3) (psh hs n f) (psn n) sn ha tx tl re → gd (adr f m p0 p1 p2 p3) (m + 1) w k → Q (nI m) I2) : wp_X7_addRosette 0 p0 p1 p2 p3 I Q := by
  have hm8 := hg.2.1
  have hpp : p1 &&& 1 = p1 := by rcases h01 with h | h <;> rw [h] <;> rfl
  have main : wj_X7_addRosette_13 Q 0 p0 p1 p2 p3 I := by
    unfold wj_X7_addRosette_13 wj_X7_addRosette_18
    refine s7_w (fun c1 c2 => ⟨fun h => absurd h (by decide), fun _ => ⟨fun h => absurd h (by decide), fun _ => ?_⟩⟩) (fun c => absurd ⟨(n_le (a := 0) rfl hp0).mpr (by omega), (n_le (b := 1000) hp0 rfl).mpr ha1⟩ c)
    refine s7_w (fun d1 d2 => ⟨fun h => absurd h (by decide), fun _ x ex => ?_⟩) (fun d => absurd ⟨(n_le (a := 180) rfl hp3).mpr hc1, (n_le (b := 240) hp3 rfl).mpr hc2⟩ d)
    have ex : x = nI m := by rw [ex]; exact hx.mo hg
    refine ⟨fun h => absurd h (n_neg ex), fun _ => ⟨fun h8' => ?_, fun h8' I1 e1 => ?_⟩⟩
    · have hmlt : m < 8 := (n_lt (b := 8) ex rfl).mp h8'
      refine s6_has hx hg (fun r hr he => ⟨fun h => absurd h (by decide), fun _ I1 e1 => h6 hmlt (by omega) I1 (by rw [e1]; exact hx.re)⟩) (fun hno => ⟨fun _ => s0_add hx fun I1 hx1 z1 => ⟨ix_of (N := 8) ex hmlt, ?_⟩, fun h => absurd rfl h⟩)
      rw [cl_of ex, show 0 + 1 + 1 + 5 + 4 * m = 1 + (6 + 4 * m) by omega]
      refine s4_begin hmlt hpp fun I2 y1 y2 y3 I3 e3 => ?_
      have e23 : I2 (0 + 1) 3 = nI m := by show I2 1 3 = _; rw [y1 1 (by omega)]; exact hx1.mo hg
      have hx3 : vx I3 (adr f m p0 p1 p2 p3) (psh hs n f) (psn n) sn ha tx tl re := by
        refine vx_adr hx1 hmlt hpp (fun a h1 h => by rw [e3, up_ne h1, y1 a h]) (fun q hq => ?_) ?_ (fun q hq => ?_) (fun u hu i hi => ?_)
        · rw [e3, up_eq, upd_n hq, y1 1 (by omega)]
        · rw [e3, up_eq, upd_s]; exact n_add e23 rfl
        · rw [e3, up_ne (by omega)]; exact y2 q hq
        · rw [e3, up_ne (by omega)]; exact y3 u hu i hi
      rw [ex]
      exact h hmlt I3 hx3 (gd_adr hg hmlt ⟨a, hp0, ha1⟩ h01 h2 ⟨c, hp3, hc1, hc2⟩)
    · have hm88 : m = 8 := by
        have : ¬ m < 8 := fun q => h8' ((n_lt (b := 8) ex rfl).mpr q)
        omega
      exact h8 hm88 I1 (by rw [e1]; exact hx.re)
  unfold wp_X7_addRosette
  exact ⟨fun _ => main, fun e => ⟨fun _ => main, fun e2 => absurd (h2.resolve_left e) e2⟩⟩
theorem x7_undoN (hx : vx I f hs 0 sn ha tx tl re) (h : Q (-1000004) I) : wp_X7_undo 0 I Q := by
  have a1 : I 77 1 = nI 0 := hx.2.1
  unfold wp_X7_undo wp_X0_takeLatest
  exact ⟨fun _ => ⟨fun _ => h, fun b hb => (by cases hb)⟩, fun c => absurd ((n_le (b := 0) a1 rfl).mpr (Nat.le_refl _)) c⟩
theorem x7_undo (hx : vx I f hs n sn ha tx tl re) (hn0 : 0 < n) (h : ∀ I2 : gx_M, vx I2 (hs (n - 1)) hs (n - 1) sn ha tx tl re → Q (nI (n - 1)) I2) : wp_X7_undo 0 I Q := by
  have a1 : I 77 1 = nI n := hx.2.1
  have hn : n ≤ 5 := hx.2.2.1
  unfold wp_X7_undo wp_X0_takeLatest
  refine ⟨fun c => ?_, fun c => ⟨fun _ I1 e1 => ?_, fun c5 => absurd ((n_le (b := 5) a1 rfl).mpr hn) c5⟩⟩
  · have := (n_le (b := 0) a1 rfl).mp c
    omega
  · have e1 : I1 = up I 77 1 (I 77 1 - 1) := e1
    have v1 : I1 77 1 = nI (n - 1) := by rw [e1, up_eq, upd_s]; exact n_sub (b := 1) a1 rfl
    have z : ∀ a, a ≠ 77 → I1 a = I a := fun a h => by rw [e1, up_ne h]
    have hc : (I1 77 1).toNatClampNeg = n - 1 := cl_of v1
    refine ⟨ix_of (N := 5) v1 (by omega), ?_⟩
    refine ⟨fun h => (by cases h), fun b hb hk => ?_⟩
    have hb : some (sd (I1 78 (I1 77 1).toNatClampNeg)) = some b := hb
    rw [hc, z 78 (by decide)] at hb
    have hb : sd (I 78 (n - 1)) = b := Option.some.inj hb
    obtain ⟨x0, x1, x2, x3, x4, x5, x6, x7, x8, x9, x10, x11, x12⟩ := hx
    have hsd := sd_in (I 78 (n - 1))
    have hx1 : vx I1 f hs (n - 1) sn ha tx tl re := by
      refine ⟨fun o ho => ?_, v1, by omega, by rw [z 78 (by decide)]; exact x3, by rw [z 78 (by decide)]; exact x4, fun i hi o ho => ?_, by rw [z 0 (by decide)]; exact x6, x7, fun q o ho => ?_, by rw [z 0 (by decide)]; exact x9, by rw [z 269 (by decide)]; exact x10, x11, by rw [z 270 (by decide)]; exact x12⟩
      · rw [fl_same (fun a h1 h2 => z a (by omega)) ho]; exact x0 o ho
      · rw [z 78 (by decide)]
        have := sd_in (I 78 i)
        rw [fl_same (fun a h1 h2 => z a (by omega)) ho]; exact x5 i (by omega) o ho
      · rw [fl_same (fun a h1 h2 => z a (by omega)) ho]; exact x8 q o ho
    refine s6_into (b := b) (g := hs (n - 1)) hk (by omega) hx1 (fun o ho => ?_) fun I2 hx2 => ?_
    · rw [← hb, fl_same (fun a h1 h2 => z a (by omega)) ho]
      exact x5 (n - 1) (by omega) o ho
    · have e2 : I2 (0 + 77) 1 = nI (n - 1) := hx2.2.1
      rw [e2]
      exact h I2 hx2
theorem x7_restoreN (hx : vx I f hs n sn 0 tx tl re) (h : Q (-1000004) I) : wp_X7_restore 0 I Q := by
  have a1 : I 0 2 &&& 1 = nI 0 := hx.2.2.2.2.2.2.1
  unfold wp_X7_restore
  exact ⟨fun _ => h, fun c => absurd a1 c⟩
theorem x7_readJobs0 (hx : vx I f hs n sn ha tx 0 re) (h : ∀ I2 : gx_M, vx I2 f hs n sn ha tx 0 re → Q (-100) I2) : wp_X7_readJobs 0 I Q := by
  have a1 : I 269 2 = nI 0 := hx.2.2.2.2.2.2.2.2.2.2.1
  unfold wp_X7_readJobs wp_X1_findFault
  intro I1 e1
  have e1 : I1 = up I 271 1 0 := e1
  have hx1 : vx I1 f hs n sn ha tx 0 re := by rw [e1]; exact hx.fr (fun a h1 h2 => up_ne (by omega)) (by rw [up_ne (by decide)])
  have a2 : I1 (0 + 269) 2 = 0 := by rw [e1]; show up I 271 1 0 269 2 = 0; rw [up_ne (by decide)]; exact a1
  refine ⟨0 + 1, ?_⟩
  rw [wl_X1_findFault_12]
  rw [a2]
  refine ⟨fun _ => ?_, fun c => absurd (by decide) c⟩
  unfold wj_X1_findFault_54
  refine ⟨fun c => absurd c (by decide), fun _ => ⟨fun c => absurd c (by decide), fun _ => ?_⟩⟩
  rw [a2]
  exact ⟨fun c => absurd c (by decide), fun _ => h I1 hx1⟩
end ACTS
