/-! signals, readings, steps -/
theorem szv_t {x : Int32} (h : -1000000 ≤ x.toInt ∧ x.toInt ≤ 1000000) : (szv x).toInt = (x.toInt.natAbs : Int) := by
  have e0 : (0 : Int32).toInt = 0 := rfl
  unfold szv
  by_cases c : 0 ≤ x
  · rw [if_pos c]
    have := Int32.le_iff_toInt_le.mp c
    omega
  · rw [if_neg c, Int32.toInt_neg, Int.bmod_eq_of_le (by omega) (by omega)]
    have : ¬ (0 : Int32).toInt ≤ x.toInt := fun q => c (Int32.le_iff_toInt_le.mpr q)
    omega
theorem bey_f {v : Int32} : bey v = false ↔ (-30000 ≤ v.toInt ∧ v.toInt ≤ 30000) := by
  have e1 : (-30000 : Int32).toInt = -30000 := rfl
  have e2 : (30000 : Int32).toInt = 30000 := rfl
  unfold bey
  rw [decide_eq_false_iff_not, Classical.not_not, Int32.le_iff_toInt_le, Int32.le_iff_toInt_le, e1, e2]
theorem lim_in {v : Int32} (h : -30000 ≤ v.toInt ∧ v.toInt ≤ 30000) : lim v = v := lim_le (Int32.le_iff_toInt_le.mpr h.1) (Int32.le_iff_toInt_le.mpr h.2)
section GA
variable {I : gx_M} {f : Nat → Int32} {hs : Nat → Nat → Int32} {n : Nat} {sn : Nat → Int32} {ha : Nat} {tx : Nat → Int32} {tl : Nat} {re : Int32} {m w k r i : Nat} {p p0 p1 p2 p3 v5 v6 v7 v8 v9 v10 : Int32} {Q : Int32 → gx_M → Prop} {K : Nat → Int32 → Int32 → Int32 → Int32 → gx_M → Prop}
theorem crr_l (h : gr f r) (hi : i < 3) : Int32.toInt64 (crr f r i) = (((Int32.toInt64 (rdg f r i) * Int32.toInt64 (qg f r i 2)) / 1000) * 100) / Int32.toInt64 (qr f r 3) := by
  obtain ⟨c, c1, c2, c3⟩ := qr_f h
  obtain ⟨g1, g2, g3⟩ := h.2.2.2.2.2.2.2 i hi
  have hl := lim_bd (sgn f r i)
  have g4 : -17199000 ≤ (qg f r i 2).toInt ∧ (qg f r i 2).toInt ≤ 17199000 := g3
  have hl2 : -30000 ≤ (rdg f r i).toInt ∧ (rdg f r i).toInt ≤ 30000 := hl
  have eC : (Int32.toInt64 (qr f r 3)).toInt = (c : Int) := by rw [Int32.toInt_toInt64, c1, nI_toInt (by omega)]
  have m1 := ml_bd hl2 g4
  have e1 : (Int32.toInt64 (rdg f r i) * Int32.toInt64 (qg f r i 2)).toInt = (rdg f r i).toInt * (qg f r i 2).toInt := by
    rw [l_mul (by rw [Int32.toInt_toInt64, Int32.toInt_toInt64]; omega), Int32.toInt_toInt64, Int32.toInt_toInt64]
  have b1 := td_bd (x := (rdg f r i).toInt * (qg f r i 2).toInt) (d := 1000) (B := 515970000) (by omega) (by omega)
  have e2 : ((Int32.toInt64 (rdg f r i) * Int32.toInt64 (qg f r i 2)) / 1000).toInt = ((rdg f r i).toInt * (qg f r i 2).toInt).tdiv 1000 := by rw [l_div (d := 1000) rfl (by omega), e1]
  have h100 : (100 : Int64).toInt = 100 := rfl
  have e3 : (((Int32.toInt64 (rdg f r i) * Int32.toInt64 (qg f r i 2)) / 1000) * 100).toInt = ((rdg f r i).toInt * (qg f r i 2).toInt).tdiv 1000 * 100 := by
    rw [l_mul (by rw [e2, h100]; omega), e2, h100]
  have e4 : ((((Int32.toInt64 (rdg f r i) * Int32.toInt64 (qg f r i 2)) / 1000) * 100) / Int32.toInt64 (qr f r 3)).toInt = (((rdg f r i).toInt * (qg f r i 2).toInt).tdiv 1000 * 100).tdiv c := by rw [l_div eC (by omega), e3]
  have b2 := td_bd (x := ((rdg f r i).toInt * (qg f r i 2).toInt).tdiv 1000 * 100) (d := c) (B := 286650000) (by omega) (by omega)
  refine w_inj ?_
  unfold crr
  exact l_32 (by rw [e4]; omega)
theorem xL_226 (hx : vx I f hs n sn ha tx tl re) (hg : gd f m w k) (hr : r < m) (hp : p = nI r) (hi : i < 3) (e7 : v7 = nI i) (e9 : v9 = rdg f r i) (hK : ∀ (I2 : gx_M) (x : Int32), vx I2 f hs n sn ha tx tl re → x = v7 + 1 → K 0 p v5 v6 x I2) : wj_L_gauges_226 Q K 0 p v5 v6 v7 v9 I := by
  have hgr := (gd_gm hg hr).2.1
  obtain ⟨c, c1, c2, c3⟩ := qr_f hgr
  have hnz : ¬ Int32.toInt64 (qr f r 3) = 0 := by
    intro q
    have : (Int32.toInt64 (qr f r 3)).toInt = c := by rw [Int32.toInt_toInt64, c1, nI_toInt (by omega)]
    rw [q] at this
    have : (0 : Int64).toInt = 0 := rfl
    omega
  unfold wj_L_gauges_226
  refine x7_gauge hx hg hr hp e7 hi (q := 5) rfl (by decide) fun I1 hx1 x1 ex1 => x7_gauge hx1 hg hr hp e7 hi (q := 6) rfl (by decide) fun I2 hx2 => x7_rosette hx2 hg hr hp (q := 3) rfl (by decide) fun I3 hx3 => ⟨hnz, fun _ => ?_, fun c => absurd ?_ c⟩
  · refine x7_gauge hx3 hg hr hp e7 hi (q := 4) rfl (by decide) fun I4 hx4 => xL_size ⟨fun _ x ex => hK I4 x hx4 ex, fun c => absurd ?_ c⟩
    have b : -15000 ≤ (qg f r i 1).toInt ∧ (qg f r i 1).toInt ≤ 15000 := (hgr.2.2.2.2.2.2.2 i hi).2.1
    have e2 : (15000 : Int32).toInt = 15000 := rfl
    refine Int32.le_iff_toInt_le.mpr ?_
    show (szv (qg f r i 1)).toInt ≤ _
    rw [szv_t (by omega), e2]
    omega
  · rw [lg_cmp_eq, ex1, e9]
    exact crr_l hgr hi
theorem xL_180 {u0 u1 : Int32} (hx : vx I f hs n sn ha tx tl re) (hg : gd f m w k) (hr : r < m) (hp : p = nI r) (hi : i < 3) (e7 : v7 = nI i) (e9 : v9 = rdg f r i) (e5 : v5 = ld f r (sv f r)) (e10 : v10 = off f r i) (eu : u1 = u0) (hK : ∀ (I2 : gx_M) (x : Int32), vx I2 f hs n sn ha tx tl re → x = v7 + 1 → K 0 p v5 v6 x I2) : wj_L_gauges_180 Q K 0 p v5 v6 v7 v9 v10 u0 u1 I := by
  have hgm := gd_gm hg hr
  have b1 := off_bd hgm.2.1 hi
  have b2 := onn_bd hgm.2.1 hgm.2.2 hi
  have e2 : (30000 : Int32).toInt = 30000 := rfl
  have eo : v10 + v5 = onn f r i := by rw [e10, e5]; rfl
  unfold wj_L_gauges_180
  refine ⟨fun _ => xL_size ⟨fun _ => xL_226 hx hg hr hp hi e7 e9 hK, fun c1 => xL_size ⟨fun _ => xL_226 hx hg hr hp hi e7 e9 hK, fun c2 => ?_⟩⟩, fun c => absurd eu c⟩
  refine x7_gauge hx hg hr hp e7 hi (q := 7) rfl (by decide) fun I1 hx1 => ⟨fun _ => xL_226 hx1 hg hr hp hi e7 e9 hK, fun c => absurd ?_ c⟩
  have c1 := Int32.le_iff_toInt_le.mp (i_nlt.mp c1)
  have c2 := Int32.le_iff_toInt_le.mp (i_nlt.mp c2)
  rw [e10, szv_t (by omega)] at c1
  rw [eo, szv_t (by omega)] at c2
  show stp f r i = v5
  unfold stp
  rw [lim_in (by omega), lim_in (by omega), e5]
  unfold onn
  rw [Int32.add_comm, Int32.add_sub_cancel]
theorem xL_124 {u0 u1 : Int32} (hx : vx I f hs n sn ha tx tl re) (hg : gd f m w k) (hr : r < m) (hp : p = nI r) (hi : i < 3) (e7 : v7 = nI i) (e8 : v8 = sgn f r i) (e9 : v9 = rdg f r i) (e5 : v5 = ld f r (sv f r)) (e6 : v6 = ovc f r i) (eu : u1 - u0 = off f r i) (hK : ∀ (I2 : gx_M) (v6 x : Int32), vx I2 f hs n sn ha tx tl re → v6 = ovc f r (i + 1) → x = v7 + 1 → K 0 p v5 v6 x I2) : wj_L_gauges_124 Q K 0 p v5 v6 v7 v8 v9 u0 u1 I := by
  have hgm := gd_gm hg hr
  have b1 := sgn_bd hgm.2.1 hgm.2.2 hi
  have e2 : (30000 : Int32).toInt = 30000 := rfl
  have hb : szv v8 ≤ 30000 ↔ bey (sgn f r i) = false := by
    rw [bey_f, Int32.le_iff_toInt_le, e8, szv_t (by omega), e2]
    omega
  have go : ∀ (x1 u : Int32), x1 = off f r i → v6 + u = ovc f r (i + 1) → wj_L_gauges_145 Q K 0 p v5 v7 v8 v9 x1 u v6 I := by
    intro x1 u ex1 eu
    unfold wj_L_gauges_145
    intro x2 ex2
    have h2 : x2 = ovc f r (i + 1) := by rw [ex2]; exact eu
    have fin : ∀ u0, v9 = u0 → wj_L_gauges_180 Q K 0 p v5 x2 v7 v9 x1 u0 v9 I := fun u0 h => xL_180 hx hg hr hp hi e7 e9 e5 ex1 h fun I2 x hx2 ex => hK I2 x2 x hx2 h2 ex
    have e9' : v9 = lim v8 := by rw [e9, e8]; rfl
    refine ⟨fun c => ⟨fun c2 => fin _ (by rw [e9']; exact lim_le c2 c), fun c2 => fin _ (by rw [e9']; exact lim_lo c2)⟩, fun c => fin _ (by rw [e9']; exact lim_hi c)⟩
  unfold wj_L_gauges_124
  intro x1 ex1
  rw [eu] at ex1
  refine xL_size ⟨fun c => go x1 0 ex1 ?_, fun c => go x1 1 ex1 ?_⟩
  · conv => rhs; unfold ovc
    rw [if_neg (by rw [hb.mp c]; decide), e6, Int32.add_zero]
  · conv => rhs; unfold ovc
    have : bey (sgn f r i) = true := by
      cases hc : bey (sgn f r i) with
      | true => rfl
      | false => exact absurd (hb.mpr hc) c
    rw [if_pos this, e6]
theorem xL_gauges (hx : vx I f hs n sn ha tx tl re) (hg : gd f m w k) (hr : r < m) (hp : p = nI r) (h : ∀ I2 : gx_M, vx I2 f hs n sn ha tx tl re → Q 1 I2) : wp_L_gauges 0 p I Q := by
  have hgm := gd_gm hg hr
  obtain ⟨l, l1, l2⟩ := qr_L hgm.2.1
  obtain ⟨z, z1, z2, z3⟩ := hgm.2.2
  have q8 := (q01 hgm.2.1).2
  have key : ∀ (dd i : Nat), i + dd = 3 → ∀ (I : gx_M) (v5 v6 v7 : Int32), v5 = ld f r (sv f r) → v6 = ovc f r i → v7 = nI i → vx I f hs n sn ha tx tl re → wl_L_gauges_79 Q (dd + 1) 0 p v5 v6 v7 I := by
    intro dd
    induction dd with
    | zero =>
      intro i hi I v5 v6 v7 e5 e6 e7 hx
      have hi : i = 3 := by omega
      subst hi
      rw [wl_L_gauges_79]
      refine ⟨fun _ => ?_, fun c => absurd ((n_le (a := 3) rfl e7).mpr (by omega)) c⟩
      refine x7_rosette hx hg hr hp (q := 10) rfl (by decide) fun I1 hx1 => ⟨fun _ => ?_, fun c => absurd e6 c⟩
      refine x7_gaugeU hx1 hg hr hp ⟨fun _ => ?_, fun c => absurd rfl c⟩
      exact x7_gauge hx1 hg hr hp (i := 0) rfl (by decide) (q := 8) rfl (by decide) fun I2 hx2 => ⟨fun _ => h I2 hx2, fun c => absurd rfl c⟩
    | succ dd ih =>
      intro i hi I v5 v6 v7 e5 e6 e7 hx
      have hi3 : i < 3 := by omega
      have hK : ∀ (I2 : gx_M) (v6 x : Int32), vx I2 f hs n sn ha tx tl re → v6 = ovc f r (i + 1) → x = v7 + 1 → wl_L_gauges_79 Q (dd + 1) 0 p v5 v6 x I2 := fun I2 v6 x hx2 h6 ex => ih (i + 1) (by omega) I2 v5 v6 x e5 h6 (by rw [ex]; exact n_add e7 rfl) hx2
      rw [wl_L_gauges_79]
      refine ⟨fun c => absurd ((n_le (a := 3) rfl e7).mp c) (by omega), fun _ => ?_⟩
      refine x7_gauge hx hg hr hp e7 hi3 (q := 2) rfl (by decide) fun I1 hx1 => x7_gauge hx1 hg hr hp e7 hi3 (q := 3) rfl (by decide) fun I2 hx2 => x7_rosette hx2 hg hr hp (q := 8) rfl (by decide) fun I3 hx3 => ⟨fun c => xL_124 hx3 hg hr hp hi3 e7 rfl rfl e5 e6 ?_ hK, fun c => xL_124 hx3 hg hr hp hi3 e7 rfl rfl e5 e6 ?_ hK⟩
      · have c : qr f r 8 = 1 := c
        show sgn f r i - v5 = off f r i
        unfold sgn
        rw [if_neg (by rw [c]; decide), e5]
        unfold onn
        exact Int32.add_sub_cancel _ _
      · have c : ¬ qr f r 8 = 1 := c
        show sgn f r i - 0 = off f r i
        unfold sgn
        rw [if_pos (q8.resolve_right c), Int32.sub_zero]
  unfold wp_L_gauges
  refine x7_rosette hx hg hr hp (q := 2) rfl (by decide) fun I1 hx1 x1 ex1 => x7_rosette hx1 hg hr hp (q := 9) rfl (by decide) fun I2 hx2 => x7_rosette hx2 hg hr hp (q := 4) rfl (by decide) fun I3 hx3 => ⟨?_, fun x2 ex2 => ?_⟩
  · rw [ex1]; exact led_nz (qr_R hgm.2.1) l1 l2
  · refine x7_rosette hx3 hg hr hp (q := 2) rfl (by decide) fun I4 hx4 => x7_rosette hx4 hg hr hp (q := 2) rfl (by decide) fun I5 hx5 => x7_count hx5 (q := 7) rfl (by decide) ⟨?_, fun _ => ⟨3 + 1, key 3 0 rfl I5 x2 0 0 ?_ rfl rfl hx5⟩, fun c => absurd rfl c⟩
    · show ¬ (qr f r 2 + (1000 : Int32) * f 3) = 0
      rw [z1]
      exact (sv_x z z3 z2 _ (qr_R hgm.2.1)).2.1
    · rw [ex2, ex1]; rfl
end GA
