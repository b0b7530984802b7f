/-! sets, asks -/
section SE
variable {I : gx_M} {f F : Nat → Int32} {hs : Nat → Nat → Int32} {n : Nat} {sn : Nat → Int32} {ha : Nat} {tx : Nat → Int32} {tl : Nat} {re : Int32} {m w k r i j b rq dn bk o s : Nat} {p p0 p1 p2 p3 v x y z : Int32} {Q : Int32 → gx_M → Prop}
theorem gn_fr (h : gn f w rq) (e : ∀ o, 170 ≤ o → o < 250 → F o = f o) (hw : w ≤ 20) : gn F w rq :=
  ⟨fun a ha => by rw [e _ (by omega) (by omega)]; exact h.1 a ha, fun a b hab hb => by rw [e _ (by omega) (by omega), e _ (by omega) (by omega)]; exact h.2 a b hab hb⟩
theorem gi_upd (hi : gi f m w k rq dn bk) (ho : o < 170) (h5 : o ≠ 5) (h6 : o ≠ 6) (hg : gd (upd f o v) m w k) : gi (upd f o v) m w k rq dn bk := by
  obtain ⟨a0, a1, a2, a3, a4, a5, a6⟩ := hi
  exact ⟨hg, by rw [upd_n (Ne.symm h5)]; exact a1, a2, by rw [upd_n (Ne.symm h6)]; exact a3, a4, a5, gn_fr a6 (fun q hq _ => upd_n (by omega)) a0.2.2.2.1⟩
theorem gi_nst (hi : gi f m w k rq dn bk) (hr : r < 8) (hg : gd (nst f r x y z) m w k) : gi (nst f r x y z) m w k rq dn bk := by
  obtain ⟨a0, a1, a2, a3, a4, a5, a6⟩ := hi
  unfold nst at hg ⊢
  exact ⟨hg, by rw [upd_n (by omega), upd_n (by omega), upd_n (by omega)]; exact a1, a2, by rw [upd_n (by omega), upd_n (by omega), upd_n (by omega)]; exact a3, a4, a5, gn_fr a6 (fun q hq _ => by rw [upd_n (by omega), upd_n (by omega), upd_n (by omega)]) a0.2.2.2.1⟩
theorem xL_92 (hx : vx I F hs n sn ha tx tl re) (hg : gd F m w k) (hr : r < m) (hp : p = nI r) (e5 : qr F r 5 = x) (e6 : qr F r 6 = y) (e7 : qr F r 7 = z) (h : ∀ I2 : gx_M, vx I2 F hs n sn ha tx tl re → Q 1 I2) : wj_L_sets_92 Q 0 p x y z I := by
  unfold wj_L_sets_92
  refine x7_rosette hx hg hr hp (q := 5) rfl (by decide) fun I1 hx1 => ⟨fun _ => ?_, fun c => absurd e5 c⟩
  refine x7_rosette hx1 hg hr hp (q := 6) rfl (by decide) fun I2 hx2 => ⟨fun _ => ?_, fun c => absurd e6 c⟩
  refine x7_rosette hx2 hg hr hp (q := 7) rfl (by decide) fun I3 hx3 => ⟨fun _ => ?_, fun c => absurd e7 c⟩
  exact x7_setStrainB hx3 hg hr hp ⟨fun _ => h I3 hx3, fun c => absurd rfl c⟩
theorem xL_209 {u0 u1 : Int32} (hx : vx I F hs n sn ha tx tl re) (hg : gd F m w k) (hr : r < m) (hp : p = nI r) (eu : u1 = u0) (e4 : qr F r 4 = x) (h : ∀ I2 : gx_M, vx I2 F hs n sn ha tx tl re → Q 1 I2) : wj_L_sets_209 Q 0 p x u0 u1 I := by
  unfold wj_L_sets_209
  refine ⟨fun _ => x7_rosette hx hg hr hp (q := 4) rfl (by decide) fun I1 hx1 => ⟨fun _ => ?_, fun c => absurd e4 c⟩, fun c => absurd eu c⟩
  exact x7_setLeadsB hx1 hg hr hp ⟨fun _ => h I1 hx1, fun c => absurd rfl c⟩
theorem xL_304 {u0 u1 : Int32} (hx : vx I F hs n sn ha tx tl re) (hg : gd F m w k) (hr : r < m) (hp : p = nI r) (hp1 : p1 = nI i) (hi : i < 3) (eu : u1 = u0) (e4 : qg F r i 0 = x) (h : ∀ I2 : gx_M, vx I2 F hs n sn ha tx tl re → Q 1 I2) : wj_L_sets_304 Q 0 p p1 x u0 u1 I := by
  unfold wj_L_sets_304
  refine ⟨fun _ => x7_gauge hx hg hr hp hp1 hi (q := 0) rfl (by decide) fun I1 hx1 => ⟨fun _ => ?_, fun c => absurd e4 c⟩, fun c => absurd eu c⟩
  exact x7_setOffsetU hx1 hg hr hp ⟨fun _ => h I1 hx1, fun c => absurd rfl c⟩
theorem xL_401 {u0 u1 : Int32} (hx : vx I F hs n sn ha tx tl re) (hg : gd F m w k) (hr : r < m) (hp : p = nI r) (eu : u1 = u0) (e4 : qr F r 8 = x) (h : ∀ I2 : gx_M, vx I2 F hs n sn ha tx tl re → Q 1 I2) : wj_L_sets_401 Q 0 p x u0 u1 I := by
  unfold wj_L_sets_401
  exact ⟨fun _ => x7_rosette hx hg hr hp (q := 8) rfl (by decide) fun I1 hx1 => ⟨fun _ => h I1 hx1, fun c => absurd e4 c⟩, fun c => absurd eu c⟩
theorem xL_463 {u0 u1 : Int32} (hx : vx I F hs n sn ha tx tl re) (eu : u1 = u0) (e4 : F 3 = x) (h : ∀ I2 : gx_M, vx I2 F hs n sn ha tx tl re → Q 1 I2) : wj_L_sets_463 Q 0 x u0 u1 I := by
  unfold wj_L_sets_463
  refine ⟨fun _ => x7_count hx (q := 7) rfl (by decide) ⟨fun _ => ?_, fun c => absurd e4 c⟩, fun c => absurd eu c⟩
  exact x7_setSizeB ⟨fun _ => h I hx, fun c => absurd rfl c⟩
theorem low_bd {B N : Nat} (hj : j < N) (hN : N ≤ 2 * B + 1) (hB : B < 100000) : -(B : Int) ≤ (nI j - nI B).toInt ∧ (nI j - nI B).toInt ≤ B := by
  rw [pk_sub_toInt (by omega) (by omega)]
  omega
theorem xL_185 {l : Nat} {was : Int32} (hx : vx I f hs n sn ha tx tl re) (hi : gi f m w k rq dn bk) (hr : r < m) (hp : p = nI r) (hl : v = nI l) (hl2 : l ≤ 20000) (hw : was = qr f r 4) (h0 : ∀ I2 : gx_M, vx I2 f hs n sn ha tx tl re → Q 1 I2)
    (h1 : ∀ (f' : Nat → Int32) (I2 : gx_M), gi f' m w k rq dn bk → vx I2 f' (psh hs n f) (psn n) sn ha tx tl re → Q 1 I2) : wj_L_sets_185 Q 0 p was v I := by
  unfold wj_L_sets_185
  refine x7_setLeads hx hi.1 hr hp hl hl2 (fun e => ⟨fun _ => xL_209 hx hi.1 hr hp rfl e h0, fun c => absurd (hw.trans e) c⟩) (fun e I2 hx2 hg2 => ⟨fun c => absurd (hw.symm.trans c) e, fun _ => ?_⟩)
  exact xL_209 hx2 hg2 hr hp hw.symm upd_s fun I3 hx3 => h1 _ I3 (gi_upd hi (by have := hi.1.2.1; omega) (by omega) (by omega) hg2) hx3
theorem xL_374 {was : Int32} (hx : vx I f hs n sn ha tx tl re) (hi : gi f m w k rq dn bk) (hr : r < m) (hp : p = nI r) (h01 : v = 0 ∨ v = 1) (hw : was = qr f r 8) (h0 : ∀ I2 : gx_M, vx I2 f hs n sn ha tx tl re → Q 1 I2)
    (h1 : ∀ (f' : Nat → Int32) (I2 : gx_M), gi f' m w k rq dn bk → vx I2 f' (psh hs n f) (psn n) sn ha tx tl re → Q 1 I2) : wj_L_sets_374 Q 0 p was v v p 0 I := by
  unfold wj_L_sets_374
  refine x7_setShunt hx hi.1 hr hp h01 (fun e => ⟨fun _ => xL_401 hx hi.1 hr hp rfl e h0, fun c => absurd (hw.trans e) c⟩) (fun e I2 hx2 hg2 => ⟨fun c => absurd (hw.symm.trans c) e, fun _ => ?_⟩)
  exact x7_gauge hx2 hg2 hr hp (i := 0) rfl (by decide) (q := 3) rfl (by decide) fun I3 hx3 => xL_401 hx3 hg2 hr hp rfl upd_s fun I4 hx4 => h1 _ I4 (gi_upd hi (by have := hi.1.2.1; omega) (by omega) (by omega) hg2) hx4
theorem xL_sets (hx : vx I f hs n sn ha tx tl re) (hi : gi f m w k rq dn bk) (hm : 0 < m) (hp1 : p1 = nI s) (hs1 : 1 ≤ s) (hs5 : s ≤ 5) (h0 : ∀ I2 : gx_M, vx I2 f hs n sn ha tx tl re → Q 1 I2)
    (h1 : ∀ (f' : Nat → Int32) (I2 : gx_M), gi f' m w k rq dn bk → vx I2 f' (psh hs n f) (psn n) sn ha tx tl re → Q 1 I2) : wp_L_sets 0 p1 p2 p3 I Q := by
  have hg := hi.1
  have hm8 := hg.2.1
  unfold wp_L_sets
  refine x7_count hx (q := 0) rfl (by decide) (xL_low (p1 := f 0) hg.1 hm (by omega) fun r hr => ?_)
  have hr8 : r < 8 := by omega
  refine ⟨fun _ => ?_, fun c1 => ⟨fun _ => ?_, fun c2 => ⟨fun _ => ?_, fun c3 => ⟨fun _ => ?_, fun c4 => ?_⟩⟩⟩⟩
  · refine xL_low (N := 10001) rfl (by decide) (by decide) fun j1 hj1 x ex => xL_low (N := 10001) rfl (by decide) (by decide) fun j2 hj2 y ey => xL_low (N := 10001) rfl (by decide) (by decide) fun j3 hj3 z ez => ?_
    have b1 : -5000 ≤ x.toInt ∧ x.toInt ≤ 5000 := by rw [ex]; exact low_bd (B := 5000) hj1 (by decide) (by decide)
    have b2 : -5000 ≤ y.toInt ∧ y.toInt ≤ 5000 := by rw [ey]; exact low_bd (B := 5000) hj2 (by decide) (by decide)
    have b3 : -5000 ≤ z.toInt ∧ z.toInt ≤ 5000 := by rw [ez]; exact low_bd (B := 5000) hj3 (by decide) (by decide)
    refine x7_setStrain hx hg hr rfl b1 b2 b3 (fun e5 e6 e7 => ⟨fun _ => xL_92 hx hg hr rfl e5 e6 e7 h0, fun c => absurd rfl c⟩) (fun I2 hx2 hg2 => ?_)
    obtain ⟨c, hc1, hc2⟩ := chg_le (f := f) (r := r) (g := nst f r x y z) 3
    have fin : wj_L_sets_92 Q 0 (nI r) x y z I2 := by
      refine xL_92 hx2 hg2 hr rfl ?_ ?_ upd_s fun I3 hx3 => h1 _ I3 (gi_nst hi hr8 hg2) hx3
      · show nst f r x y z (10 + 20 * r + 5) = x
        unfold nst
        rw [upd_n (by omega), upd_n (by omega), upd_s]
      · show nst f r x y z (10 + 20 * r + 6) = y
        unfold nst
        rw [upd_n (by omega), upd_s]
    have hc1' : chg f (nst f r x y z) r 3 = nI (chg f (nst f r x y z) r 3).toNatClampNeg ∧ (chg f (nst f r x y z) r 3).toNatClampNeg ≤ 3 := by
      obtain ⟨d, hd1, hd2⟩ := chg_le (f := nst f r x y z) (r := r) (g := f) 3
      rw [hd1, nI_clamp (by omega)]
      exact ⟨rfl, hd2⟩
    refine ⟨fun _ => fin, fun _ => ⟨fun c => absurd c (n_neg hc1'.1), fun _ => ⟨fun c => absurd ((n_lt (a := 3) rfl hc1'.1).mp c) (by omega), fun _ => fin⟩⟩⟩
  · refine x7_rosette hx hg hr rfl (q := 4) rfl (by decide) fun I1 hx1 => ⟨fun _ => ?_, fun _ => xL_low (N := 20001) rfl (by decide) (by decide) fun l hl => ?_⟩
    · exact xL_185 hx1 hi hr rfl (l := 0) rfl (by decide) rfl h0 h1
    · exact xL_185 hx1 hi hr rfl (l := l) rfl (by omega) rfl h0 h1
  · refine xL_low (N := 3) rfl (by decide) (by decide) fun i hi3 => x7_gauge hx hg hr rfl (i := i) rfl hi3 (q := 0) rfl (by decide) fun I1 hx1 => xL_low (N := 19999) rfl (by decide) (by decide) fun j hj x ex => ?_
    have b1 : -9999 ≤ x.toInt ∧ x.toInt ≤ 9999 := by rw [ex]; exact low_bd (B := 9999) hj (by decide) (by decide)
    refine x7_setOffset hx1 hg hr rfl (g := i) rfl hi3 b1 (fun e => ⟨fun _ => xL_304 hx1 hg hr rfl rfl hi3 rfl e h0, fun c => absurd e c⟩) (fun e I2 hx2 hg2 => ⟨fun c => absurd c e, fun _ => ?_⟩)
    exact xL_304 hx2 hg2 hr rfl rfl hi3 rfl upd_s fun I3 hx3 => h1 _ I3 (gi_upd hi (by omega) (by omega) (by omega) hg2) hx3
  · refine x7_rosette hx hg hr rfl (q := 8) rfl (by decide) fun I1 hx1 x ex => ?_
    obtain ⟨j, hj, e⟩ := pk_andE p3 (m := 1) 1 rfl
    rw [e] at ex
    have hx01 : x = 0 ∨ x = 1 := by
      have : j = 0 ∨ j = 1 := by omega
      rcases this with h | h
      · left; rw [ex, h]; rfl
      · right; rw [ex, h]; rfl
    refine ⟨fun c => ?_, fun c => ?_⟩
    · rw [c]; exact xL_374 hx1 hi hr rfl (Or.inr rfl) rfl h0 h1
    · rw [hx01.resolve_right c]; exact xL_374 hx1 hi hr rfl (Or.inl rfl) rfl h0 h1
  · refine x7_count hx (q := 7) rfl (by decide) (xL_low (N := 481) rfl (by decide) (by decide) fun j hj x ex => ?_)
    have ex : x = nI (20 + j) := by rw [ex]; exact n_add (a := 20) rfl rfl
    refine x7_setSize hx hg ex (by omega) (by omega) (fun e => ⟨fun _ => xL_463 hx rfl e h0, fun c => absurd e c⟩) (fun e I2 hx2 hg2 => ⟨fun c => absurd c e, fun _ => ?_⟩)
    exact xL_463 hx2 rfl upd_s fun I3 hx3 => h1 _ I3 (gi_upd hi (by decide) (by decide) (by decide) hg2) hx3
/-! asks -/
theorem gi_aj {x y z : Int32} (hi : gi f m w k rq dn bk) (hw : w < 20) (hrq : rq < 999) (ha : ∃ d, x = nI d ∧ d ≤ 2) (hb : ∃ r, y = nI r ∧ r < m) (hc : ∃ u, z = nI u ∧ u ≤ 9) : gi (aj f w x y z) m (w + 1) k (rq + 1) dn bk := by
  obtain ⟨a0, a1, a2, a3, a4, a5, a6⟩ := hi
  have e5 : aj f w x y z 5 = f 5 + 1 := by unfold aj; rw [upd_s]
  have e0 : aj f w x y z (170 + (4 * w + 0)) = f 5 := by
    unfold aj
    rw [upd_n (by omega), upd_n (by omega), upd_n (by omega), upd_n (by omega), upd_n (by omega), upd_s]
  have elo : ∀ a, a < w → aj f w x y z (170 + (4 * a + 0)) = f (170 + (4 * a + 0)) := fun a h => aj_lo (by omega) (by omega) (by omega)
  refine ⟨gd_aj a0 hw ha hb hc, by rw [e5, a1]; exact n_add rfl rfl, by omega, by rw [aj_lo (by omega) (by decide) (by decide)]; exact a3, by omega, a5, fun a h => ?_, fun a b hab hb => ?_⟩
  · by_cases e : a = w
    · rw [e, e0]; exact ⟨rq, a1, by omega⟩
    · rw [elo a (by omega)]
      obtain ⟨c, c1, c2⟩ := a6.1 a (by omega)
      exact ⟨c, c1, by omega⟩
  · rw [elo a (by omega)]
    by_cases e : b = w
    · obtain ⟨c, c1, c2⟩ := a6.1 a (by omega)
      rw [e, e0, a1, c1, nI_toInt (by omega), nI_toInt (by omega)]
      omega
    · rw [elo b (by omega)]; exact a6.2 a b hab (by omega)
theorem xL_asks (hx : vx I f hs n sn ha tx tl re) (hi : gi f m w k rq dn bk) (hm : 0 < m) (hrq : rq < 999) (h0 : ∀ (re' : Int32) (I2 : gx_M), vx I2 f hs n sn ha tx tl re' → Q 1 I2)
    (h1 : ∀ (f' : Nat → Int32) (I2 : gx_M), gi f' m (w + 1) k (rq + 1) dn bk → vx I2 f' (psh hs n f) (psn n) sn ha tx tl re → Q 1 I2) : wp_L_asks 0 p1 p2 I Q := by
  have hg := hi.1
  have hm8 := hg.2.1
  have h4 : f 4 = nI w := hg.2.2.1
  unfold wp_L_asks
  refine x7_count hx (q := 1) rfl (by decide) (x7_count hx (q := 2) rfl (by decide) (xL_low (N := 3) rfl (by decide) (by decide) fun d hd => x7_count hx (q := 0) rfl (by decide) (xL_low (p1 := f 0) hg.1 hm (by omega) fun r hr => xL_low (N := 10) rfl (by decide) (by decide) fun u hu => ?_)))
  refine x7_request hx hg hr (d := d) (u := u) rfl (by omega) rfl rfl (by omega) (fun hw I2 hx2 => ⟨fun _ => ⟨fun _ => ?_, fun c => absurd rfl c⟩, fun c => absurd (by show f 4 = 20; rw [h4, hw]; rfl) c⟩) (fun hw I2 hx2 => ⟨fun c => ?_, fun _ => ⟨fun _ => ?_, fun c => absurd rfl c⟩⟩)
  · exact x7_count hx2 (q := 9) rfl (by decide) ⟨fun _ => h0 1 I2 hx2, fun c => absurd rfl c⟩
  · have := (n_eq (x := f 4) (b := 20) h4 rfl).mp c
    omega
  · have hi2 := gi_aj hi hw hrq ⟨d, rfl, by omega⟩ ⟨r, rfl, hr⟩ ⟨u, rfl, by omega⟩
    refine x7_count hx2 (q := 1) rfl (by decide) ⟨fun _ => ?_, fun c => absurd (by show aj f w (nI d) (nI r) (nI u) 4 = f 4 + 1; rw [h4]; exact hi2.1.2.2.1.trans (nI_succ w)) c⟩
    exact x7_requestB hx2 hi2.1 hm ⟨fun _ => h1 _ I2 hi2 hx2, fun c => absurd rfl c⟩
end SE
