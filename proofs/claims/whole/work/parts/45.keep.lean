/-! keep, restore, small setters -/
theorem gd_size {f : Nat → Int32} {m w k : Nat} {v : Int32} (h : gd f m w k) (hv : ∃ z, v = nI z ∧ 20 ≤ z ∧ z ≤ 500) : gd (upd f 3 v) m w k := by
  obtain ⟨a1, a2, a3, a4, a5, a6, a7, a8, a9, a10⟩ := h
  exact ⟨by rw [upd_n (by decide)]; exact a1, a2, by rw [upd_n (by decide)]; exact a3, a4, by rw [upd_n (by decide)]; exact a5, a6, by rw [upd_s]; exact hv, by rw [upd_n (by decide)]; exact a8, fun r hr => gr_upd (a9 r hr) (by omega), fun j hj => gj_upd (a10 j hj) (by omega)⟩
theorem st_keep : ∀ (I : gx_M) (J : gx_MM), gv_Inv I J → wp_X7_keep 0 I (fun r I1 => wp_X8_keep 0 J (fun r2 J1 => r = r2 ∧ gv_Inv I1 J1)) := by
  intro I J hI
  obtain ⟨f, hs, n, sn, ha, tx, tl, re, hx, hm, gf, gh, gs⟩ := id hI
  unfold wp_X7_keep
  refine s6_copy (b := 39) (b' := 1) (by decide +kernel) (by decide +kernel) (by omega) fun I1 g1 g2 I2 e2 => ?_
  have e2 : I2 = up I1 0 2 1 := e2
  have z : ∀ a, a ≠ 0 → I2 a = I1 a := fun a h => by rw [e2, up_ne h]
  obtain ⟨x0, x1, x2, x3, x4, x5, x6, x7, x8, x9, x10, x11, x12⟩ := hx
  have hx2 : vx I2 f hs n f 1 tx tl re := by
    refine ⟨fun o ho => ?_, by rw [z 77 (by decide), g1 77 (by omega)]; exact x1, x2, by rw [z 78 (by decide), g1 78 (by omega)]; exact x3, by rw [z 78 (by decide), g1 78 (by omega)]; exact x4, fun i hi o ho => ?_, ?_, by decide, fun _ o ho => ?_, ?_, by rw [z 269 (by decide), g1 269 (by omega)]; exact x10, x11, by rw [z 270 (by decide), g1 270 (by omega)]; exact x12⟩
    · rw [fl_same (fun a h1 h2 => by rw [z a (by omega), g1 a (by omega)]) ho]; exact x0 o ho
    · rw [z 78 (by decide), g1 78 (by omega)]
      have := sd_in (I 78 i)
      rw [fl_same (fun a h1 h2 => by rw [z a (by omega), g1 a (by omega)]) ho]; exact x5 i hi o ho
    · rw [e2, up_eq, upd_s]; rfl
    · rw [fl_same (I := I1) (fun a h1 h2 => z a (by omega)) ho, g2 o ho]; exact x0 o ho
    · rw [e2, up_eq, upd_n (by decide), g1 0 (by omega)]; exact x9
  have hv : I2 1 3 = f 0 := by rw [← hx2.1 0 (by decide)]; rfl
  obtain ⟨y1, y2, y3, y4, y5, y6, y7, y8, y9, y10⟩ := hm
  have key : ∀ (d i : Nat), i + d = 298 → ∀ (J2 : gx_MM) (v : Int32), v = nI i → (∀ a, a ≠ 3 → J2.1 a = J.1 a) → (∀ o, o < i → J2.1 3 o = f o) → wl_X8_keep_2 (fun r2 J1 => I2 1 3 = r2 ∧ gv_Inv I2 J1) (d + 1) 0 v J2 := by
    intro d
    induction d with
    | zero =>
      intro i hi J2 v hv2 g1 g2
      have hi5 : i = 298 := by omega
      subst hi5
      rw [wl_X8_keep_2]
      refine ⟨fun _ J3 e3 => ⟨ix_of (n := 0) (N := 298) rfl (by decide), ?_⟩, fun h => absurd ((n_le (a := 298) rfl hv2).mpr (by omega)) h⟩
      have z3 : ∀ a, a ≠ 0 → J3.1 a = J2.1 a := fun a h => by rw [e3, um_ne h]
      have z0 : ∀ k, k ≠ 4 → J3.1 0 k = J.1 0 k := fun k hk => by rw [e3, um_eq, upd_n hk, g1 0 (by decide)]
      refine ⟨?_, f, hs, n, f, 1, tx, tl, re, hx2, ⟨?_, ?_, y3, ?_, ?_, fun _ o ho => ?_, ?_, ?_, y9, ?_⟩, gf, gh, fun _ => gf⟩
      · rw [hv]
        show _ = J3.1 1 0
        rw [z3 1 (by decide), g1 1 (by decide), y1 0 (by decide)]
      · rw [z3 1 (by decide), g1 1 (by decide)]; exact y1
      · rw [z0 2 (by decide)]; exact y2
      · rw [z3 2 (by decide), g1 2 (by decide)]; exact y4
      · rw [e3, um_eq, upd_s]; rfl
      · rw [z3 3 (by decide)]; exact g2 o ho
      · rw [z0 5 (by decide)]; exact y7
      · rw [z0 12 (by decide)]; exact y8
      · rw [z3 5 (by decide), g1 5 (by decide)]; exact y10
    | succ d ih =>
      intro i hi J2 v hv2 g1 g2
      rw [wl_X8_keep_2]
      have hc : v.toNatClampNeg = i := cl_of hv2
      refine ⟨fun h => absurd ((n_le (a := 298) rfl hv2).mp h) (by omega), fun _ => ⟨ix_of (N := 298) hv2 (by omega), ix_of (N := 298) hv2 (by omega), fun J3 e3 x ex => ?_⟩⟩
      rw [hc] at e3
      have e3 : J3 = um J2 3 i (J2.1 1 i) := e3
      refine ih (i + 1) (by omega) J3 x (by rw [ex]; exact n_add hv2 rfl) (fun a h => by rw [e3, um_ne h, g1 a h]) (fun o ho => ?_)
      rw [e3, um_eq]
      by_cases e : o = i
      · rw [e, upd_s, g1 1 (by decide)]; exact y1 i (by omega)
      · rw [upd_n e]; exact g2 o (by omega)
  exact ⟨298 + 1, key 298 0 rfl J 0 rfl (fun _ _ => rfl) (fun o ho => absurd ho (by omega))⟩
theorem st_restore : ∀ (I : gx_M) (J : gx_MM), gv_Inv I J → wp_X7_restore 0 I (fun r I1 => wp_X8_restore 0 J (fun r2 J1 => r = r2 ∧ gv_Inv I1 J1)) := by
  intro I J hI
  obtain ⟨f, hs, n, sn, ha, tx, tl, re, hx, hm, gf, gh, gs⟩ := id hI
  have a1 : I 0 2 &&& 1 = nI ha := hx.2.2.2.2.2.2.1
  have a2 : ha ≤ 1 := hx.2.2.2.2.2.2.2.1
  have b1 : J.1 0 4 &&& 1 = nI ha := hm.2.2.2.2.1
  unfold wp_X7_restore wp_X8_restore
  refine ⟨fun c => ⟨fun _ => ⟨rfl, hI⟩, fun h => absurd (by rw [b1, ← a1]; exact c) h⟩, fun c => ?_⟩
  have h1 : ha = 1 := by
    refine Nat.le_antisymm a2 (Nat.pos_of_ne_zero fun q => c ?_)
    rw [a1, q]; rfl
  have gsn := gs h1
  refine s0_add hx fun I1 hx1 z1 => ?_
  have hsn : ∀ o, o < 298 → fl I1 39 o = sn o := hx1.2.2.2.2.2.2.2.2.1 h1
  refine s6_into (b := 39) (g := sn) (by decide +kernel) (by decide) hx1 hsn fun I2 hx2 => ?_
  refine ⟨fun h => absurd (by rw [a1, ← b1]; exact h) c, fun _ => s8_save hm fun J1 hm1 z2 => ?_⟩
  have hv : I2 1 3 = sn 0 := by rw [← hx2.1 0 (by decide)]; rfl
  obtain ⟨y1, y2, y3, y4, y5, y6, y7, y8, y9, y10⟩ := hm1
  have key : ∀ (d i : Nat), i + d = 298 → ∀ (J2 : gx_MM) (v : Int32), v = nI i → (∀ a, a ≠ 1 → J2.1 a = J1.1 a) → (∀ o, o < i → J2.1 1 o = sn o) → wl_X8_restore_16 (fun r2 J1 => I2 1 3 = r2 ∧ gv_Inv I2 J1) (d + 1) 0 v J2 := by
    intro d
    induction d with
    | zero =>
      intro i hi J2 v hv2 g1 g2
      have hi5 : i = 298 := by omega
      subst hi5
      rw [wl_X8_restore_16]
      refine ⟨fun _ => ⟨ix_of (n := 0) (N := 298) rfl (by decide), ?_⟩, fun h => absurd ((n_le (a := 298) rfl hv2).mpr (by omega)) h⟩
      refine ⟨?_, sn, _, _, sn, ha, tx, tl, re, hx2, ⟨g2, ?_, y3, ?_, ?_, ?_, ?_, ?_, y9, ?_⟩, gsn, psh_good hx.2.2.1 gh gf, gs⟩
      · rw [hv]; exact (g2 0 (by decide)).symm
      · rw [g1 0 (by decide)]; exact y2
      · rw [g1 2 (by decide)]; exact y4
      · rw [g1 0 (by decide)]; exact y5
      · rw [g1 3 (by decide)]; exact y6
      · rw [g1 0 (by decide)]; exact y7
      · rw [g1 0 (by decide)]; exact y8
      · rw [g1 5 (by decide)]; exact y10
    | succ d ih =>
      intro i hi J2 v hv2 g1 g2
      rw [wl_X8_restore_16]
      have hc : v.toNatClampNeg = i := cl_of hv2
      refine ⟨fun h => absurd ((n_le (a := 298) rfl hv2).mp h) (by omega), fun _ => ⟨ix_of (N := 298) hv2 (by omega), ix_of (N := 298) hv2 (by omega), fun J3 e3 x ex => ?_⟩⟩
      rw [hc] at e3
      have e3 : J3 = um J2 1 i (J2.1 3 i) := e3
      refine ih (i + 1) (by omega) J3 x (by rw [ex]; exact n_add hv2 rfl) (fun a h => by rw [e3, um_ne h, g1 a h]) (fun o ho => ?_)
      rw [e3, um_eq]
      by_cases e : o = i
      · rw [e, upd_s, g1 3 (by decide)]; exact y6 h1 i (by omega)
      · rw [upd_n e]; exact g2 o (by omega)
  exact ⟨298 + 1, key 298 0 rfl J1 0 rfl (fun _ _ => rfl) (fun o ho => absurd ho (by omega))⟩
theorem st_setSize : ∀ (I : gx_M) (J : gx_MM) (p0 : Int32), gv_Inv I J → wp_X7_setSize 0 p0 I (fun r I1 => wp_X8_setSize 0 p0 J (fun r2 J1 => r = r2 ∧ gv_Inv I1 J1)) := by
  intro I J p0 hI
  obtain ⟨f, hs, n, sn, ha, tx, tl, re, hx, hm, gf, gh, gs⟩ := id hI
  unfold wp_X7_setSize wp_X8_setSize
  have ax : I 1 4 = f 3 := by rw [← hx.1 3 (by decide)]; rfl
  have am : J.1 (0 + 1) (3 : Int32).toNatClampNeg = f 3 := hm.1 3 (by decide)
  refine s7_w (fun c1 c2 => ⟨fun h => absurd h (by decide), fun _ x ex => ?_⟩) (fun c => ⟨fun _ => s8_w (fun d1 d2 => absurd ⟨d1, d2⟩ c) (fun _ => ⟨fun _ => ⟨rfl, hI⟩, fun h => absurd rfl h⟩), fun h => absurd rfl h⟩)
  have ex : x = f 3 := by rw [ex]; exact ax
  refine ⟨fun e => s8_w (fun d1 d2 => ⟨fun h => absurd h (by decide), fun _ => ⟨ix_of (n := 3) (N := 298) rfl (by decide), fun y ey => ⟨fun _ => ⟨rfl, hI⟩, fun h => absurd (by rw [ey, am, ← ex]; exact e) h⟩⟩⟩) (fun d => absurd ⟨c1, c2⟩ d), fun e => ?_⟩
  refine s0_add hx fun I1 hx1 z1 I2 e2 => ?_
  refine s8_w (fun d1 d2 => ⟨fun h => absurd h (by decide), fun _ => ⟨ix_of (n := 3) (N := 298) rfl (by decide), fun y ey => ⟨fun h => absurd (by rw [ex, ← am, ← ey]; exact h) e, fun _ => ?_⟩⟩⟩) (fun d => absurd ⟨c1, c2⟩ d)
  refine s8_save hm fun J1 hm1 z2 => ⟨ix_of (n := 3) (N := 298) rfl (by decide), fun J2 f2 => ?_⟩
  have e2 : I2 = up I1 (1 + 0) 4 p0 := e2
  have f2 : J2 = um J1 1 3 p0 := f2
  refine ⟨by rw [ex, ey, am], upd f 3 p0, _, _, sn, ha, tx, tl, re, ?_, ?_, ?_, psh_good hx.2.2.1 gh gf, gs⟩
  · rw [e2]; exact hx1.put (o0 := 3) (by decide) rfl rfl
  · rw [f2]; exact hm1.put
  · obtain ⟨m, w, k, hg⟩ := gf
    obtain ⟨z, hz, ez⟩ := n_ofle (m := 500) (n := 500) (x := p0) rfl (by decide) (fun h => absurd c1 (i_nle.mpr (Int32.lt_trans h (by decide)))) c2
    exact ⟨m, w, k, gd_size hg ⟨z, ez, (n_le (a := 20) rfl ez).mp c1, hz⟩⟩
theorem st_setLeads : ∀ (I : gx_M) (J : gx_MM) (p0 p1 : Int32), gv_Inv I J → wp_X7_setLeads 0 p0 p1 I (fun r I1 => wp_X8_setLeads 0 p0 p1 J (fun r2 J1 => r = r2 ∧ gv_Inv I1 J1)) := by
  intro I J p0 p1 hI
  obtain ⟨f, hs, n, sn, ha, tx, tl, re, hx, hm, gf, gh, gs⟩ := id hI
  obtain ⟨m, w, k, hg⟩ := id gf
  have hm8 := hg.2.1
  unfold wp_X7_setLeads wp_X8_setLeads
  refine s6_find (hx.mo hg) hm8 (fun r hr hp => ?_) (fun hp => ?_)
  · refine ⟨fun h => (by cases h), fun b hb _ => ?_⟩
    cases hb
    refine s7_w (fun c1 c2 => ⟨fun h => absurd h (by decide), fun _ x ex => ?_⟩) (fun c => ⟨fun _ => ?_, fun h => absurd rfl h⟩)
    · rw [hx.ro (by omega) (by omega)] at ex
      refine ⟨fun e => ?_, fun e => ?_⟩
      · refine s8_no_t (hm.mo hg) hm8 hr hp ⟨fun _ => s8_w (fun d1 d2 => ⟨fun h => absurd h (by decide), fun _ => ?_⟩) (fun d => absurd ⟨c1, c2⟩ d), fun h => absurd rfl h⟩
        exact s8_of hm hp (q := 4) rfl (by omega) ⟨fun _ => ⟨rfl, hI⟩, fun h => absurd (by rw [← ex]; exact e) h⟩
      · refine s0_add hx fun I1 hx1 z1 I2 e2 => ?_
        refine s8_no_t (hm.mo hg) hm8 hr hp ⟨fun _ => s8_w (fun d1 d2 => ⟨fun h => absurd h (by decide), fun _ => ?_⟩) (fun d => absurd ⟨c1, c2⟩ d), fun h => absurd rfl h⟩
        refine s8_of hm hp (q := 4) rfl (by omega) ⟨fun h => absurd (by rw [ex]; exact h) e, fun _ => ?_⟩
        refine s8_save hm fun J1 hm1 z2 => s8_put hm1 hp (q := 4) rfl (by omega) fun J2 hm2 z3 => ?_
        obtain ⟨lo1, lo2, lo3⟩ := lo_r r (by omega) 4 (by decide)
        refine ⟨ex, _, _, _, sn, ha, tx, tl, re, ?_, hm2, ⟨m, w, k, gd_ros hg hr (by decide) ?_⟩, psh_good hx.2.2.1 gh gf, gs⟩
        · have h3 := hx1.put (v := p1) (by omega) lo1 lo2
          rw [show fl_nz (10 + 20 * r + 4) p1 = p1 by unfold fl_nz; rw [lo3]; rfl] at h3
          rw [e2]; exact h3
        · obtain ⟨z, hz, ez⟩ := n_ofle (m := 20000) (n := 20000) (x := p1) rfl (by decide) (i_nlt.mpr c1) c2
          obtain ⟨g1, g2, g3, g4, g5, g6, g7, g8⟩ := hg.2.2.2.2.2.2.2.2.1 r hr
          refine ⟨by rw [upd_n (by omega)]; exact g1, by rw [upd_n (by omega)]; exact g2, by rw [upd_n (by omega)]; exact g3, by rw [upd_n (by omega)]; exact g4, by rw [upd_s]; exact ⟨z, ez, hz⟩, fun q hq => by rw [upd_n (by omega)]; exact g6 q hq, by rw [upd_n (by omega)]; exact g7, fun k hk => ?_⟩
          rw [upd_n (by omega), upd_n (by omega), upd_n (by omega)]
          exact g8 k hk
    · exact s8_no_t (hm.mo hg) hm8 hr hp ⟨fun _ => s8_w (fun d1 d2 => absurd ⟨d1, d2⟩ c) (fun _ => ⟨fun _ => ⟨rfl, hI⟩, fun h => absurd rfl h⟩), fun h => absurd rfl h⟩
  · refine ⟨fun _ => s8_no_f (hm.mo hg) hm8 hp ⟨fun h => absurd h (by decide), fun _ => ⟨rfl, hI⟩⟩, fun b hb => (by cases hb)⟩
