/-! count, texts, setOffset -/
theorem st_count : ∀ (I : gx_M) (J : gx_MM) (p0 : Int32), gv_Inv I J → wp_X7_count 0 p0 I (fun r I1 => wp_X8_count 0 p0 J (fun r2 J1 => r = r2 ∧ gv_Inv I1 J1)) := by
  intro I J p0 hI
  obtain ⟨f, hs, n, sn, ha, tx, tl, re, hx, hm, gf, gh, gs⟩ := id hI
  unfold wp_X7_count wp_X8_count
  have e : ∀ o, o < 298 → fl I 1 o = J.1 1 o := fun o ho => by rw [hx.1 o ho, hm.1 o ho]
  have e9 : I 0 5 = J.1 0 5 := by rw [hx.2.2.2.2.2.2.2.2.2.1, hm.2.2.2.2.2.2.1]
  have e10 : I 77 1 = J.1 0 2 := by rw [hx.2.1, hm.2.1]
  have e11 : I 269 2 = J.1 0 12 := by rw [hx.2.2.2.2.2.2.2.2.2.2.1, hm.2.2.2.2.2.2.2.1]
  refine ⟨fun h => ?_, fun h => ?_, fun h => ?_, fun h => ?_, fun h => ?_, fun h => ?_, fun h => ?_, fun h => ?_, fun h => ?_, fun h => ?_, fun h => ?_, fun h => ?_, fun h0 h1 h2 h3 h4 h5 h6 h7 h8 h9 h10 h11 => ?_⟩
  · subst h
    exact ⟨fun _ => ⟨ix_of (n := 0) (N := 298) rfl (by decide), ⟨e 0 (by decide), hI⟩⟩, fun h => absurd h (by decide), fun h => absurd h (by decide), fun h => absurd h (by decide), fun h => absurd h (by decide), fun h => absurd h (by decide), fun h => absurd h (by decide), fun h => absurd h (by decide), fun h => absurd h (by decide), fun h => absurd h (by decide), fun h => absurd h (by decide), fun h => absurd h (by decide), fun h0 h1 h2 h3 h4 h5 h6 h7 h8 h9 h10 h11 => absurd rfl h0⟩
  · subst h
    exact ⟨fun h => absurd h (by decide), fun _ => ⟨ix_of (n := 4) (N := 298) rfl (by decide), ⟨e 4 (by decide), hI⟩⟩, fun h => absurd h (by decide), fun h => absurd h (by decide), fun h => absurd h (by decide), fun h => absurd h (by decide), fun h => absurd h (by decide), fun h => absurd h (by decide), fun h => absurd h (by decide), fun h => absurd h (by decide), fun h => absurd h (by decide), fun h => absurd h (by decide), fun h0 h1 h2 h3 h4 h5 h6 h7 h8 h9 h10 h11 => absurd rfl h1⟩
  · subst h
    exact ⟨fun h => absurd h (by decide), fun h => absurd h (by decide), fun _ => ⟨ix_of (n := 5) (N := 298) rfl (by decide), ⟨e 5 (by decide), hI⟩⟩, fun h => absurd h (by decide), fun h => absurd h (by decide), fun h => absurd h (by decide), fun h => absurd h (by decide), fun h => absurd h (by decide), fun h => absurd h (by decide), fun h => absurd h (by decide), fun h => absurd h (by decide), fun h => absurd h (by decide), fun h0 h1 h2 h3 h4 h5 h6 h7 h8 h9 h10 h11 => absurd rfl h2⟩
  · subst h
    exact ⟨fun h => absurd h (by decide), fun h => absurd h (by decide), fun h => absurd h (by decide), fun _ => ⟨ix_of (n := 6) (N := 298) rfl (by decide), ⟨e 6 (by decide), hI⟩⟩, fun h => absurd h (by decide), fun h => absurd h (by decide), fun h => absurd h (by decide), fun h => absurd h (by decide), fun h => absurd h (by decide), fun h => absurd h (by decide), fun h => absurd h (by decide), fun h => absurd h (by decide), fun h0 h1 h2 h3 h4 h5 h6 h7 h8 h9 h10 h11 => absurd rfl h3⟩
  · subst h
    exact ⟨fun h => absurd h (by decide), fun h => absurd h (by decide), fun h => absurd h (by decide), fun h => absurd h (by decide), fun _ => ⟨ix_of (n := 7) (N := 298) rfl (by decide), ⟨e 7 (by decide), hI⟩⟩, fun h => absurd h (by decide), fun h => absurd h (by decide), fun h => absurd h (by decide), fun h => absurd h (by decide), fun h => absurd h (by decide), fun h => absurd h (by decide), fun h => absurd h (by decide), fun h0 h1 h2 h3 h4 h5 h6 h7 h8 h9 h10 h11 => absurd rfl h4⟩
  · subst h
    exact ⟨fun h => absurd h (by decide), fun h => absurd h (by decide), fun h => absurd h (by decide), fun h => absurd h (by decide), fun h => absurd h (by decide), fun _ => ⟨ix_of (n := 1) (N := 298) rfl (by decide), ⟨e 1 (by decide), hI⟩⟩, fun h => absurd h (by decide), fun h => absurd h (by decide), fun h => absurd h (by decide), fun h => absurd h (by decide), fun h => absurd h (by decide), fun h => absurd h (by decide), fun h0 h1 h2 h3 h4 h5 h6 h7 h8 h9 h10 h11 => absurd rfl h5⟩
  · subst h
    exact ⟨fun h => absurd h (by decide), fun h => absurd h (by decide), fun h => absurd h (by decide), fun h => absurd h (by decide), fun h => absurd h (by decide), fun h => absurd h (by decide), fun _ => ⟨ix_of (n := 2) (N := 298) rfl (by decide), ⟨e 2 (by decide), hI⟩⟩, fun h => absurd h (by decide), fun h => absurd h (by decide), fun h => absurd h (by decide), fun h => absurd h (by decide), fun h => absurd h (by decide), fun h0 h1 h2 h3 h4 h5 h6 h7 h8 h9 h10 h11 => absurd rfl h6⟩
  · subst h
    exact ⟨fun h => absurd h (by decide), fun h => absurd h (by decide), fun h => absurd h (by decide), fun h => absurd h (by decide), fun h => absurd h (by decide), fun h => absurd h (by decide), fun h => absurd h (by decide), fun _ => ⟨ix_of (n := 3) (N := 298) rfl (by decide), ⟨e 3 (by decide), hI⟩⟩, fun h => absurd h (by decide), fun h => absurd h (by decide), fun h => absurd h (by decide), fun h => absurd h (by decide), fun h0 h1 h2 h3 h4 h5 h6 h7 h8 h9 h10 h11 => absurd rfl h7⟩
  · subst h
    exact ⟨fun h => absurd h (by decide), fun h => absurd h (by decide), fun h => absurd h (by decide), fun h => absurd h (by decide), fun h => absurd h (by decide), fun h => absurd h (by decide), fun h => absurd h (by decide), fun h => absurd h (by decide), fun _ => ⟨ix_of (n := 8) (N := 298) rfl (by decide), ⟨e 8 (by decide), hI⟩⟩, fun h => absurd h (by decide), fun h => absurd h (by decide), fun h => absurd h (by decide), fun h0 h1 h2 h3 h4 h5 h6 h7 h8 h9 h10 h11 => absurd rfl h8⟩
  · subst h
    exact ⟨fun h => absurd h (by decide), fun h => absurd h (by decide), fun h => absurd h (by decide), fun h => absurd h (by decide), fun h => absurd h (by decide), fun h => absurd h (by decide), fun h => absurd h (by decide), fun h => absurd h (by decide), fun h => absurd h (by decide), fun _ => ⟨e9, hI⟩, fun h => absurd h (by decide), fun h => absurd h (by decide), fun h0 h1 h2 h3 h4 h5 h6 h7 h8 h9 h10 h11 => absurd rfl h9⟩
  · subst h
    exact ⟨fun h => absurd h (by decide), fun h => absurd h (by decide), fun h => absurd h (by decide), fun h => absurd h (by decide), fun h => absurd h (by decide), fun h => absurd h (by decide), fun h => absurd h (by decide), fun h => absurd h (by decide), fun h => absurd h (by decide), fun h => absurd h (by decide), fun _ => ⟨e10, hI⟩, fun h => absurd h (by decide), fun h0 h1 h2 h3 h4 h5 h6 h7 h8 h9 h10 h11 => absurd rfl h10⟩
  · subst h
    exact ⟨fun h => absurd h (by decide), fun h => absurd h (by decide), fun h => absurd h (by decide), fun h => absurd h (by decide), fun h => absurd h (by decide), fun h => absurd h (by decide), fun h => absurd h (by decide), fun h => absurd h (by decide), fun h => absurd h (by decide), fun h => absurd h (by decide), fun h => absurd h (by decide), fun _ => ⟨e11, hI⟩, fun h0 h1 h2 h3 h4 h5 h6 h7 h8 h9 h10 h11 => absurd rfl h11⟩
  · exact ⟨fun h => absurd h h0, fun h => absurd h h1, fun h => absurd h h2, fun h => absurd h h3, fun h => absurd h h4, fun h => absurd h h5, fun h => absurd h h6, fun h => absurd h h7, fun h => absurd h h8, fun h => absurd h h9, fun h => absurd h h10, fun h => absurd h h11, fun _ _ _ _ _ _ _ _ _ _ _ _ => ⟨rfl, hI⟩⟩
theorem vx.text {I I' : gx_M} {f : Nat → Int32} {hs : Nat → Nat → Int32} {n : Nat} {sn : Nat → Int32} {ha : Nat} {tx tx' : Nat → Int32} {tl tl' : Nat} {re : Int32} (h : vx I f hs n sn ha tx tl re) (h0 : ∀ a, a < 269 → I' a = I a) (h1 : I' 269 2 = nI tl') (h2 : tl' ≤ 60) (h3 : ∀ i, i < tl' → I' 270 i = tx' i) : vx I' f hs n sn ha tx' tl' re := by
  obtain ⟨x0, x1, x2, x3, x4, x5, x6, x7, x8, x9, x10, x11, x12⟩ := h
  refine ⟨fun o ho => ?_, by rw [h0 77 (by decide)]; exact x1, x2, by rw [h0 78 (by decide)]; exact x3, by rw [h0 78 (by decide)]; exact x4, fun i hi o ho => ?_, by rw [h0 0 (by decide)]; exact x6, x7, fun q o ho => ?_, by rw [h0 0 (by decide)]; exact x9, h1, h2, h3⟩
  · rw [fl_same (fun a h1 h2 => h0 a (by omega)) ho]; exact x0 o ho
  · rw [h0 78 (by decide)]
    have := sd_in (I 78 i)
    rw [fl_same (fun a h1 h2 => h0 a (by omega)) ho]; exact x5 i hi o ho
  · rw [fl_same (fun a h1 h2 => h0 a (by omega)) ho]; exact x8 q o ho
theorem vm.text {J J' : gx_MM} {f : Nat → Int32} {hs : Nat → Nat → Int32} {n : Nat} {sn : Nat → Int32} {ha : Nat} {tx tx' : Nat → Int32} {tl tl' : Nat} {re : Int32} (h : vm J f hs n sn ha tx tl re) (h0 : ∀ a, a ≠ 0 → a ≠ 5 → J'.1 a = J.1 a) (h00 : ∀ k, k ≠ 12 → J'.1 0 k = J.1 0 k) (h1 : J'.1 0 12 = nI tl') (h2 : tl' ≤ 60) (h3 : ∀ i, i < tl' → J'.1 5 i = tx' i) : vm J' f hs n sn ha tx' tl' re := by
  obtain ⟨y1, y2, y3, y4, y5, y6, y7, y8, y9, y10⟩ := h
  refine ⟨?_, ?_, y3, ?_, ?_, ?_, ?_, h1, h2, h3⟩
  · rw [h0 1 (by decide) (by decide)]; exact y1
  · rw [h00 2 (by decide)]; exact y2
  · rw [h0 2 (by decide) (by decide)]; exact y4
  · rw [h00 4 (by decide)]; exact y5
  · rw [h0 3 (by decide) (by decide)]; exact y6
  · rw [h00 5 (by decide)]; exact y7
theorem st_clearText : ∀ (I : gx_M) (J : gx_MM), gv_Inv I J → wp_X7_clearText 0 I (fun r I1 => wp_X8_clearText 0 J (fun r2 J1 => r = r2 ∧ gv_Inv I1 J1)) := by
  intro I J hI
  obtain ⟨f, hs, n, sn, ha, tx, tl, re, hx, hm, gf, gh, gs⟩ := id hI
  intro x ex I1 e1 y ey J1 f1
  have a1 : I 269 2 = nI tl := hx.2.2.2.2.2.2.2.2.2.2.1
  have b1 : J.1 0 12 = nI tl := hm.2.2.2.2.2.2.2.1
  have ex : x = I 269 2 := ex
  have e1 : I1 = up I 269 2 0 := e1
  refine ⟨by rw [ex, ey, a1, b1], f, hs, n, sn, ha, tx, 0, re, hx.text (fun a h => by rw [e1, up_ne (by omega)]) (by rw [e1, up_eq, upd_s]; rfl) (by decide) (fun i hi => absurd hi (by omega)), hm.text (fun a h h5 => by rw [f1, um_ne h]) (fun k hk => by rw [f1, um_eq, upd_n hk]) (by rw [f1, um_eq, upd_s]; rfl) (by decide) (fun i hi => absurd hi (by omega)), gf, gh, gs⟩
theorem st_type : ∀ (I : gx_M) (J : gx_MM) (p0 : Int32), gv_Inv I J → (∃ z : Int32, p0 = (z.toUInt32 % 65536).toInt32) → wp_X7_type 0 p0 I (fun r I1 => wp_X8_type 0 p0 J (fun r2 J1 => r = r2 ∧ gv_Inv I1 J1)) := by
  intro I J p0 hI hz
  obtain ⟨f, hs, n, sn, ha, tx, tl, re, hx, hm, gf, gh, gs⟩ := id hI
  have a1 : I 269 2 = nI tl := hx.2.2.2.2.2.2.2.2.2.2.1
  have a2 : tl ≤ 60 := hx.2.2.2.2.2.2.2.2.2.2.2.1
  have a3 : ∀ i, i < tl → I 270 i = tx i := hx.2.2.2.2.2.2.2.2.2.2.2.2
  have b1 : J.1 0 12 = nI tl := hm.2.2.2.2.2.2.2.1
  have b3 : ∀ i, i < tl → J.1 5 i = tx i := hm.2.2.2.2.2.2.2.2.2
  have hp : vp_nar .char p0 = p0 := by obtain ⟨z, e⟩ := hz; rw [e]; exact pk_vc z
  unfold wp_X7_type wp_X8_type wp_X1_append wp_X7_refuse wp_X8_refuse
  have full : ∀ K : gx_M, K = I → tl = 60 → (1 : Int32) = 1 → ((∀ I1 : gx_M, I1 = up I 0 5 (1 : Int32) → (J.1 0 12 = 60 → ∀ I1_1 : gx_MM, I1_1 = um J 0 5 (1 : Int32) → ((-1000003 : Int32) = -1000003 ∧ gv_Inv I1 I1_1)))) := by
    intro K _ _ _ I1 e1 _ J1 f1
    refine ⟨rfl, f, hs, n, sn, ha, tx, tl, 1, ?_, ?_, gf, gh, gs⟩
    · rw [e1]; exact hx.re
    · rw [f1]; exact hm.re
  refine ⟨fun c => absurd c (n_neg a1), fun _ => ⟨fun c => ?_, fun c => ?_⟩⟩
  · have h60 : tl < 60 := (n_lt (b := 60) a1 rfl).mp c
    refine ⟨ix_of (N := 60) a1 h60, fun I1 e1 I2 e2 => ⟨fun h => absurd h (by decide), fun _ => ⟨fun h => ?_, fun _ => ⟨ix_of (N := 60) b1 h60, fun J1 f1 J2 f2 => ?_⟩⟩⟩⟩
    · have := (n_eq (b := 60) b1 rfl).mp h
      omega
    · rw [show (I (0 + 269) 2).toNatClampNeg = tl from cl_of a1] at e1
      rw [show (J.1 0 12).toNatClampNeg = tl from cl_of b1, hp] at f1
      have e1 : I1 = up I 270 tl p0 := e1
      have e2 : I2 = up I1 269 2 (I1 269 2 + 1) := e2
      have f1 : J1 = um J 5 tl p0 := f1
      have v1 : I2 269 2 = nI (tl + 1) := by rw [e2, up_eq, upd_s, e1, up_ne (by decide)]; exact n_add a1 rfl
      have w1 : J2.1 0 12 = nI (tl + 1) := by rw [f2, um_eq, upd_s, f1, um_ne (by decide)]; exact n_add b1 rfl
      refine ⟨v1.trans w1.symm, f, hs, n, sn, ha, fun i => if i = tl then p0 else tx i, tl + 1, re, hx.text (fun a h => by rw [e2, up_ne (by omega), e1, up_ne (by omega)]) v1 (by omega) (fun i hi => ?_), hm.text (fun a h h5 => by rw [f2, um_ne h, f1, um_ne h5]) (fun k hk => by rw [f2, um_eq, upd_n hk, f1, um_ne (by decide)]) w1 (by omega) (fun i hi => ?_), gf, gh, gs⟩
      · rw [e2, up_ne (by decide), e1, up_eq]
        show (if i = tl then p0 else I 270 i) = (if i = tl then p0 else tx i)
        by_cases e : i = tl
        · rw [if_pos e, if_pos e]
        · rw [if_neg e, if_neg e, a3 i (by omega)]
      · rw [f2, um_ne (by decide), f1, um_eq]
        show (if i = tl then p0 else J.1 5 i) = (if i = tl then p0 else tx i)
        by_cases e : i = tl
        · rw [if_pos e, if_pos e]
        · rw [if_neg e, if_neg e, b3 i (by omega)]
  · have h60 : tl = 60 := by
      have : ¬ tl < 60 := fun q => c ((n_lt (b := 60) a1 rfl).mpr q)
      omega
    refine ⟨fun _ I1 e1 => ⟨fun h J1 f1 => full I rfl h60 rfl I1 e1 h J1 f1, fun h => absurd (by rw [b1, h60]; rfl) h⟩, fun h => absurd rfl h⟩
theorem st_setOffset : ∀ (I : gx_M) (J : gx_MM) (p0 p1 p2 : Int32), gv_Inv I J → wp_X7_setOffset 0 p0 p1 p2 I (fun r I1 => wp_X8_setOffset 0 p0 p1 p2 J (fun r2 J1 => r = r2 ∧ gv_Inv I1 J1)) := by
  intro I J p0 p1 p2 hI
  obtain ⟨f, hs, n, sn, ha, tx, tl, re, hx, hm, gf, gh, gs⟩ := id hI
  obtain ⟨m, w, k, hg⟩ := id gf
  have hm8 := hg.2.1
  unfold wp_X7_setOffset wp_X8_setOffset
  refine s6_find (hx.mo hg) hm8 (fun r hr hp => ?_) (fun hp => ?_)
  · refine ⟨fun h => (by cases h), fun b hb hkb => ?_⟩
    cases hb
    have n3 : nX (1 + (6 + 4 * r) + 1) = 3 := (nX_r hkb).1
    rw [n3]
    have bad : (¬ ((0 : Int32) ≤ p1 ∧ p1 ≤ 2)) → wp_X8_noRosette 0 p0 J (fun r1 I1 => (r1 = 0 → wp_X8_in p1 (0 : Int32) (2 : Int32) I1 (fun r2 I2 => (r2 = 0 → (fun r2 J1 => (-1000001 : Int32) = r2 ∧ gv_Inv I J1) (-1000001 : Int32) I2) ∧ (¬ r2 = 0 → wp_X8_in p2 (-9999 : Int32) (9999 : Int32) I2 (fun r3 I3 => (r3 = 0 → (fun r2 J1 => (-1000001 : Int32) = r2 ∧ gv_Inv I J1) (-1000002 : Int32) I3) ∧ (¬ r3 = 0 → wp_X8_ofGauge 0 p0 p1 (0 : Int32) I3 (fun r4 I4 => (r4 = p2 → (fun r2 J1 => (-1000001 : Int32) = r2 ∧ gv_Inv I J1) (-1000004 : Int32) I4) ∧ (¬ r4 = p2 → wp_X8_save 0 I4 (fun I5 => wp_X8_putGauge 0 p0 p1 (0 : Int32) p2 I5 (fun I6 => (fun r2 J1 => (-1000001 : Int32) = r2 ∧ gv_Inv I J1) r4 I6))))))))) ∧ (¬ r1 = 0 → (fun r2 J1 => (-1000001 : Int32) = r2 ∧ gv_Inv I J1) (-1000001 : Int32) I1)) := by
      intro hc
      exact s8_no_t (hm.mo hg) hm8 hr hp ⟨fun _ => s8_w (fun d1 d2 => absurd ⟨d1, d2⟩ hc) (fun _ => ⟨fun _ => ⟨rfl, hI⟩, fun h => absurd rfl h⟩), fun h => absurd rfl h⟩
    refine ⟨fun c => bad (fun q => absurd c (i_nlt.mpr q.1)), fun c0 => ⟨fun c1 => ?_, fun c1 => bad (fun q => c1 (Int32.lt_of_le_of_lt q.2 (by decide)))⟩⟩
    obtain ⟨g, hg3, eg⟩ := n_of (m := nI 3) rfl (by decide) c0 c1
    have hcg : p1.toNatClampNeg = g := cl_of eg
    have in2 : (0 : Int32) ≤ p1 ∧ p1 ≤ 2 := ⟨(n_le (a := 0) rfl eg).mpr (by omega), (n_le (b := 2) eg rfl).mpr (by omega)⟩
    refine s7_a (fun d1 d2 => ⟨fun h => absurd h (by decide), fun _ => ⟨ix_of eg hg3 (by decide), fun x ex => ?_⟩⟩) (fun d => ⟨fun _ => ?_, fun h => absurd rfl h⟩)
    · have ex : x = f (10 + 20 * r + (9 + 3 * g + 0)) := by
        rw [ex, hcg]; exact hx.go (r := r) (k := g) (w := 0) (by omega) hg3 (by decide)
      refine ⟨fun e => ?_, fun e => ?_⟩
      · refine s8_no_t (hm.mo hg) hm8 hr hp ⟨fun _ => s8_w (fun _ _ => ⟨fun h => absurd h (by decide), fun _ => s8_w (fun _ _ => ⟨fun h => absurd h (by decide), fun _ => ?_⟩) (fun h => absurd ⟨d1, d2⟩ h)⟩) (fun h => absurd in2 h), fun h => absurd rfl h⟩
        exact s8_ofG hm hp (k := g) (w := 0) eg rfl (by omega) ⟨fun _ => ⟨rfl, hI⟩, fun h => absurd (by rw [← ex]; exact e) h⟩
      · refine s0_add hx fun I1 hx1 z1 => ⟨ix_of eg hg3 (by decide), fun I2 e2 => ?_⟩
        refine s8_no_t (hm.mo hg) hm8 hr hp ⟨fun _ => s8_w (fun _ _ => ⟨fun h => absurd h (by decide), fun _ => s8_w (fun _ _ => ⟨fun h => absurd h (by decide), fun _ => ?_⟩) (fun h => absurd ⟨d1, d2⟩ h)⟩) (fun h => absurd in2 h), fun h => absurd rfl h⟩
        refine s8_ofG hm hp (k := g) (w := 0) eg rfl (by omega) ⟨fun h => absurd (by rw [ex]; exact h) e, fun _ => ?_⟩
        refine s8_save hm fun J1 hm1 z2 => s8_putG hm1 hp (k := g) (w := 0) eg rfl (by omega) fun J2 hm2 z3 => ?_
        obtain ⟨lo1, lo2, lo3⟩ := lo_g r (by omega) g hg3 0 (by decide)
        refine ⟨ex, _, _, _, sn, ha, tx, tl, re, ?_, hm2, ⟨m, w, k, gd_ros hg hr (by omega) ?_⟩, psh_good hx.2.2.1 gh gf, gs⟩
        · have h3 := hx1.put (v := p2) (by omega) lo1 lo2
          rw [show fl_nz (10 + 20 * r + (9 + 3 * g + 0)) p2 = p2 by unfold fl_nz; rw [lo3]; rfl] at h3
          rw [hcg, show 1 + (6 + 4 * r) + 1 = 1 + (7 + 4 * r + 0) by omega] at e2
          rw [e2]; exact h3
        · obtain ⟨g1, g2, g3, g4, g5, g6, g7, g8⟩ := hg.2.2.2.2.2.2.2.2.1 r hr
          refine ⟨by rw [upd_n (by omega)]; exact g1, by rw [upd_n (by omega)]; exact g2, by rw [upd_n (by omega)]; exact g3, by rw [upd_n (by omega)]; exact g4, by rw [upd_n (by omega)]; exact g5, fun q hq => by rw [upd_n (by omega)]; exact g6 q hq, by rw [upd_n (by omega)]; exact g7, fun k hk => ?_⟩
          rw [upd_n (show 10 + 20 * r + (9 + 3 * k + 1) ≠ 10 + 20 * r + (9 + 3 * g + 0) by omega), upd_n (show 10 + 20 * r + (9 + 3 * k + 2) ≠ 10 + 20 * r + (9 + 3 * g + 0) by omega)]
          refine ⟨?_, (g8 k hk).2⟩
          by_cases e3 : k = g
          · rw [e3, upd_s]
            exact ⟨Int32.le_iff_toInt_le.mp d1, Int32.le_iff_toInt_le.mp d2⟩
          · rw [upd_n (by omega)]
            exact (g8 k hk).1
    · exact s8_no_t (hm.mo hg) hm8 hr hp ⟨fun _ => s8_w (fun _ _ => ⟨fun h => absurd h (by decide), fun _ => s8_w (fun q1 q2 => absurd ⟨q1, q2⟩ d) (fun _ => ⟨fun _ => ⟨rfl, hI⟩, fun h => absurd rfl h⟩)⟩) (fun h => absurd in2 h), fun h => absurd rfl h⟩
  · exact ⟨fun _ => s8_no_f (hm.mo hg) hm8 hp ⟨fun h => absurd h (by decide), fun _ => ⟨rfl, hI⟩⟩, fun b hb => (by cases hb)⟩
