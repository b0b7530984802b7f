/-! what is told of a rosette; the shunt and the strain -/
section TX
variable {I : gx_M} {J : gx_MM} {f : Nat → Int32} {hs : Nat → Nat → Int32} {n : Nat} {sn : Nat → Int32} {ha : Nat} {tx : Nat → Int32} {tl : Nat} {re : Int32} {m w k r q : Nat} {p v : Int32}
/-- a number of a rosette is written -/
theorem vx.putr (h : vx I f hs n sn ha tx tl re) (hr : r < 8) (hq : q < 9) (hv : (q = 1 ∨ q = 8) → v &&& 1 = v) : vx (up I (1 + (6 + 4 * r)) q v) (upd f (10 + 20 * r + q) v) hs n sn ha tx tl re := by
  obtain ⟨lo1, lo2, lo3⟩ := lo_r r hr q hq
  have h3 := h.put (v := v) (by omega) lo1 lo2
  have e : fl_nz (10 + 20 * r + q) v = v := by
    unfold fl_nz
    rw [lo3]
    by_cases c : q = 1 ∨ q = 8
    · rw [if_pos (by simpa using c)]; exact hv c
    · rw [if_neg (by simpa using c)]
  rw [e] at h3
  exact h3
theorem gr_xyg (h : gr f r) (hq : 5 ≤ q ∧ q < 8) (hv : -5000 ≤ v.toInt ∧ v.toInt ≤ 5000) : gr (upd f (10 + 20 * r + q) v) r := by
  obtain ⟨g1, g2, g3, g4, g5, g6, g7, g8⟩ := h
  refine ⟨by rw [upd_n (by omega)]; exact g1, by rw [upd_n (by omega)]; exact g2, by rw [upd_n (by omega)]; exact g3, by rw [upd_n (by omega)]; exact g4, by rw [upd_n (by omega)]; exact g5, fun q2 hq2 => ?_, by rw [upd_n (by omega)]; exact g7, fun k hk => ?_⟩
  · by_cases e : 5 + q2 = q
    · rw [e, upd_s]; exact hv
    · rw [upd_n (by omega)]; exact g6 q2 hq2
  · rw [upd_n (by omega), upd_n (by omega), upd_n (by omega)]
    exact g8 k hk
end TX
theorem st_rosette : ∀ (I : gx_M) (J : gx_MM) (p0 p1 : Int32), gv_Inv I J → wp_X7_rosette 0 p0 p1 I (fun r I1 => wp_X8_rosette 0 p0 p1 J (fun r2 J1 => r = r2 ∧ gv_Inv I1 J1)) := by
  intro I J p0 p1 hI
  obtain ⟨f, hs, n, sn, ha, tx, tl, re, hx, hm, gf, gh, gs⟩ := id hI
  obtain ⟨m, w, k, hg⟩ := id gf
  have hm8 := hg.2.1
  unfold wp_X7_rosette wp_X8_rosette
  refine s6_find (hx.mo hg) hm8 (fun r hr hp => ?_) (fun hp => ?_)
  · refine ⟨fun h => (by cases h), fun b hb hkb => ?_⟩
    cases hb
    have hr8 : r < 8 := by omega
    have hgm := gd_gm hg hr
    have hp3 : I (0 + 1) 4 = f 3 := hx.1 3 (by decide)
    refine s2_take hx hg hr hp3 fun I2 hx2 z2 z9 hme => ?_
    have hI2 : gv_Inv I2 J := ⟨f, hs, n, sn, ha, tx, tl, re, hx2, hm, gf, gh, gs⟩
    have low : ∀ q, q < 9 → p1 = nI q → ∀ v, v = qr f r q → wp_X8_noRosette 0 p0 J (fun r1 I1 => (r1 = 0 → wp_X8_in p1 (0 : Int32) (8 : Int32) I1 (fun r2 I2_1 => (r2 = 0 → (p1 = (9 : Int32) → wp_X8_shuntValue 0 p0 I2_1 (fun r5 I5 => v = r5 ∧ gv_Inv I2 I5)) ∧ (¬ p1 = (9 : Int32) → (p1 = (10 : Int32) → wp_X8_overloaded 0 p0 I2_1 (fun r4 I4 => v = r4 ∧ gv_Inv I2 I4)) ∧ (¬ p1 = (10 : Int32) → (p1 = (11 : Int32) → wp_X8_waitingFor 0 p0 I2_1 (fun r3 I3 => v = r3 ∧ gv_Inv I2 I3)) ∧ (¬ p1 = (11 : Int32) → v = (-1000002 : Int32) ∧ gv_Inv I2 I2_1)))) ∧ (¬ r2 = 0 → wp_X8_of 0 p0 p1 I2_1 (fun r6 I6 => v = r6 ∧ gv_Inv I2 I6)))) ∧ (¬ r1 = 0 → v = (-1000001 : Int32) ∧ gv_Inv I2 I1)) := by
      intro q hq hp1 v hv
      refine s8_no_t (hm.mo hg) hm8 hr hp ⟨fun _ => s8_w (fun d1 d2 => ⟨fun h => absurd h (by decide), fun _ => ?_⟩) (fun d => absurd ⟨(n_le (a := 0) rfl hp1).mpr (by omega), (n_le (b := 8) hp1 rfl).mpr (by omega)⟩ d), fun h => absurd rfl h⟩
      exact s8_q hm hp hr8 hp1 hq ⟨hv, hI2⟩
    have high : ∀ q, 9 ≤ q → q < 12 → p1 = nI q → ∀ (R : Prop), ((¬ ((0 : Int32) ≤ p1 ∧ p1 ≤ 8)) → R) → R := by
      intro q h1 h2 hp1 R h
      refine h fun c => ?_
      have := (n_le (b := 8) hp1 rfl).mp c.2
      omega
    have bool : ∀ q, (q = 1 ∨ q = 8) → I2 (1 + (6 + 4 * r)) q &&& 1 = qr f r q ∧ (qr f r q = 0 ∨ qr f r q = 1) := by
      intro q hq
      refine ⟨hx2.rb hr8 hq, ?_⟩
      obtain ⟨g1, ⟨d, d1, d2⟩, g3, g4, g5, g6, ⟨s, s1, s2⟩, g8⟩ := hgm.2.1
      rcases hq with h | h
      · subst h
        have : d = 0 ∨ d = 1 := by omega
        rcases this with h | h
        · left; show f (10 + 20 * r + 1) = 0; rw [d1, h]; rfl
        · right; show f (10 + 20 * r + 1) = 1; rw [d1, h]; rfl
      · subst h
        have : s = 0 ∨ s = 1 := by omega
        rcases this with h | h
        · left; show f (10 + 20 * r + 8) = 0; rw [s1, h]; rfl
        · right; show f (10 + 20 * r + 8) = 1; rw [s1, h]; rfl
    obtain ⟨⟨b1, b2, b3, b4, b5⟩, c1, c2, c3, c4, c5, c6, c7⟩ := hme
    refine ⟨fun c => low 0 (by decide) c _ (hx2.ro hr8 (by decide)), fun c => ⟨fun e => low 1 (by decide) c _ ?_, fun e => low 1 (by decide) c _ ?_⟩, fun c => low 2 (by decide) c _ (hx2.ro hr8 (by decide)), fun c => low 3 (by decide) c _ (hx2.ro hr8 (by decide)), fun c => low 4 (by decide) c _ (hx2.ro hr8 (by decide)), fun c => low 5 (by decide) c _ (hx2.ro hr8 (by decide)), fun c => low 6 (by decide) c _ (hx2.ro hr8 (by decide)), fun c => low 7 (by decide) c _ (hx2.ro hr8 (by decide)), fun c => ⟨fun e => low 8 (by decide) c _ ?_, fun e => low 8 (by decide) c _ ?_⟩, fun c => ?_, fun c => ?_, fun c => s6_jobsFor hx2 hg ?_, fun c0 c1 c2 c3 c4 c5 c6 c7 c8 c9 c10 c11 => ?_⟩
    · rw [(bool 1 (Or.inl rfl)).1] at e; exact e.symm
    · rw [(bool 1 (Or.inl rfl)).1] at e; exact ((bool 1 (Or.inl rfl)).2.resolve_left e).symm
    · rw [(bool 8 (Or.inr rfl)).1] at e; exact e.symm
    · rw [(bool 8 (Or.inr rfl)).1] at e; exact ((bool 8 (Or.inr rfl)).2.resolve_left e).symm
    · refine s8_no_t (hm.mo hg) hm8 hr hp ⟨fun _ => s8_w (fun d1 d2 => high 9 (by decide) (by decide) c _ fun h => absurd ⟨d1, d2⟩ h) (fun d => ⟨fun _ => ⟨fun _ => ?_, fun h => absurd c h⟩, fun h => absurd rfl h⟩), fun h => absurd rfl h⟩
      exact s8_sv hm hp hr8 hgm.2.1 hgm.2.2 ⟨b2, hI2⟩
    · refine s8_no_t (hm.mo hg) hm8 hr hp ⟨fun _ => s8_w (fun d1 d2 => high 10 (by decide) (by decide) c _ fun h => absurd ⟨d1, d2⟩ h) (fun d => ⟨fun _ => ⟨fun h => (by rw [c] at h; exact absurd h (by decide)), fun _ => ⟨fun _ => ?_, fun h => absurd c h⟩⟩, fun h => absurd rfl h⟩), fun h => absurd rfl h⟩
      exact s8_ovs hm hp hgm ⟨b3, hI2⟩
    · refine s8_no_t (hm.mo hg) hm8 hr hp ⟨fun _ => s8_w (fun d1 d2 => high 11 (by decide) (by decide) c _ fun h => absurd ⟨d1, d2⟩ h) (fun d => ⟨fun _ => ⟨fun h => (by rw [c] at h; exact absurd h (by decide)), fun _ => ⟨fun h => (by rw [c] at h; exact absurd h (by decide)), fun _ => ⟨fun _ => ?_, fun h => absurd c h⟩⟩⟩, fun h => absurd rfl h⟩), fun h => absurd rfl h⟩
      exact s8_waitingFor hm hg ⟨rfl, hI2⟩
    · refine s8_no_t (hm.mo hg) hm8 hr hp ⟨fun _ => s8_w (fun d1 d2 => ?_) (fun d => ⟨fun _ => ⟨fun h => absurd h c9, fun _ => ⟨fun h => absurd h c10, fun _ => ⟨fun h => absurd h c11, fun _ => ⟨rfl, hI2⟩⟩⟩⟩, fun h => absurd rfl h⟩), fun h => absurd rfl h⟩
      obtain ⟨q, hq, eq⟩ := n_ofle (m := 8) (n := 8) (x := p1) rfl (by decide) (i_nlt.mpr d1) d2
      exfalso
      have : q = 0 ∨ q = 1 ∨ q = 2 ∨ q = 3 ∨ q = 4 ∨ q = 5 ∨ q = 6 ∨ q = 7 ∨ q = 8 := by omega
      rcases this with h | h | h | h | h | h | h | h | h <;> rw [h] at eq
      · exact c0 eq
      · exact c1 eq
      · exact c2 eq
      · exact c3 eq
      · exact c4 eq
      · exact c5 eq
      · exact c6 eq
      · exact c7 eq
      · exact c8 eq
  · exact ⟨fun _ => s8_no_f (hm.mo hg) hm8 hp ⟨fun h => absurd h (by decide), fun _ => ⟨rfl, hI⟩⟩, fun b hb => (by cases hb)⟩
theorem st_gauge : ∀ (I : gx_M) (J : gx_MM) (p0 p1 p2 : Int32), gv_Inv I J → wp_X7_gauge 0 p0 p1 p2 I (fun r I1 => wp_X8_gauge 0 p0 p1 p2 J (fun r2 J1 => r = r2 ∧ gv_Inv I1 J1)) := by
  intro I J p0 p1 p2 hI
  obtain ⟨f, hs, n, sn, ha, tx, tl, re, hx, hm, gf, gh, gs⟩ := id hI
  obtain ⟨m, w, k, hg⟩ := id gf
  have hm8 := hg.2.1
  unfold wp_X7_gauge wp_X8_gauge
  refine s6_find (hx.mo hg) hm8 (fun r hr hp => ?_) (fun hp => ?_)
  · refine ⟨fun h => (by cases h), fun b hb hkb => ?_⟩
    cases hb
    have hr8 : r < 8 := by omega
    have hgm := gd_gm hg hr
    have hp3 : I (0 + 1) 4 = f 3 := hx.1 3 (by decide)
    obtain ⟨n1, n2, n3⟩ := nX_ros hr8
    refine s7_w (fun c1 c2 => ⟨fun h => absurd h (by decide), fun _ => ?_⟩) (fun c => ⟨fun _ => ?_, fun h => absurd rfl h⟩)
    · obtain ⟨i, hi, ei⟩ := n_ofle (m := 2) (n := 2) (x := p1) rfl (by decide) (i_nlt.mpr c1) c2
      have hi3 : i < 3 := by omega
      have hin : vp_in p1 3 := ix_of ei hi3
      rw [n1, n2, n3, cl_of ei]
      refine s2_take hx hg hr hp3 fun I2 hx2 z2 z9 hme => ?_
      have hI2 : gv_Inv I2 J := ⟨f, hs, n, sn, ha, tx, tl, re, hx2, hm, gf, gh, gs⟩
      obtain ⟨⟨b1, b2, b3, b4, b5⟩, d1, _⟩ := hme
      have ne : ∀ a b : Nat, a < 8 → b < 8 → a ≠ b → p2 = nI a → ¬ p2 = nI b := fun a b h1 h2 h3 h4 h5 => h3 ((nI_eq (by omega) (by omega)).mp (h4.symm.trans h5))
      refine ⟨fun c => ⟨hin, ?_⟩, fun c => ⟨hin, ?_⟩, fun c => ⟨hin, ?_⟩, fun c => ⟨hin, ?_⟩, fun c => ⟨hin, ?_⟩, fun c => ⟨hin, ?_⟩, fun c => ⟨hin, ?_⟩, fun c => ⟨hin, ?_⟩, fun e0 e1 e2 e3 e4 e5 e6 e7 => ?_⟩
      all_goals refine s8_no_t (hm.mo hg) hm8 hr hp ⟨fun _ => s8_w (fun _ _ => ⟨fun h => absurd h (by decide), fun _ => ?_⟩) (fun d => absurd ⟨c1, c2⟩ d), fun h => absurd rfl h⟩
      · have e : I2 (1 + (6 + 4 * r) + 1) i = qg f r i 0 := hx2.go hr8 hi3 (w := 0) (by decide)
        subst c
        refine ⟨fun _ => s8_g hm hp hr8 ei hi3 (w := 0) rfl (by decide) ⟨e, hI2⟩, ?_, ?_, ?_, ?_, ?_, ?_, ?_, fun h => absurd rfl h⟩
        all_goals exact fun h => absurd h (by decide)
      · have e : I2 (275 + 1) i = stn f r i := b1 i hi3
        subst c
        refine ⟨?_, fun _ => s8_stn hm hp hr8 ei hi3 ⟨e, hI2⟩, ?_, ?_, ?_, ?_, ?_, ?_, fun _ h => absurd rfl h⟩
        all_goals exact fun h => absurd h (by decide)
      · have e : I2 (275 + 2) i = sgn f r i := (b5 i hi3).1
        subst c
        refine ⟨?_, ?_, fun _ => s8_q hm hp hr8 (q := 8) rfl (by decide) (s8_sig hm hp hgm ei hi3 (by rw [sby_su hgm]; exact ⟨e, hI2⟩)), ?_, ?_, ?_, ?_, ?_, fun _ _ h => absurd rfl h⟩
        all_goals exact fun h => absurd h (by decide)
      · have e : I2 (275 + 3) i = rdg f r i := (b5 i hi3).2.1
        subst c
        refine ⟨?_, ?_, ?_, fun _ => s8_rdg hm hp hgm ei hi3 ⟨e, hI2⟩, ?_, ?_, ?_, ?_, fun _ _ _ h => absurd rfl h⟩
        all_goals exact fun h => absurd h (by decide)
      · have e : I2 (1 + (6 + 4 * r) + 2) i = qg f r i 1 := hx2.go hr8 hi3 (w := 1) (by decide)
        subst c
        refine ⟨?_, ?_, ?_, ?_, fun _ => s8_g hm hp hr8 ei hi3 (w := 1) rfl (by decide) ⟨e, hI2⟩, ?_, ?_, ?_, fun _ _ _ _ h => absurd rfl h⟩
        all_goals exact fun h => absurd h (by decide)
      · have e : I2 (1 + (6 + 4 * r) + 3) i = qg f r i 2 := hx2.go hr8 hi3 (w := 2) (by decide)
        subst c
        refine ⟨?_, ?_, ?_, ?_, ?_, fun _ => s8_g hm hp hr8 ei hi3 (w := 2) rfl (by decide) ⟨e, hI2⟩, ?_, ?_, fun _ _ _ _ _ h => absurd rfl h⟩
        all_goals exact fun h => absurd h (by decide)
      · have e : I2 (275 + 6) i = crr f r i := d1 i hi3
        subst c
        refine ⟨?_, ?_, ?_, ?_, ?_, ?_, fun _ => s8_crr hm hp hgm ei hi3 ⟨e, hI2⟩, ?_, fun _ _ _ _ _ _ h => absurd rfl h⟩
        all_goals exact fun h => absurd h (by decide)
      · have e : I2 (275 + 5) i = stp f r i := (b5 i hi3).2.2
        subst c
        refine ⟨?_, ?_, ?_, ?_, ?_, ?_, ?_, fun _ => s8_stp hm hp hgm ei hi3 ⟨e, hI2⟩, fun _ _ _ _ _ _ _ h => absurd rfl h⟩
        all_goals exact fun h => absurd h (by decide)
      · exact ⟨fun h => absurd h e0, fun h => absurd h e1, fun h => absurd h e2, fun h => absurd h e3, fun h => absurd h e4, fun h => absurd h e5, fun h => absurd h e6, fun h => absurd h e7, fun _ _ _ _ _ _ _ _ => ⟨rfl, hI2⟩⟩
    · exact s8_no_t (hm.mo hg) hm8 hr hp ⟨fun _ => s8_w (fun q1 q2 => absurd ⟨q1, q2⟩ c) (fun _ => ⟨fun _ => ⟨rfl, hI⟩, fun h => absurd rfl h⟩), fun h => absurd rfl h⟩
  · exact ⟨fun _ => s8_no_f (hm.mo hg) hm8 hp ⟨fun h => absurd h (by decide), fun _ => ⟨rfl, hI⟩⟩, fun b hb => (by cases hb)⟩
theorem st_principal : ∀ (I : gx_M) (J : gx_MM) (p0 p1 : Int32), gv_Inv I J → wp_X7_principal 0 p0 p1 I (fun r I1 => wp_X8_principal 0 p0 p1 J (fun r2 J1 => r = r2 ∧ gv_Inv I1 J1)) := by
  intro I J p0 p1 hI
  obtain ⟨f, hs, n, sn, ha, tx, tl, re, hx, hm, gf, gh, gs⟩ := id hI
  obtain ⟨m, w, k, hg⟩ := id gf
  have hm8 := hg.2.1
  unfold wp_X7_principal wp_X8_principal
  refine s6_find (hx.mo hg) hm8 (fun r hr hp => ?_) (fun hp => ?_)
  · refine ⟨fun h => (by cases h), fun b hb hkb => ?_⟩
    cases hb
    have hr8 : r < 8 := by omega
    have hgm := gd_gm hg hr
    have hp3 : I (0 + 1) 4 = f 3 := hx.1 3 (by decide)
    refine s2_take hx hg hr hp3 fun I2 hx2 z2 z9 hme => ?_
    obtain ⟨_, d1, d2, d3, d4, d5, d6, d7⟩ := hme
    have w12 : I2 (0 + 275) 12 = mm f r := d5
    have w14 : I2 (0 + 275) 14 = rad f r := d7
    have w13 : I2 (0 + 275) 13 = (bst f r 23).1 := d6
    have w9 : I2 (0 + 275) 9 = mx f r := d2
    have w10 : I2 (0 + 275) 10 = my f r := d3
    have w11 : I2 (0 + 275) 11 = mg f r := d4
    rw [w12, w14, w13, w9, w10, w11]
    have mean : ∀ J2 : gx_MM, lon f r J2 → (J2.2 6 + J2.2 7) / 2 = Int32.toInt64 (mm f r) := fun J2 hl => by rw [hl.1, hl.2.1, mm_l hgm.2.1]
    refine ⟨fun c => ?_, fun c => ?_, fun c => ?_, fun c => ?_, fun c => ?_, fun c => ?_, fun c => ?_, fun c => ?_, fun e0 e1 e2 e3 e4 e5 e6 e7 => ?_⟩
    all_goals refine s8_no_t (hm.mo hg) hm8 hr hp ⟨fun _ => s8_find hm hp hgm fun J2 hm2 hl h9 h10 => ?_, fun h => absurd rfl h⟩
    all_goals have hI2 : gv_Inv I2 J2 := ⟨f, hs, n, sn, ha, tx, tl, re, hx2, hm2, gf, gh, gs⟩
    · subst c
      refine ⟨fun _ => ⟨?_, hI2⟩, ?_, ?_, ?_, ?_, ?_, ?_, ?_, fun h => absurd rfl h⟩
      · rw [mean J2 hl, h10, Int64.toInt32_add, Int32.toInt32_toInt64]; rfl
      all_goals exact fun h => absurd h (by decide)
    · subst c
      refine ⟨?_, fun _ => ⟨?_, hI2⟩, ?_, ?_, ?_, ?_, ?_, ?_, fun _ h => absurd rfl h⟩
      rotate_left
      · rw [mean J2 hl, h10, Int64.toInt32_sub, Int32.toInt32_toInt64]; rfl
      all_goals exact fun h => absurd h (by decide)
    · subst c
      refine ⟨?_, ?_, fun _ => ⟨h9.symm, hI2⟩, ?_, ?_, ?_, ?_, ?_, fun _ _ h => absurd rfl h⟩
      all_goals exact fun h => absurd h (by decide)
    · subst c
      refine ⟨?_, ?_, ?_, fun _ => ⟨by rw [h10]; rfl, hI2⟩, ?_, ?_, ?_, ?_, fun _ _ _ h => absurd rfl h⟩
      all_goals exact fun h => absurd h (by decide)
    · subst c
      refine ⟨?_, ?_, ?_, ?_, fun _ => ⟨by rw [hl.1, Int32.toInt32_toInt64], hI2⟩, ?_, ?_, ?_, fun _ _ _ _ h => absurd rfl h⟩
      all_goals exact fun h => absurd h (by decide)
    · subst c
      refine ⟨?_, ?_, ?_, ?_, ?_, fun _ => ⟨by rw [hl.2.1, Int32.toInt32_toInt64], hI2⟩, ?_, ?_, fun _ _ _ _ _ h => absurd rfl h⟩
      all_goals exact fun h => absurd h (by decide)
    · subst c
      refine ⟨?_, ?_, ?_, ?_, ?_, ?_, fun _ => ⟨by rw [hl.2.2, Int32.toInt32_toInt64], hI2⟩, ?_, fun _ _ _ _ _ _ h => absurd rfl h⟩
      all_goals exact fun h => absurd h (by decide)
    · subst c
      refine ⟨?_, ?_, ?_, ?_, ?_, ?_, ?_, fun _ => ⟨by rw [mean J2 hl, Int32.toInt32_toInt64], hI2⟩, fun _ _ _ _ _ _ _ h => absurd rfl h⟩
      all_goals exact fun h => absurd h (by decide)
    · exact ⟨fun h => absurd h e0, fun h => absurd h e1, fun h => absurd h e2, fun h => absurd h e3, fun h => absurd h e4, fun h => absurd h e5, fun h => absurd h e6, fun h => absurd h e7, fun _ _ _ _ _ _ _ _ => ⟨rfl, hI2⟩⟩
  · exact ⟨fun _ => s8_no_f (hm.mo hg) hm8 hp ⟨fun h => absurd h (by decide), fun _ => ⟨rfl, hI⟩⟩, fun b hb => (by cases hb)⟩
theorem st_pull : ∀ (I : gx_M) (J : gx_MM) (p0 p1 : Int32), gv_Inv I J → wp_X7_pull 0 p0 p1 I (fun r I1 => wp_X8_pull 0 p0 p1 J (fun r2 J1 => r = r2 ∧ gv_Inv I1 J1)) := by
  intro I J p0 p1 hI
  obtain ⟨f, hs, n, sn, ha, tx, tl, re, hx, hm, gf, gh, gs⟩ := id hI
  obtain ⟨m, w, k, hg⟩ := id gf
  have hm8 := hg.2.1
  unfold wp_X7_pull wp_X8_pull
  refine s6_find (hx.mo hg) hm8 (fun r hr hp => ?_) (fun hp => ?_)
  · refine ⟨fun h => (by cases h), fun b hb hkb => ?_⟩
    cases hb
    have hr8 : r < 8 := by omega
    have hgm := gd_gm hg hr
    have hp3 : I (0 + 1) 4 = f 3 := hx.1 3 (by decide)
    refine s7_w (fun c1 c2 => ⟨fun h => absurd h (by decide), fun _ => ?_⟩) (fun c => ⟨fun _ => ?_, fun h => absurd rfl h⟩)
    · obtain ⟨t, ht, et⟩ := n_ofle (m := 23) (n := 23) (x := p1) rfl (by decide) (i_nlt.mpr c1) c2
      refine s2_take hx hg hr hp3 fun I2 hx2 z2 z9 hme => ?_
      obtain ⟨_, d1, d2, d3, d4, d5, d6, d7⟩ := hme
      refine s2_pull (f := f) (r := r) (t := t) (by omega) et d2 d3 d4 ?_
      refine s8_no_t (hm.mo hg) hm8 hr hp ⟨fun _ => s8_w (fun _ _ => ⟨fun h => absurd h (by decide), fun _ => s8_find hm hp hgm fun J2 hm2 hl h9 h10 => s8_pul (t := t) hgm hl (by omega) et ?_⟩) (fun d => absurd ⟨c1, c2⟩ d), fun h => absurd rfl h⟩
      exact ⟨rfl, f, hs, n, sn, ha, tx, tl, re, hx2, hm2, gf, gh, gs⟩
    · exact s8_no_t (hm.mo hg) hm8 hr hp ⟨fun _ => s8_w (fun q1 q2 => absurd ⟨q1, q2⟩ c) (fun _ => ⟨fun _ => ⟨rfl, hI⟩, fun h => absurd rfl h⟩), fun h => absurd rfl h⟩
  · exact ⟨fun _ => s8_no_f (hm.mo hg) hm8 hp ⟨fun h => absurd h (by decide), fun _ => ⟨rfl, hI⟩⟩, fun b hb => (by cases hb)⟩
theorem st_setShunt : ∀ (I : gx_M) (J : gx_MM) (p0 p1 : Int32), gv_Inv I J → (p1 = 0 ∨ p1 = 1) → wp_X7_setShunt 0 p0 p1 I (fun r I1 => wp_X8_setShunt 0 p0 p1 J (fun r2 J1 => r = r2 ∧ gv_Inv I1 J1)) := by
  intro I J p0 p1 hI h01
  obtain ⟨f, hs, n, sn, ha, tx, tl, re, hx, hm, gf, gh, gs⟩ := id hI
  obtain ⟨m, w, k, hg⟩ := id gf
  have hm8 := hg.2.1
  have hpp : p1 &&& 1 = p1 := by rcases h01 with h | h <;> rw [h] <;> rfl
  unfold wp_X7_setShunt wp_X8_setShunt
  refine s6_find (hx.mo hg) hm8 (fun r hr hp => ?_) (fun hp => ?_)
  · refine ⟨fun h => (by cases h), fun b hb hkb => ?_⟩
    cases hb
    have hr8 : r < 8 := by omega
    have a8 : I (1 + (6 + 4 * r)) 8 &&& 1 = qr f r 8 := hx.rb hr8 (Or.inr rfl)
    rw [a8]
    refine ⟨fun c => ?_, fun c => ?_⟩
    · refine s8_no_t (hm.mo hg) hm8 hr hp ⟨fun _ => s8_q hm hp hr8 (q := 8) rfl (by decide) ⟨fun h0 => ?_, fun h0 => ?_⟩, fun h => absurd rfl h⟩
      · exact ⟨fun _ => ⟨rfl, hI⟩, fun h => absurd (by rw [c, h0]) h⟩
      · exact ⟨fun _ => ⟨rfl, hI⟩, fun h => absurd (by rw [c]; exact h01.resolve_left h0) h⟩
    · refine s0_add hx fun I1 hx1 z1 => ⟨hpp, fun I3 e3 => ?_⟩
      have hx3 : vx I3 (upd f (10 + 20 * r + 8) p1) (psh hs n f) (psn n) sn ha tx tl re := by
        rw [e3]; exact hx1.putr hr8 (by decide) (fun _ => hpp)
      have hg3 : gd (upd f (10 + 20 * r + 8) p1) m w k := by
        refine gd_ros hg hr (by decide) ?_
        obtain ⟨g1, g2, g3, g4, g5, g6, g7, g8⟩ := hg.2.2.2.2.2.2.2.2.1 r hr
        refine ⟨by rw [upd_n (by omega)]; exact g1, by rw [upd_n (by omega)]; exact g2, by rw [upd_n (by omega)]; exact g3, by rw [upd_n (by omega)]; exact g4, by rw [upd_n (by omega)]; exact g5, fun q hq => by rw [upd_n (by omega)]; exact g6 q hq, ?_, fun k hk => ?_⟩
        · rw [upd_s]
          rcases h01 with h | h
          · exact ⟨0, h, by decide⟩
          · exact ⟨1, h, by decide⟩
        · rw [upd_n (by omega), upd_n (by omega), upd_n (by omega)]
          exact g8 k hk
      have hp3 : I3 (0 + 1) 4 = (upd f (10 + 20 * r + 8) p1) 3 := hx3.1 3 (by decide)
      refine s2_take hx3 hg3 hr hp3 fun I4 hx4 z4 z9 hme => ⟨ix_of (n := 0) (N := 3) rfl (by decide), ?_⟩
      have e4 : I4 (0 + 275 + 3) (0 : Int32).toNatClampNeg = rdg (upd f (10 + 20 * r + 8) p1) r 0 := (hme.1.2.2.2.2 0 (by decide)).2.1
      rw [e4]
      have fin : ∀ u : Int32, u = p1 → ∀ J1 : gx_MM, vm J1 f (psh hs n f) (psn n) sn ha tx tl re → wj_X8_setShunt_50 (fun r2 J1 => rdg (upd f (10 + 20 * r + 8) p1) r 0 = r2 ∧ gv_Inv I4 J1) 0 p0 u (8 : Int32) p0 0 J1 := by
        intro u hu J1 hm1
        unfold wj_X8_setShunt_50
        rw [hu]
        refine s8_put hm1 hp (q := 8) rfl (by omega) fun J2 hm2 z3 => ?_
        exact s8_rdg hm2 hp (gd_gm hg3 hr) (i := 0) rfl (by decide) ⟨rfl, _, _, _, sn, ha, tx, tl, re, hx4, hm2, ⟨m, w, k, hg3⟩, psh_good hx.2.2.1 gh gf, gs⟩
      refine s8_no_t (hm.mo hg) hm8 hr hp ⟨fun _ => s8_q hm hp hr8 (q := 8) rfl (by decide) ⟨fun h0 => ?_, fun h0 => ?_⟩, fun h => absurd rfl h⟩
      · exact ⟨fun h => absurd (by rw [h, h0]) c, fun _ => s8_save hm fun J1 hm1 z2 => ⟨fun _ => fin 0 h0.symm J1 hm1, fun h => absurd h0 h⟩⟩
      · have h1 := h01.resolve_left h0
        exact ⟨fun h => absurd (by rw [h, h1]) c, fun _ => s8_save hm fun J1 hm1 z2 => ⟨fun h => absurd h h0, fun _ => fin 1 h1.symm J1 hm1⟩⟩
  · exact ⟨fun _ => s8_no_f (hm.mo hg) hm8 hp ⟨fun h => absurd h (by decide), fun _ => ⟨rfl, hI⟩⟩, fun b hb => (by cases hb)⟩
