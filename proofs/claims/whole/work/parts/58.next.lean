/-! a job is done -/
section LO
variable {f : Nat → Int32} {r o i : Nat} {v : Int32}
theorem qr_lo (ho : o < 10) : qr (upd f o v) r = qr f r := by funext q; exact upd_n (by omega)
theorem qg_lo (ho : o < 10) : qg (upd f o v) r = qg f r := by funext i w; exact upd_n (by omega)
theorem sm_lo (ho : o < 10) (h3 : o ≠ 3) : sm (upd f o v) f r i := ⟨fun q _ => by rw [qr_lo ho], upd_n (Ne.symm h3), by rw [qg_lo ho], by rw [qg_lo ho]⟩
theorem rdg_lo (ho : o < 10) (h3 : o ≠ 3) : rdg (upd f o v) r i = rdg f r i := by unfold rdg; rw [sm_sgn (sm_lo ho h3)]
theorem crr_lo (ho : o < 10) (h3 : o ≠ 3) : crr (upd f o v) r i = crr f r i := by unfold crr; rw [rdg_lo ho h3, qr_lo ho, qg_lo ho]
theorem ovc_lo (ho : o < 10) (h3 : o ≠ 3) : ∀ i, ovc (upd f o v) r i = ovc f r i := by
  intro i
  induction i with
  | zero => rfl
  | succ i ih => unfold ovc; rw [sm_sgn (sm_lo ho h3), ih]
theorem mx_lo (ho : o < 10) (h3 : o ≠ 3) : mx (upd f o v) r = mx f r := by unfold mx; rw [crr_lo ho h3]
theorem my_lo (ho : o < 10) (h3 : o ≠ 3) : my (upd f o v) r = my f r := by unfold my; rw [crr_lo ho h3, crr_lo ho h3, crr_lo ho h3, qr_lo ho]
theorem mg_lo (ho : o < 10) (h3 : o ≠ 3) : mg (upd f o v) r = mg f r := by unfold mg; rw [crr_lo ho h3, crr_lo ho h3, crr_lo ho h3, qr_lo ho]
theorem pul_lo (ho : o < 10) (h3 : o ≠ 3) {t : Nat} : pul (upd f o v) r t = pul f r t := by unfold pul; rw [mx_lo ho h3, my_lo ho h3, mg_lo ho h3]
theorem bst_lo (ho : o < 10) (h3 : o ≠ 3) : ∀ t, bst (upd f o v) r t = bst f r t := by
  intro t
  induction t with
  | zero => unfold bst; rw [pul_lo ho h3]
  | succ t ih => unfold bst; rw [pul_lo ho h3, ih]
theorem zo_lo (ho : o < 10) (h3 : o ≠ 3) : zo (upd f o v) r = zo f r := by funext i; unfold zo; rw [qg_lo ho, sm_sgn (sm_lo ho h3)]
theorem ob_lo (ho : o < 10) (h3 : o ≠ 3) : ob (upd f o v) r = ob f r := by funext i; unfold ob; rw [sm_onn (sm_lo ho h3), sm_off (sm_lo ho h3)]
theorem sz_lo (ho : o < 10) (h3 : o ≠ 3) : sz (upd f o v) r = sz f r := by funext i; unfold sz; rw [sm_stp (sm_lo ho h3)]
theorem agn_lo (ho : o < 10) (h3 : o ≠ 3) {kd : Int32} : agn (upd f o v) r kd = agn f r kd := by unfold agn; rw [ovc_lo ho h3, qr_lo ho, zo_lo ho h3, ob_lo ho h3, sz_lo ho h3]
theorem vz_lo (ho : o < 10) (h3 : o ≠ 3) : vz (upd f o v) r = vz f r := by funext i; unfold vz; rw [qg_lo ho, sm_sgn (sm_lo ho h3)]
theorem vg_lo (ho : o < 10) (h3 : o ≠ 3) : vg (upd f o v) r = vg f r := by funext i; unfold vg; rw [sm_sv (i := i) (sm_lo ho h3), sm_stp (sm_lo ho h3)]
theorem cv_lo (ho : o < 10) {u : Nat} {va : Nat → Int32} : ∀ i, cv (upd f o v) r u va i = cv f r u va i := by
  intro i
  induction i with
  | zero => rfl
  | succ i ih => unfold cv; rw [qg_lo ho, ih]
theorem fw_lo (ho : o < 10) {u : Nat} {va : Nat → Int32} : ∀ i, fw (upd f o v) r u va i = upd (fw f r u va i) o v := by
  intro i
  induction i with
  | zero => rfl
  | succ i ih => unfold fw; rw [ih, upd_comm (by omega)]
theorem prf_lo (ho : o < 10) (h3 : o ≠ 3) {kd : Int32} : prf (upd f o v) r kd = upd (prf f r kd) o v := by
  unfold prf
  rw [vz_lo ho h3, vg_lo ho h3]
  split
  · rfl
  · split
    · exact fw_lo ho 3
    · exact fw_lo ho 3
theorem prs_lo (ho : o < 10) (h3 : o ≠ 3) {kd : Int32} : prs (upd f o v) r kd = prs f r kd := by
  unfold prs mm rad
  rw [vz_lo ho h3, vg_lo ho h3, mx_lo ho h3, my_lo ho h3, bst_lo ho h3, cv_lo ho, cv_lo ho]
theorem prf_at (ho : o < 10) {kd : Int32} : prf f r kd o = f o := by
  unfold prf
  split
  · rfl
  · split <;> exact fw_n 3 fun j _ => by omega
theorem tk_upd {j w : Nat} (ho : o < 170) (h4 : o ≠ 4) : tk (upd f o v) j w = upd (tk f j w) o v := by
  funext a
  unfold tk
  by_cases e : a = o
  · subst e
    rw [upd_s, if_neg h4, if_neg (by omega), upd_s]
  · rw [upd_n e]
    rw [upd_n e]
    by_cases e4 : a = 4
    · rw [if_pos e4, if_pos e4]
    · rw [if_neg e4, if_neg e4]
      by_cases c : 170 + 4 * j ≤ a ∧ a < 170 + 4 * (w - 1)
      · rw [if_pos c, if_pos c, upd_n (by omega)]
      · rw [if_neg c, if_neg c]
theorem i_id1 (a y : Int32) : a + 1 - y = a - y + 1 := by
  rw [Int32.sub_eq_add_neg, Int32.sub_eq_add_neg, Int32.add_assoc, Int32.add_comm 1, ← Int32.add_assoc]
theorem i_id2 (a y : Int32) : a + 1 - (y + 1) = a - y := by
  rw [Int32.sub_eq_add_neg, Int32.neg_add, Int32.sub_eq_add_neg, Int32.add_assoc, Int32.add_comm (-y), ← Int32.add_assoc 1, Int32.add_right_neg, Int32.zero_add, ← Int32.sub_eq_add_neg]
theorem tk_lo {j w : Nat} (ho : o < 170 ∨ 250 ≤ o) (h4 : o ≠ 4) (hw : w ≤ 20) : tk f j w o = f o := by
  unfold tk
  rw [if_neg h4, if_neg (by omega)]
end LO
def jf2 (f : Nat → Int32) (w b : Nat) : Nat → Int32 := upd (upd (tk f b w) 2 (f 2 + dst f (f 1) b)) 1 (plj f b)
def jk (f : Nat → Int32) (b : Nat) : Int32 := f (170 + (4 * b + 1))
def jag (f : Nat → Int32) (w b : Nat) : Int32 := agn (jf2 f w b) (jo f b) (jk f b)
def jf3 (f : Nat → Int32) (w b : Nat) : Nat → Int32 := if jag f w b = 0 then prf (jf2 f w b) (jo f b) (jk f b) else upd (jf2 f w b) 7 (jf2 f w b 7 + 1)
def jre (f : Nat → Int32) (w b : Nat) : Int32 := if jag f w b = 0 then prs (jf2 f w b) (jo f b) (jk f b) else -1000004
def dj (f : Nat → Int32) (w k b : Nat) : Nat → Int32 := rec (upd (jf3 f w b) 6 (jf3 f w b 6 + 1)) k (jk f b) (f (170 + (4 * b + 2))) (jre f w b) (jag f w b)
def jrs (f : Nat → Int32) (w b : Nat) (re : Int32) : Int32 := if jag f w b = 0 then re else jag f w b
section DX
variable {I : gx_M} {J : gx_MM} {f : Nat → Int32} {hs : Nat → Nat → Int32} {n : Nat} {sn : Nat → Int32} {ha : Nat} {tx : Nat → Int32} {tl : Nat} {re : Int32} {m w k b : Nat} {p : Int32}
theorem gd_jf2 (hg : gd f m w k) (hb : b < w) : gd (jf2 f w b) m (w - 1) k := by
  have hw := hg.2.2.2.1
  refine gd_fr (gd_tk hg hb) (fun o h1 h2 _ _ _ _ _ => ?_) ?_ ?_ hg.2.2.2.2.2.1
  · unfold jf2; rw [upd_n h1, upd_n h2]
  · unfold jf2; rw [upd_s]; exact gd_plj hg hb
  · unfold jf2; rw [upd_n (by decide), upd_n (by decide), tk_lo (by omega) (by decide) hw]; exact hg.2.2.2.2.1
theorem gd_jf3 (hg : gd f m w k) (hb : b < w) : gd (jf3 f w b) m (w - 1) k := by
  have h2 := gd_jf2 hg hb
  unfold jf3
  by_cases c : jag f w b = 0
  · rw [if_pos c]
    exact gd_prf h2 (gd_jo hg hb).2.1 c
  · rw [if_neg c]
    exact gd_fr h2 (fun o _ _ _ _ h7 _ _ => upd_n h7) (by rw [upd_n (by decide)]; exact h2.2.2.2.2.2.2.2.1) (by rw [upd_n (by decide)]; exact h2.2.2.2.2.1) h2.2.2.2.2.2.1
theorem gd_dj (hg : gd f m w k) (hb : b < w) : gd (dj f w k b) m (w - 1) (rek k) := by
  have h3 := gd_jf3 hg hb
  unfold dj
  refine gd_fr h3 (fun o _ _ _ h6 _ h8 ho => ?_) ?_ rec_8 rek_le
  · rw [rec_lo ho h8, upd_n h6]
  · rw [rec_lo (by decide) (by decide), upd_n (by decide)]; exact h3.2.2.2.2.2.2.2.1
theorem dj_7 (hw : w ≤ 20) : dj f w k b 7 = if jag f w b = 0 then f 7 else f 7 + 1 := by
  have e : jf2 f w b 7 = f 7 := by unfold jf2; rw [upd_n (by decide), upd_n (by decide), tk_lo (by omega) (by decide) hw]
  unfold dj
  rw [rec_lo (by decide) (by decide), upd_n (by decide)]
  unfold jf3
  by_cases c : jag f w b = 0
  · rw [if_pos c, if_pos c, prf_at (by decide), e]
  · rw [if_neg c, if_neg c, upd_s, e]
theorem jf3_6 : jf3 f w b 6 = jf2 f w b 6 := by
  unfold jf3
  split
  · exact prf_at (by decide)
  · exact upd_n (by decide)
theorem s7_doJob {Q : gx_M → Prop} (hx : vx I f hs n sn ha tx tl re) (hg : gd f m w k) (hb : b < w) (hp : p = nI b) (hQ : ∀ I' : gx_M, vx I' (dj f w k b) hs n sn ha tx tl (jrs f w b re) → Q I') : wp_X7_doJob 0 p I Q := by
  have hw := hg.2.2.2.1
  have hm8 := hg.2.1
  obtain ⟨j1, j2, j3⟩ := gd_jo hg hb
  have hg2 := gd_jf2 hg hb
  have hgm := gd_gm hg2 j2
  unfold wp_X7_doJob
  refine s5_jobs hx hg hp hb (q := 1) rfl (by decide) (s5_jobs hx hg hp hb (q := 2) rfl (by decide) (s6_find_t (hx.mo hg) hm8 j2 j1 ⟨fun h => (by cases h), fun b1 hb1 hk1 => ?_⟩))
  cases hb1
  refine s5_dropj hx hg.2.2.1 hw hp hb fun I5 hx5 _ => ?_
  have e0 : I5 (1 + (6 + 4 * jo f b)) 0 = plj f b := by
    rw [hx5.ro j3 (by decide), tk_lo (by omega) (by omega) hw]; rfl
  rw [e0]
  unfold wp_X6_goTo
  intro I6 e6 I7 e7
  have h16 : I5 (0 + 1) 6 = f 2 := by
    have := hx5.1 2 (by decide)
    rw [tk_lo (by omega) (by decide) hw] at this
    exact this
  have h15 : I5 (0 + 1) 5 = f 1 := by
    have := hx5.1 1 (by decide)
    rw [tk_lo (by omega) (by decide) hw] at this
    exact this
  rw [h16, h15] at e6
  have hx6 : vx I6 (upd (tk f b w) 2 (f 2 + dst f (f 1) b)) hs n sn ha tx tl re := by rw [e6]; exact hx5.put2
  have hx7 : vx I7 (jf2 f w b) hs n sn ha tx tl re := by rw [e7]; exact hx6.put1
  have hp3 : I7 (0 + 1) 4 = jf2 f w b 3 := hx7.1 3 (by decide)
  refine s2_take hx7 hg2 j2 hp3 fun I8 hx8 _ _ hme => s7_agn hx8 j3 hme ?_
  have hk8 : ∀ (g : Nat → Int32), g 8 = jf2 f w b 8 → (upd g 6 (g 6 + 1)) 8 = nI k := fun g h => by
    rw [upd_n (by decide), h]; exact hg2.2.2.2.2.1
  have fin : ∀ (I11 : gx_M) (re' : Int32), vx I11 (jf3 f w b) hs n sn ha tx tl re' → re' = jrs f w b re → wj_X7_doJob_130 Q 0 (jk f b) (f (170 + (4 * b + 2))) (jag f w b) (jre f w b) I11 := by
    intro I11 re' h11 hre I12 e12
    have v8 : I11 (0 + 1) 8 = jf3 f w b 6 := h11.1 6 (by decide)
    rw [v8] at e12
    have h12 : vx I12 (upd (jf3 f w b) 6 (jf3 f w b 6 + 1)) hs n sn ha tx tl re' := by rw [e12]; exact h11.put6
    refine s6_leave h12 (k := k) ?_ hg.2.2.2.2.2.1 fun I13 h13 _ => hQ I13 (by rw [← hre]; exact h13)
    rw [upd_n (by decide)]
    exact (gd_jf3 hg hb).2.2.2.2.1
  refine ⟨fun c => ?_, fun c I9 e9 I10 e10 => ?_⟩
  · have c : jag f w b = 0 := c
    refine s7_perf hx8 hgm hme c fun I11 h11 => ?_
    have := fin I11 re (by unfold jf3; rw [if_pos c]; exact h11) (by unfold jrs; rw [if_pos c])
    unfold jre at this
    rw [if_pos c] at this
    exact this
  · have c : ¬ jag f w b = 0 := c
    have h9 : vx I9 (jf2 f w b) hs n sn ha tx tl (jag f w b) := by rw [e9]; exact hx8.re
    have v9 : I9 (0 + 1) 9 = jf2 f w b 7 := h9.1 7 (by decide)
    rw [v9] at e10
    have h10 : vx I10 (upd (jf2 f w b) 7 (jf2 f w b 7 + 1)) hs n sn ha tx tl (jag f w b) := by rw [e10]; exact h9.put7
    have := fin I10 (jag f w b) (by unfold jf3; rw [if_neg c]; exact h10) (by unfold jrs; rw [if_neg c])
    unfold jre at this
    rw [if_neg c] at this
    exact this
theorem s8_doNext {Q : Int32 → gx_MM → Prop} (hm : vm J f hs n sn ha tx tl re) (hg : gd f m w k) (hpk : pks f 0 (f 1) w = some b) (hQ : ∀ J' : gx_MM, vm J' (dj f w k b) hs n sn ha tx tl (jrs f w b re) → Q (if jag f w b = 0 then 1 else 0) J') : wp_X8_doNext 0 J Q := by
  have hb := (pks_some w b hpk).1
  have hw := hg.2.2.2.1
  obtain ⟨j1, j2, j3⟩ := gd_jo hg hb
  obtain ⟨pa, hpa0, hpa⟩ := hg.2.2.2.2.2.2.2.1
  have hg2 := gd_jf2 hg hb
  have hgm := gd_gm hg2 j2
  have e1 : J.1 (0 + 1) (1 : Int32).toNatClampNeg = f 1 := hm.1 1 (by decide)
  have e2 : J.1 (0 + 1) (2 : Int32).toNatClampNeg = f 2 := hm.1 2 (by decide)
  have hkd : jk f b = 0 ∨ jk f b = 1 ∨ jk f b = 2 := by
    obtain ⟨d, d1, d2⟩ := (hg.2.2.2.2.2.2.2.2.2 b hb).1
    have : d = 0 ∨ d = 1 ∨ d = 2 := by omega
    unfold jk
    rw [d1]
    rcases this with h | h | h
    · left; rw [h]; rfl
    · right; left; rw [h]; rfl
    · right; right; rw [h]; rfl
  unfold wp_X8_doNext
  refine ⟨ix_of (n := 1) (N := 298) rfl (by decide), ?_⟩
  rw [e1]
  refine s8_first hm hg hpa0 hpa ?_
  rw [hpk]
  refine s8_job hm (j := b) rfl (q := 1) rfl (by omega) (s8_job hm (j := b) rfl (q := 2) rfl (by omega) ⟨ix_of (n := 2) (N := 298) rfl (by decide), ix_of (n := 1) (N := 298) rfl (by decide), ?_⟩)
  rw [e1, e2]
  refine s8_way hm hg (j := b) rfl hb ⟨ix_of (n := 2) (N := 298) rfl (by decide), fun J5 f5 => ?_⟩
  have h5 : vm J5 (upd f 2 (f 2 + dst f (f 1) b)) hs n sn ha tx tl re := by rw [f5]; exact hm.put
  refine s8_of h5 j1 (q := 0) rfl (by omega) ⟨ix_of (n := 1) (N := 298) rfl (by decide), fun J7 f7 => ?_⟩
  rw [upd_n (show 10 + 20 * jo f b + 0 ≠ 2 by omega)] at f7
  have h7 : vm J7 (upd (upd f 2 (f 2 + dst f (f 1) b)) 1 (plj f b)) hs n sn ha tx tl re := by rw [f7]; exact h5.put
  refine s8_takeOut h7 (w := w) (j := b) (by rw [upd_n (by decide), upd_n (by decide)]; exact hg.2.2.1) hw rfl hb fun J8 h8 _ => ⟨ix_of (n := 6) (N := 298) rfl (by decide), ix_of (n := 6) (N := 298) rfl (by decide), fun J9 f9 => ?_⟩
  rw [tk_upd (by decide) (by decide), tk_upd (by decide) (by decide)] at h8
  have h8 : vm J8 (jf2 f w b) hs n sn ha tx tl re := h8
  have e6 : J8.1 (0 + 1) (6 : Int32).toNatClampNeg = jf2 f w b 6 := h8.1 6 (by decide)
  rw [e6] at f9
  have h9 : vm J9 (upd (jf2 f w b) 6 (jf2 f w b 6 + 1)) hs n sn ha tx tl re := by rw [f9]; exact h8.put
  have hg9 : gd (upd (jf2 f w b) 6 (jf2 f w b 6 + 1)) m (w - 1) k := gd_fr hg2 (fun o _ _ _ h6 _ _ _ => upd_n h6) (by rw [upd_n (by decide)]; exact hg2.2.2.2.2.2.2.2.1) (by rw [upd_n (by decide)]; exact hg2.2.2.2.2.1) hg2.2.2.2.2.2.1
  have hgm9 := gd_gm hg9 j2
  refine s8_agn h9 j1 hgm9 hkd ?_
  rw [agn_lo (by decide) (by decide)]
  have hag : agn (jf2 f w b) (jo f b) (f (170 + (4 * b + 1))) = jag f w b := rfl
  rw [hag]
  have fin : ∀ (J11 : gx_MM) (re' u : Int32), vm J11 (upd (jf3 f w b) 6 (jf3 f w b 6 + 1)) hs n sn ha tx tl re' → re' = jrs f w b re → u = jre f w b → wj_X8_doNext_123 Q (jag f w b) u (f (170 + (4 * b + 2))) (jk f b) 0 J11 := by
    intro J11 re' u h11 hre hu
    unfold wj_X8_doNext_123
    rw [hu]
    refine s8_note h11 (k := k) ?_ hg.2.2.2.2.2.1 fun J12 h12 => ?_
    · rw [upd_n (by decide)]; exact (gd_jf3 hg hb).2.2.2.2.1
    · have := hQ J12 (by rw [← hre]; exact h12)
      refine ⟨fun c => ?_, fun c => ?_⟩
      · rw [if_pos c] at this; exact this
      · rw [if_neg c] at this; exact this
  have hle : jag f w b ≤ 0 ↔ jag f w b = 0 := by
    have h := agn_or (jf2 f w b) (jo f b) (jk f b)
    have h : jag f w b = 0 ∨ jag f w b = 2 ∨ jag f w b = 3 ∨ jag f w b = 4 ∨ jag f w b = 5 := h
    rcases h with h | h | h | h | h <;> rw [h] <;> decide
  refine ⟨fun c => ?_, fun c J11 f11 => ⟨ix_of (n := 7) (N := 298) rfl (by decide), ix_of (n := 7) (N := 298) rfl (by decide), fun J12 f12 => ?_⟩⟩
  · have c0 := hle.mp c
    refine ⟨fun _ => s8_works h9 j1 j2 hg9 (by rw [agn_lo (by decide) (by decide)]; exact c0) fun J10 h10 => ?_, fun h => absurd c h⟩
    rw [prf_lo (by decide) (by decide)] at h10
    refine fin J10 re _ ?_ (by unfold jrs; rw [if_pos c0]) ?_
    · rw [jf3_6]; unfold jf3; rw [if_pos c0]; exact h10
    · rw [prs_lo (by decide) (by decide)]; unfold jre; rw [if_pos c0]; rfl
  · have c0 : ¬ jag f w b = 0 := fun q => c (hle.mpr q)
    have h11 : vm J11 (upd (jf2 f w b) 6 (jf2 f w b 6 + 1)) hs n sn ha tx tl (jag f w b) := by rw [f11]; exact h9.re
    have e7 : J11.1 (0 + 1) (7 : Int32).toNatClampNeg = jf2 f w b 7 := by
      have := h11.1 7 (by decide)
      rw [upd_n (by decide)] at this
      exact this
    rw [e7] at f12
    have h12 : vm J12 (upd (upd (jf2 f w b) 6 (jf2 f w b 6 + 1)) 7 (jf2 f w b 7 + 1)) hs n sn ha tx tl (jag f w b) := by rw [f12]; exact h11.put
    refine ⟨fun h => absurd h c, fun _ => fin J12 (jag f w b) _ ?_ (by unfold jrs; rw [if_neg c0]) (by unfold jre; rw [if_neg c0])⟩
    rw [jf3_6]; unfold jf3; rw [if_neg c0, upd_comm (by decide)]; exact h12
theorem pk_0 (hg : gd f m w k) (h : 0 < w) : ∃ b, pks f 0 (f 1) w = some b ∧ b < w := by
  have h1 := (js_next hg 0 (by omega)).2.2 h
  exact ⟨_, h1, (pks_some w _ h1).1⟩
theorem s3_both {Q : gx_M → Prop} (hx : vx I f hs n sn ha tx tl re) (hg : gd f m w k) (hpk : pks f 0 (f 1) w = some b) (hQ : ∀ I' : gx_M, vx I' f hs n sn ha tx tl re → I' 273 1 = nI b → Q I') : wp_X3_begin 273 1 I (fun I2 => wp_X3_goOn 273 1 I2 Q) := by
  obtain ⟨pa, hpa0, hpa⟩ := hg.2.2.2.2.2.2.2.1
  exact s3_begin hx fun I1 hx1 _ k2 _ k4 => s3_goOn hx1 hg k2 hpa0 hpa k4 hpk fun I2 hx2 _ k1 _ _ _ => hQ I2 hx2 k1
end DX
theorem st_next : ∀ (I : gx_M) (J : gx_MM), gv_Inv I J → wp_X7_next 0 I (fun r I1 => wp_X8_next 0 J (fun r2 J1 => r = r2 ∧ gv_Inv I1 J1)) := by
  intro I J hI
  obtain ⟨f, hs, n, sn, ha, tx, tl, re, hx, hm, gf, gh, gs⟩ := id hI
  obtain ⟨m, w, k, hg⟩ := id gf
  have hw := hg.2.2.2.1
  have aw : I (0 + 1 + 2) 1 = nI w := hx.wo hg
  have bw : J.1 (0 + 1) (4 : Int32).toNatClampNeg = nI w := hm.wo hg
  obtain ⟨pa, hpa0, hpa⟩ := hg.2.2.2.2.2.2.2.1
  unfold wp_X7_next wp_X8_next
  refine ⟨fun c => ⟨ix_of (n := 4) (N := 298) rfl (by decide), fun _ => ⟨rfl, hI⟩, fun h => absurd (by rw [bw, ← aw]; exact c) h⟩, fun c => s0_add hx fun I1 hx1 _ => ?_⟩
  have hw0 : 0 < w := Nat.pos_of_ne_zero fun q => c ((n_eq (b := 0) aw rfl).mpr q)
  obtain ⟨b, hb, hbw⟩ := pk_0 hg hw0
  refine s3_both hx1 hg hb fun I2 hx2 v2 => s5_jobs hx2 hg v2 hbw (q := 0) rfl (by decide) (s7_doJob hx2 hg hbw v2 fun I3 hx3 => ?_)
  refine ⟨ix_of (n := 4) (N := 298) rfl (by decide), fun h => absurd (by rw [aw, ← bw]; exact h) c, fun _ => s8_save hm fun J1 hm1 _ => ⟨ix_of (n := 1) (N := 298) rfl (by decide), ?_⟩⟩
  have e1 : J1.1 (0 + 1) (1 : Int32).toNatClampNeg = f 1 := hm1.1 1 (by decide)
  rw [e1]
  refine s8_first hm1 hg hpa0 hpa ?_
  rw [hb]
  refine s8_job hm1 (j := b) rfl (q := 0) rfl (by omega) (s8_doNext hm1 hg hb fun J2 hm2 => ?_)
  exact ⟨rfl, _, _, _, sn, ha, tx, tl, _, hx3, hm2, ⟨m, w - 1, _, gd_dj hg hbw⟩, psh_good hx.2.2.1 gh gf, gs⟩
/-- i jobs are done: the row, the records, the reason, how many were not refused -/
def wo (f : Nat → Int32) (w k : Nat) (re : Int32) : Nat → (Nat → Int32) × Nat × Int32 × Int32
  | 0 => (f, k, re, 0)
  | i + 1 =>
    let s := wo f w k re i
    let b := (pks s.1 0 (s.1 1) (w - i)).getD 0
    (dj s.1 (w - i) s.2.1 b, rek s.2.1, jrs s.1 (w - i) b s.2.2.1, if jag s.1 (w - i) b = 0 then s.2.2.2 + 1 else s.2.2.2)
section EX
variable {I : gx_M} {J : gx_MM} {f : Nat → Int32} {hs : Nat → Nat → Int32} {n : Nat} {sn : Nat → Int32} {ha : Nat} {tx : Nat → Int32} {tl : Nat} {re : Int32} {m w k : Nat}
theorem gd_wo (hg : gd f m w k) : ∀ i, i ≤ w → gd (wo f w k re i).1 m (w - i) (wo f w k re i).2.1 := by
  intro i
  induction i with
  | zero => intro _; exact hg
  | succ i ih =>
    intro hi
    have h := ih (by omega)
    obtain ⟨b, hb, hbw⟩ := pk_0 h (by omega)
    have e1 : (wo f w k re (i + 1)).1 = dj (wo f w k re i).1 (w - i) (wo f w k re i).2.1 ((pks (wo f w k re i).1 0 ((wo f w k re i).1 1) (w - i)).getD 0) := rfl
    have e2 : (wo f w k re (i + 1)).2.1 = rek (wo f w k re i).2.1 := rfl
    rw [e1, e2, hb, show w - (i + 1) = w - i - 1 by omega]
    exact gd_dj h hbw
theorem wo_7 (hg : gd f m w k) : ∀ i, i ≤ w → nI i - ((wo f w k re i).1 7 - f 7) = (wo f w k re i).2.2.2 := by
  intro i
  induction i with
  | zero =>
    intro _
    show nI 0 - (f 7 - f 7) = 0
    rw [Int32.sub_self]; rfl
  | succ i ih =>
    intro hi
    have h := ih (by omega)
    have hw := hg.2.2.2.1
    have e1 : (wo f w k re (i + 1)).1 = dj (wo f w k re i).1 (w - i) (wo f w k re i).2.1 ((pks (wo f w k re i).1 0 ((wo f w k re i).1 1) (w - i)).getD 0) := rfl
    have e2 : (wo f w k re (i + 1)).2.2.2 = if jag (wo f w k re i).1 (w - i) ((pks (wo f w k re i).1 0 ((wo f w k re i).1 1) (w - i)).getD 0) = 0 then (wo f w k re i).2.2.2 + 1 else (wo f w k re i).2.2.2 := rfl
    rw [e1, e2, dj_7 (by omega)]
    generalize (wo f w k re i).1 7 = x at h ⊢
    have hn : nI (i + 1) = nI i + 1 := (n_add (x := nI i) (y := 1) rfl rfl).symm
    split
    · rw [← h, hn, i_id1]
    · rw [← h, hn, i_id1 x, i_id2]
theorem s7_woff {Q : Int32 → gx_M → Prop} {v1 v2 : Int32} (hg : gd f m w k) (h1 : v1 = nI w) (h2 : v2 = f 7) (hQ : ∀ I' : gx_M, vx I' (wo f w k re w).1 hs n sn ha tx tl (wo f w k re w).2.2.1 → Q (wo f w k re w).2.2.2 I') : ∀ (d i : Nat), i + d = w → ∀ (I : gx_M) (v3 : Int32), v3 = nI i → vx I (wo f w k re i).1 hs n sn ha tx tl (wo f w k re i).2.2.1 → wl_X7_workOff_39 Q (d + 1) 0 v1 v2 v3 I := by
  have hw := hg.2.2.2.1
  intro d
  induction d with
  | zero =>
    intro i hi I v3 e3 hx
    have hi : i = w := by omega
    subst hi
    have e9 : I (0 + 1) 9 = (wo f i k re i).1 7 := hx.1 7 (by decide)
    rw [wl_X7_workOff_39]
    rw [e9]
    refine ⟨fun _ => ?_, fun h => absurd ((n_le h1 e3).mpr (Nat.le_refl _)) h⟩
    rw [h1, h2, wo_7 hg i (Nat.le_refl _)]
    exact hQ I hx
  | succ d ih =>
    intro i hi I v3 e3 hx
    have hgi := gd_wo (re := re) hg i (by omega)
    obtain ⟨b, hb, hbw⟩ := pk_0 hgi (by omega)
    rw [wl_X7_workOff_39]
    refine ⟨fun h => absurd ((n_le h1 e3).mp h) (by omega), fun _ => s3_both hx hgi hb fun I2 hx2 g2 => s7_doJob hx2 hgi hbw g2 fun I3 hx3 x ex => ih (i + 1) (by omega) I3 x (by rw [ex]; exact n_add e3 rfl) ?_⟩
    unfold wo
    simp only [hb, Option.getD_some]
    exact hx3
theorem s8_woff {Q : Int32 → gx_MM → Prop} (hg : gd f m w k) (hQ : ∀ J' : gx_MM, vm J' (wo f w k re w).1 hs n sn ha tx tl (wo f w k re w).2.2.1 → Q (wo f w k re w).2.2.2 J') : ∀ (d i : Nat), i + d = w → ∀ (J : gx_MM) (v1 : Int32), v1 = (wo f w k re i).2.2.2 → vm J (wo f w k re i).1 hs n sn ha tx tl (wo f w k re i).2.2.1 → wl_X8_workOff_18 Q (d + 1) 0 v1 J := by
  have hw := hg.2.2.2.1
  intro d
  induction d with
  | zero =>
    intro i hi J v1 e1 hm
    have hi : i = w := by omega
    subst hi
    have hgi := gd_wo (re := re) hg i (Nat.le_refl _)
    have e9 : J.1 (0 + 1) (4 : Int32).toNatClampNeg = nI (i - i) := hm.wo hgi
    rw [wl_X8_workOff_18]
    rw [e9]
    refine ⟨ix_of (n := 4) (N := 298) rfl (by decide), fun _ => by rw [e1]; exact hQ J hm, fun h => absurd ?_ h⟩
    rw [Nat.sub_self]; decide
  | succ d ih =>
    intro i hi J v1 e1 hm
    have hgi := gd_wo (re := re) hg i (by omega)
    obtain ⟨b, hb, hbw⟩ := pk_0 hgi (by omega)
    have e9 : J.1 (0 + 1) (4 : Int32).toNatClampNeg = nI (w - i) := hm.wo hgi
    have s1 : (wo f w k re (i + 1)).1 = dj (wo f w k re i).1 (w - i) (wo f w k re i).2.1 b := by
      conv => lhs; unfold wo
      simp only [hb, Option.getD_some]
    have s2 : (wo f w k re (i + 1)).2.2.1 = jrs (wo f w k re i).1 (w - i) b (wo f w k re i).2.2.1 := by
      conv => lhs; unfold wo
      simp only [hb, Option.getD_some]
    have s3 : (wo f w k re (i + 1)).2.2.2 = if jag (wo f w k re i).1 (w - i) b = 0 then (wo f w k re i).2.2.2 + 1 else (wo f w k re i).2.2.2 := by
      conv => lhs; unfold wo
      simp only [hb, Option.getD_some]
    rw [wl_X8_workOff_18]
    refine ⟨ix_of (n := 4) (N := 298) rfl (by decide), fun h => absurd ((n_le (b := 0) e9 rfl).mp h) (by omega), fun _ => s8_doNext hm hgi hb fun J2 hm2 => ⟨fun c x ex => ?_, fun c x ex => ?_⟩⟩
    · refine ih (i + 1) (by omega) J2 x ?_ (by rw [s1, s2]; exact hm2)
      rw [s3, if_neg (fun q => by rw [if_pos q] at c; exact absurd c (by decide)), ex, e1, Int32.add_zero]
    · refine ih (i + 1) (by omega) J2 x ?_ (by rw [s1, s2]; exact hm2)
      rw [s3, if_pos (Classical.byContradiction fun q => by rw [if_neg q] at c; exact c rfl), ex, e1]
end EX
theorem st_workOff : ∀ (I : gx_M) (J : gx_MM), gv_Inv I J → wp_X7_workOff 0 I (fun r I1 => wp_X8_workOff 0 J (fun r2 J1 => r = r2 ∧ gv_Inv I1 J1)) := by
  intro I J hI
  obtain ⟨f, hs, n, sn, ha, tx, tl, re, hx, hm, gf, gh, gs⟩ := id hI
  obtain ⟨m, w, k, hg⟩ := id gf
  have hw := hg.2.2.2.1
  have aw : I (0 + 1 + 2) 1 = nI w := hx.wo hg
  have bw : J.1 (0 + 1) (4 : Int32).toNatClampNeg = nI w := hm.wo hg
  unfold wp_X7_workOff wp_X8_workOff
  intro x ex
  rw [aw] at ex
  refine ⟨fun c => ⟨ix_of (n := 4) (N := 298) rfl (by decide), fun _ => ⟨rfl, hI⟩, fun h => absurd (by rw [bw, ← ex]; exact c) h⟩, fun c => s0_add hx fun I1 hx1 _ x2 ex2 => ⟨w + 1, ?_⟩⟩
  have ex2 : x2 = f 7 := by rw [ex2]; exact hx1.1 7 (by decide)
  refine s7_woff (re := re) hg ex ex2 (fun I2 hx2 => ?_) w 0 (by omega) I1 0 rfl hx1
  refine ⟨ix_of (n := 4) (N := 298) rfl (by decide), fun h => absurd (by rw [ex, ← bw]; exact h) c, fun _ => s8_save hm fun J1 hm1 _ => ⟨w + 1, ?_⟩⟩
  refine s8_woff (re := re) hg (fun J2 hm2 => ?_) w 0 (by omega) J1 0 rfl hm1
  exact ⟨rfl, _, _, _, sn, ha, tx, tl, _, hx2, hm2, ⟨m, _, _, gd_wo (re := re) hg w (Nat.le_refl _)⟩, psh_good hx.2.2.1 gh gf, gs⟩
