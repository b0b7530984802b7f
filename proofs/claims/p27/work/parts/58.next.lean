/-! a job is done -/
section LO
variable {f : Nat → Int32} {r o i : Nat} {v : Int32}
theorem qr_lo (ho : o < 10) : qr (upd f o v) r = qr f r := by funext q; exact upd_n (by omega)
theorem qg_lo (ho : o < 10) : qg (upd f o v) r = qg f r := by funext i w; exact upd_n (by omega)
theorem sm_lo (ho : o < 10) (h3 : o ≠ 3) : sm (upd f o v) f r i := ⟨fun q _ => by rw [qr_lo ho], upd_n (Ne.symm h3), by rw [qg_lo ho], by rw [qg_lo ho]⟩
theorem rdg_lo (ho : o < 10) (h3 : o ≠ 3) : rdg (upd f o v) r i = rdg f r i := by unfold rdg; rw [sm_sgn (sm_lo ho h3)]
theorem crr_lo (ho : o < 10) (h3 : o ≠ 3) : crr (upd f o v) r i = crr f r i := by unfold crr; rw [rdg_lo ho h3, qr_lo ho, qg_lo ho]
theorem ovc_lo (ho : o < 10) (h3 : o ≠ 3) : ∀ i, ovc (upd f o v) r i = ovc f r i := by
  intro i
  induction i with
  | zero => rfl
  | succ i ih => unfold ovc; rw [sm_sgn (sm_lo ho h3), ih]
theorem mx_lo (ho : o < 10) (h3 : o ≠ 3) : mx (upd f o v) r = mx f r := by unfold mx; rw [crr_lo ho h3]
theorem my_lo (ho : o < 10) (h3 : o ≠ 3) : my (upd f o v) r = my f r := by unfold my; rw [crr_lo ho h3, crr_lo ho h3, crr_lo ho h3, qr_lo ho]
theorem mg_lo (ho : o < 10) (h3 : o ≠ 3) : mg (upd f o v) r = mg f r := by unfold mg; rw [crr_lo ho h3, crr_lo ho h3, crr_lo ho h3, qr_lo ho]
theorem pul_lo (ho : o < 10) (h3 : o ≠ 3) {t : Nat} : pul (upd f o v) r t = pul f r t := by unfold pul; rw [mx_lo ho h3, my_lo ho h3, mg_lo ho h3]
theorem bst_lo (ho : o < 10) (h3 : o ≠ 3) : ∀ t, bst (upd f o v) r t = bst f r t := by
  intro t
  induction t with
  | zero => unfold bst; rw [pul_lo ho h3]
  | succ t ih => unfold bst; rw [pul_lo ho h3, ih]
theorem zo_lo (ho : o < 10) (h3 : o ≠ 3) : zo (upd f o v) r = zo f r := by funext i; unfold zo; rw [qg_lo ho, sm_sgn (sm_lo ho h3)]
theorem ob_lo (ho : o < 10) (h3 : o ≠ 3) : ob (upd f o v) r = ob f r := by funext i; unfold ob; rw [sm_onn (sm_lo ho h3), sm_off (sm_lo ho h3)]
theorem sz_lo (ho : o < 10) (h3 : o ≠ 3) : sz (upd f o v) r = sz f r := by funext i; unfold sz; rw [sm_stp (sm_lo ho h3)]
theorem agn_lo (ho : o < 10) (h3 : o ≠ 3) {kd : Int32} : agn (upd f o v) r kd = agn f r kd := by unfold agn; rw [ovc_lo ho h3, qr_lo ho, zo_lo ho h3, ob_lo ho h3, sz_lo ho h3]
theorem vz_lo (ho : o < 10) (h3 : o ≠ 3) : vz (upd f o v) r = vz f r := by funext i; unfold vz; rw [qg_lo ho, sm_sgn (sm_lo ho h3)]
theorem vg_lo (ho : o < 10) (h3 : o ≠ 3) : vg (upd f o v) r = vg f r := by funext i; unfold vg; rw [sm_sv (i := i) (sm_lo ho h3), sm_stp (sm_lo ho h3)]
theorem cv_lo (ho : o < 10) {u : Nat} {va : Nat → Int32} : ∀ i, cv (upd f o v) r u va i = cv f r u va i := by
  intro i
  induction i with
  | zero => rfl
  | succ i ih => unfold cv; rw [qg_lo ho, ih]
theorem fw_lo (ho : o < 10) {u : Nat} {va : Nat → Int32} : ∀ i, fw (upd f o v) r u va i = upd (fw f r u va i) o v := by
  intro i
  induction i with
  | zero => rfl
  | succ i ih => unfold fw; rw [ih, upd_comm (by omega)]
theorem prf_lo (ho : o < 10) (h3 : o ≠ 3) {kd : Int32} : prf (upd f o v) r kd = upd (prf f r kd) o v := by
  unfold prf
  rw [vz_lo ho h3, vg_lo ho h3]
  split
  · rfl
  · split
    · exact fw_lo ho 3
    · exact fw_lo ho 3
theorem prs_lo (ho : o < 10) (h3 : o ≠ 3) {kd : Int32} : prs (upd f o v) r kd = prs f r kd := by
  unfold prs mm rad
  rw [vz_lo ho h3, vg_lo ho h3, mx_lo ho h3, my_lo ho h3, bst_lo ho h3, cv_lo ho, cv_lo ho]
theorem prf_at (ho : o < 10) {kd : Int32} : prf f r kd o = f o := by
  unfold prf
  split
  · rfl
  · split <;> exact fw_n 3 fun j _ => by omega
theorem tk_upd {j w : Nat} (ho : o < 170) (h4 : o ≠ 4) : tk (upd f o v) j w = upd (tk f j w) o v := by
  funext a
  unfold tk
  by_cases e : a = o
  · subst e
    rw [upd_s, if_neg h4, if_neg (by omega), upd_s]
  · rw [upd_n e]
    rw [upd_n e]
    by_cases e4 : a = 4
    · rw [if_pos e4, if_pos e4]
    · rw [if_neg e4, if_neg e4]
      by_cases c : 170 + 4 * j ≤ a ∧ a < 170 + 4 * (w - 1)
      · rw [if_pos c, if_pos c, upd_n (by omega)]
      · rw [if_neg c, if_neg c]
theorem i_id1 (a y : Int32) : a + 1 - y = a - y + 1 := by
  rw [Int32.sub_eq_add_neg, Int32.sub_eq_add_neg, Int32.add_assoc, Int32.add_comm 1, ← Int32.add_assoc]
theorem i_id2 (a y : Int32) : a + 1 - (y + 1) = a - y := by
  rw [Int32.sub_eq_add_neg, Int32.neg_add, Int32.sub_eq_add_neg, Int32.add_assoc, Int32.add_comm (-y), ← Int32.add_assoc 1, Int32.add_right_neg, Int32.zero_add, ← Int32.sub_eq_add_neg]
theorem tk_lo {j w : Nat} (ho : o < 170 ∨ 250 ≤ o) (h4 : o ≠ 4) (hw : w ≤ 20) : tk f j w o = f o := by
  unfold tk
  rw [if_neg h4, if_neg (by omega)]
end LO
def jf2 (f : Nat → Int32) (w b : Nat) : Nat → Int32 := upd (upd (tk f b w) 2 (f 2 + dst f (f 1) b)) 1 (plj f b)
def jk (f : Nat → Int32) (b : Nat) : Int32 := f (170 + (4 * b + 1))
def jag (f : Nat → Int32) (w b : Nat) : Int32 := agn (jf2 f w b) (jo f b) (jk f b)
def jf3 (f : Nat → Int32) (w b : Nat) : Nat → Int32 := if jag f w b = 0 then prf (jf2 f w b) (jo f b) (jk f b) else upd (jf2 f w b) 7 (jf2 f w b 7 + 1)
def jre (f : Nat → Int32) (w b : Nat) : Int32 := if jag f w b = 0 then prs (jf2 f w b) (jo f b) (jk f b) else -1000004
def dj (f : Nat → Int32) (w k b : Nat) : Nat → Int32 := rec (upd (jf3 f w b) 6 (jf3 f w b 6 + 1)) k (jk f b) (f (170 + (4 * b + 2))) (jre f w b) (jag f w b)
def jrs (f : Nat → Int32) (w b : Nat) (re : Int32) : Int32 := if jag f w b = 0 then re else jag f w b
section DX
variable {I : gx_M} {f : Nat → Int32} {hs : Nat → Nat → Int32} {n : Nat} {sn : Nat → Int32} {ha : Nat} {tx : Nat → Int32} {tl : Nat} {re : Int32} {m w k b : Nat} {p : Int32}
theorem gd_jf2 (hg : gd f m w k) (hb : b < w) : gd (jf2 f w b) m (w - 1) k := by
  have hw := hg.2.2.2.1
  refine gd_fr (gd_tk hg hb) (fun o h1 h2 _ _ _ _ _ => ?_) ?_ ?_ hg.2.2.2.2.2.1
  · unfold jf2; rw [upd_n h1, upd_n h2]
  · unfold jf2; rw [upd_s]; exact gd_plj hg hb
  · unfold jf2; rw [upd_n (by decide), upd_n (by decide), tk_lo (by omega) (by decide) hw]; exact hg.2.2.2.2.1
theorem gd_jf3 (hg : gd f m w k) (hb : b < w) : gd (jf3 f w b) m (w - 1) k := by
  have h2 := gd_jf2 hg hb
  unfold jf3
  by_cases c : jag f w b = 0
  · rw [if_pos c]
    exact gd_prf h2 (gd_jo hg hb).2.1 c
  · rw [if_neg c]
    exact gd_fr h2 (fun o _ _ _ _ h7 _ _ => upd_n h7) (by rw [upd_n (by decide)]; exact h2.2.2.2.2.2.2.2.1) (by rw [upd_n (by decide)]; exact h2.2.2.2.2.1) h2.2.2.2.2.2.1
theorem gd_dj (hg : gd f m w k) (hb : b < w) : gd (dj f w k b) m (w - 1) (rek k) := by
  have h3 := gd_jf3 hg hb
  unfold dj
  refine gd_fr h3 (fun o _ _ _ h6 _ h8 ho => ?_) ?_ rec_8 rek_le
  · rw [rec_lo ho h8, upd_n h6]
  · rw [rec_lo (by decide) (by decide), upd_n (by decide)]; exact h3.2.2.2.2.2.2.2.1
theorem dj_7 (hw : w ≤ 20) : dj f w k b 7 = if jag f w b = 0 then f 7 else f 7 + 1 := by
  have e : jf2 f w b 7 = f 7 := by unfold jf2; rw [upd_n (by decide), upd_n (by decide), tk_lo (by omega) (by decide) hw]
  unfold dj
  rw [rec_lo (by decide) (by decide), upd_n (by decide)]
  unfold jf3
  by_cases c : jag f w b = 0
  · rw [if_pos c, if_pos c, prf_at (by decide), e]
  · rw [if_neg c, if_neg c, upd_s, e]
theorem jf3_6 : jf3 f w b 6 = jf2 f w b 6 := by
  unfold jf3
  split
  · exact prf_at (by decide)
  · exact upd_n (by decide)
theorem s7_doJob {Q : gx_M → Prop} (hx : vx I f hs n sn ha tx tl re) (hg : gd f m w k) (hb : b < w) (hp : p = nI b) (hQ : ∀ I' : gx_M, vx I' (dj f w k b) hs n sn ha tx tl (jrs f w b re) → Q I') : wp_X7_doJob 0 p I Q := by
  have hw := hg.2.2.2.1
  have hm8 := hg.2.1
  obtain ⟨j1, j2, j3⟩ := gd_jo hg hb
  have hg2 := gd_jf2 hg hb
  have hgm := gd_gm hg2 j2
  unfold wp_X7_doJob
  refine s5_jobs hx hg hp hb (q := 1) rfl (by decide) (s5_jobs hx hg hp hb (q := 2) rfl (by decide) (s6_find_t (hx.mo hg) hm8 j2 j1 ⟨fun h => (by cases h), fun b1 hb1 hk1 => ?_⟩))
  cases hb1
  refine s5_dropj hx hg.2.2.1 hw hp hb fun I5 hx5 _ => ?_
  have e0 : I5 (1 + (6 + 4 * jo f b)) 0 = plj f b := by
    rw [hx5.ro j3 (by decide), tk_lo (by omega) (by omega) hw]; rfl
  rw [e0]
  unfold wp_X6_goTo
  intro I6 e6 I7 e7
  have h16 : I5 (0 + 1) 6 = f 2 := by
    have := hx5.1 2 (by decide)
    rw [tk_lo (by omega) (by decide) hw] at this
    exact this
  have h15 : I5 (0 + 1) 5 = f 1 := by
    have := hx5.1 1 (by decide)
    rw [tk_lo (by omega) (by decide) hw] at this
    exact this
  rw [h16, h15] at e6
  have hx6 : vx I6 (upd (tk f b w) 2 (f 2 + dst f (f 1) b)) hs n sn ha tx tl re := by rw [e6]; exact hx5.put2
  have hx7 : vx I7 (jf2 f w b) hs n sn ha tx tl re := by rw [e7]; exact hx6.put1
  have hp3 : I7 (0 + 1) 4 = jf2 f w b 3 := hx7.1 3 (by decide)
  refine s2_take hx7 hg2 j2 hp3 fun I8 hx8 _ _ hme => s7_agn hx8 j3 hme ?_
  have hk8 : ∀ (g : Nat → Int32), g 8 = jf2 f w b 8 → (upd g 6 (g 6 + 1)) 8 = nI k := fun g h => by
    rw [upd_n (by decide), h]; exact hg2.2.2.2.2.1
  have fin : ∀ (I11 : gx_M) (re' : Int32), vx I11 (jf3 f w b) hs n sn ha tx tl re' → re' = jrs f w b re → wj_X7_doJob_130 Q 0 (jk f b) (f (170 + (4 * b + 2))) (jag f w b) (jre f w b) I11 := by
    intro I11 re' h11 hre I12 e12
    have v8 : I11 (0 + 1) 8 = jf3 f w b 6 := h11.1 6 (by decide)
    rw [v8] at e12
    have h12 : vx I12 (upd (jf3 f w b) 6 (jf3 f w b 6 + 1)) hs n sn ha tx tl re' := by rw [e12]; exact h11.put6
    refine s6_leave h12 (k := k) ?_ hg.2.2.2.2.2.1 fun I13 h13 _ => hQ I13 (by rw [← hre]; exact h13)
    rw [upd_n (by decide)]
    exact (gd_jf3 hg hb).2.2.2.2.1
  refine ⟨fun c => ?_, fun c I9 e9 I10 e10 => ?_⟩
  · have c : jag f w b = 0 := c
    refine s7_perf hx8 hgm hme c fun I11 h11 => ?_
    have := fin I11 re (by unfold jf3; rw [if_pos c]; exact h11) (by unfold jrs; rw [if_pos c])
    unfold jre at this
    rw [if_pos c] at this
    exact this
  · have c : ¬ jag f w b = 0 := c
    have h9 : vx I9 (jf2 f w b) hs n sn ha tx tl (jag f w b) := by rw [e9]; exact hx8.re
    have v9 : I9 (0 + 1) 9 = jf2 f w b 7 := h9.1 7 (by decide)
    rw [v9] at e10
    have h10 : vx I10 (upd (jf2 f w b) 7 (jf2 f w b 7 + 1)) hs n sn ha tx tl (jag f w b) := by rw [e10]; exact h9.put7
    have := fin I10 (jag f w b) (by unfold jf3; rw [if_neg c]; exact h10) (by unfold jrs; rw [if_neg c])
    unfold jre at this
    rw [if_neg c] at this
    exact this
theorem pk_0 (hg : gd f m w k) (h : 0 < w) : ∃ b, pks f 0 (f 1) w = some b ∧ b < w := by
  have h1 := (js_next hg 0 (by omega)).2.2 h
  exact ⟨_, h1, (pks_some w _ h1).1⟩
theorem s3_both {Q : gx_M → Prop} (hx : vx I f hs n sn ha tx tl re) (hg : gd f m w k) (hpk : pks f 0 (f 1) w = some b) (hQ : ∀ I' : gx_M, vx I' f hs n sn ha tx tl re → I' 273 1 = nI b → Q I') : wp_X3_begin 273 1 I (fun I2 => wp_X3_goOn 273 1 I2 Q) := by
  obtain ⟨pa, hpa0, hpa⟩ := hg.2.2.2.2.2.2.2.1
  exact s3_begin hx fun I1 hx1 _ k2 _ k4 => s3_goOn hx1 hg k2 hpa0 hpa k4 hpk fun I2 hx2 _ k1 _ _ _ => hQ I2 hx2 k1
end DX
/-- i jobs are done: the row, the records, the reason, how many were not refused -/
def wo (f : Nat → Int32) (w k : Nat) (re : Int32) : Nat → (Nat → Int32) × Nat × Int32 × Int32
  | 0 => (f, k, re, 0)
  | i + 1 =>
    let s := wo f w k re i
    let b := (pks s.1 0 (s.1 1) (w - i)).getD 0
    (dj s.1 (w - i) s.2.1 b, rek s.2.1, jrs s.1 (w - i) b s.2.2.1, if jag s.1 (w - i) b = 0 then s.2.2.2 + 1 else s.2.2.2)
section EX
variable {I : gx_M} {f : Nat → Int32} {hs : Nat → Nat → Int32} {n : Nat} {sn : Nat → Int32} {ha : Nat} {tx : Nat → Int32} {tl : Nat} {re : Int32} {m w k : Nat}
theorem gd_wo (hg : gd f m w k) : ∀ i, i ≤ w → gd (wo f w k re i).1 m (w - i) (wo f w k re i).2.1 := by
  intro i
  induction i with
  | zero => intro _; exact hg
  | succ i ih =>
    intro hi
    have h := ih (by omega)
    obtain ⟨b, hb, hbw⟩ := pk_0 h (by omega)
    have e1 : (wo f w k re (i + 1)).1 = dj (wo f w k re i).1 (w - i) (wo f w k re i).2.1 ((pks (wo f w k re i).1 0 ((wo f w k re i).1 1) (w - i)).getD 0) := rfl
    have e2 : (wo f w k re (i + 1)).2.1 = rek (wo f w k re i).2.1 := rfl
    rw [e1, e2, hb, show w - (i + 1) = w - i - 1 by omega]
    exact gd_dj h hbw
theorem wo_7 (hg : gd f m w k) : ∀ i, i ≤ w → nI i - ((wo f w k re i).1 7 - f 7) = (wo f w k re i).2.2.2 := by
  intro i
  induction i with
  | zero =>
    intro _
    show nI 0 - (f 7 - f 7) = 0
    rw [Int32.sub_self]; rfl
  | succ i ih =>
    intro hi
    have h := ih (by omega)
    have hw := hg.2.2.2.1
    have e1 : (wo f w k re (i + 1)).1 = dj (wo f w k re i).1 (w - i) (wo f w k re i).2.1 ((pks (wo f w k re i).1 0 ((wo f w k re i).1 1) (w - i)).getD 0) := rfl
    have e2 : (wo f w k re (i + 1)).2.2.2 = if jag (wo f w k re i).1 (w - i) ((pks (wo f w k re i).1 0 ((wo f w k re i).1 1) (w - i)).getD 0) = 0 then (wo f w k re i).2.2.2 + 1 else (wo f w k re i).2.2.2 := rfl
    rw [e1, e2, dj_7 (by omega)]
    generalize (wo f w k re i).1 7 = x at h ⊢
    have hn : nI (i + 1) = nI i + 1 := (n_add (x := nI i) (y := 1) rfl rfl).symm
    split
    · rw [← h, hn, i_id1]
    · rw [← h, hn, i_id1 x, i_id2]
theorem s7_woff {Q : Int32 → gx_M → Prop} {v1 v2 : Int32} (hg : gd f m w k) (h1 : v1 = nI w) (h2 : v2 = f 7) (hQ : ∀ I' : gx_M, vx I' (wo f w k re w).1 hs n sn ha tx tl (wo f w k re w).2.2.1 → Q (wo f w k re w).2.2.2 I') : ∀ (d i : Nat), i + d = w → ∀ (I : gx_M) (v3 : Int32), v3 = nI i → vx I (wo f w k re i).1 hs n sn ha tx tl (wo f w k re i).2.2.1 → wl_X7_workOff_39 Q (d + 1) 0 v1 v2 v3 I := by
  have hw := hg.2.2.2.1
  intro d
  induction d with
  | zero =>
    intro i hi I v3 e3 hx
    have hi : i = w := by omega
    subst hi
    have e9 : I (0 + 1) 9 = (wo f i k re i).1 7 := hx.1 7 (by decide)
    rw [wl_X7_workOff_39]
    rw [e9]
    refine ⟨fun _ => ?_, fun h => absurd ((n_le h1 e3).mpr (Nat.le_refl _)) h⟩
    rw [h1, h2, wo_7 hg i (Nat.le_refl _)]
    exact hQ I hx
  | succ d ih =>
    intro i hi I v3 e3 hx
    have hgi := gd_wo (re := re) hg i (by omega)
    obtain ⟨b, hb, hbw⟩ := pk_0 hgi (by omega)
    rw [wl_X7_workOff_39]
    refine ⟨fun h => absurd ((n_le h1 e3).mp h) (by omega), fun _ => s3_both hx hgi hb fun I2 hx2 g2 => s7_doJob hx2 hgi hbw g2 fun I3 hx3 x ex => ih (i + 1) (by omega) I3 x (by rw [ex]; exact n_add e3 rfl) ?_⟩
    unfold wo
    simp only [hb, Option.getD_some]
    exact hx3
end EX
