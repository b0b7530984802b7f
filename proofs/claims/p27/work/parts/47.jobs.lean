/-! jobs: counts, request, record, neighbour -/
section JX
variable {I : gx_M} {f : Nat → Int32} {hs : Nat → Nat → Int32} {n : Nat} {sn : Nat → Int32} {ha : Nat} {tx : Nat → Int32} {tl : Nat} {re : Int32} {m w k : Nat}
theorem vx.putj (h : vx I f hs n sn ha tx tl re) {j : Nat} {v : Int32} (hj : j < 80) : vx (up I 4 j v) (upd f (170 + j) v) hs n sn ha tx tl re := by
  obtain ⟨h1, h2, h3⟩ := lo_j j hj
  have h4 := h.put (v := v) (by omega) h1 h2
  rw [show fl_nz (170 + j) v = v by unfold fl_nz; rw [h3]; rfl] at h4
  exact h4
theorem vx.putc (h : vx I f hs n sn ha tx tl re) {j : Nat} {v : Int32} (hj : j < 48) : vx (up I 6 j v) (upd f (250 + j) v) hs n sn ha tx tl re := by
  obtain ⟨h1, h2, h3⟩ := lo_c j hj
  have h4 := h.put (v := v) (by omega) h1 h2
  rw [show fl_nz (250 + j) v = v by unfold fl_nz; rw [h3]; rfl] at h4
  exact h4
theorem vx.put0 (h : vx I f hs n sn ha tx tl re) {v : Int32} : vx (up I 1 3 v) (upd f 0 v) hs n sn ha tx tl re := h.put (o0 := 0) (by decide) rfl rfl
theorem vx.put1 (h : vx I f hs n sn ha tx tl re) {v : Int32} : vx (up I 1 5 v) (upd f 1 v) hs n sn ha tx tl re := h.put (o0 := 1) (by decide) rfl rfl
theorem vx.put2 (h : vx I f hs n sn ha tx tl re) {v : Int32} : vx (up I 1 6 v) (upd f 2 v) hs n sn ha tx tl re := h.put (o0 := 2) (by decide) rfl rfl
theorem vx.put4 (h : vx I f hs n sn ha tx tl re) {v : Int32} : vx (up I 3 1 v) (upd f 4 v) hs n sn ha tx tl re := h.put (o0 := 4) (by decide) rfl rfl
theorem vx.put5 (h : vx I f hs n sn ha tx tl re) {v : Int32} : vx (up I 1 7 v) (upd f 5 v) hs n sn ha tx tl re := h.put (o0 := 5) (by decide) rfl rfl
theorem vx.put6 (h : vx I f hs n sn ha tx tl re) {v : Int32} : vx (up I 1 8 v) (upd f 6 v) hs n sn ha tx tl re := h.put (o0 := 6) (by decide) rfl rfl
theorem vx.put7 (h : vx I f hs n sn ha tx tl re) {v : Int32} : vx (up I 1 9 v) (upd f 7 v) hs n sn ha tx tl re := h.put (o0 := 7) (by decide) rfl rfl
theorem vx.put8 (h : vx I f hs n sn ha tx tl re) {v : Int32} : vx (up I 5 1 v) (upd f 8 v) hs n sn ha tx tl re := h.put (o0 := 8) (by decide) rfl rfl
theorem vx.at (h : vx I f hs n sn ha tx tl re) {o : Nat} (ho : o < 298) : fl I 1 o = f o := h.1 o ho
/-- how many of the first jobs are for a rosette -/
def cw (f : Nat → Int32) (p : Int32) : Nat → Nat
  | 0 => 0
  | j + 1 => cw f p j + if f (170 + (4 * j + 2)) = p then 1 else 0
theorem cw_le (f : Nat → Int32) (p : Int32) : ∀ j, cw f p j ≤ j := by
  intro j
  induction j with
  | zero => exact Nat.le_refl 0
  | succ j ih =>
    unfold cw
    split <;> omega
theorem s6_jobsFor {Q : Int32 → gx_M → Prop} {p : Int32} (hx : vx I f hs n sn ha tx tl re) (hg : gd f m w k) (hQ : Q (nI (cw f p w)) I) : wp_X6_jobsFor 1 p I Q := by
  have key : ∀ (d j : Nat), j + d = w → ∀ (v2 v3 : Int32), v2 = nI (cw f p j) → v3 = nI j → wl_X6_jobsFor_4 Q (d + 1) 1 p v2 v3 I := by
    intro d
    have hw := hg.2.2.2.1
    induction d with
    | zero =>
      intro j hj v2 v3 e2 e3
      rw [wl_X6_jobsFor_4]
      refine ⟨fun _ => by rw [e2, show j = w by omega]; exact hQ, fun h => absurd ((n_le (hx.wo hg) e3).mpr (by omega)) h⟩
    | succ d ih =>
      intro j hj v2 v3 e2 e3
      rw [wl_X6_jobsFor_4]
      refine ⟨fun h => absurd ((n_le (hx.wo hg) e3).mp h) (by omega), fun _ => s5_jobs hx hg e3 (by omega) (q := 2) rfl (by decide) ⟨fun c x1 ex1 x2 ex2 => ?_, fun c x2 ex2 => ?_⟩⟩
      · refine ih (j + 1) (by omega) x1 x2 ?_ (by rw [ex2]; exact n_add e3 rfl)
        rw [ex1]; unfold cw; rw [if_pos c]; exact n_add e2 rfl
      · refine ih (j + 1) (by omega) v2 x2 ?_ (by rw [ex2]; exact n_add e3 rfl)
        unfold cw; rw [if_neg c]; exact e2
  exact ⟨w + 1, key w 0 (by omega) 0 0 rfl rfl⟩
/-- a job is added -/
def aj (f : Nat → Int32) (w : Nat) (a b c : Int32) : Nat → Int32 :=
  upd (upd (upd (upd (upd (upd f (170 + (4 * w + 0)) (f 5)) (170 + (4 * w + 1)) a) (170 + (4 * w + 2)) b) (170 + (4 * w + 3)) c) 4 (nI (w + 1))) 5 (f 5 + 1)
theorem s6_addJob {Q : Int32 → gx_M → Prop} {a b c : Int32} (hx : vx I f hs n sn ha tx tl re) (hw0 : f 4 = nI w) (hw : w < 20) (hQ : ∀ I' : gx_M, vx I' (aj f w a b c) hs n sn ha tx tl re → (∀ a, 39 ≤ a → I' a = I a) → Q (f 5) I') : wp_X6_addJob 1 a b c I Q := by
  have a5 : I 1 7 = f 5 := hx.1 5 (by decide)
  have aw : I 3 1 = nI w := by rw [← hw0]; exact hx.1 4 (by decide)
  unfold wp_X6_addJob wp_X5_add
  intro x ex y ey
  have ex : x = f 5 := by rw [ex]; exact a5
  have ey : y = nI (4 * w + 0) := by
    rw [ey]
    show I 3 1 * 4 = _
    rw [aw, show (4 : Int32) = nI 4 from rfl, pk_mul, Nat.mul_comm]; rfl
  have e1 : y + (1 : Int32) = nI (4 * w + 1) := n_add ey rfl
  have e2 : y + (2 : Int32) = nI (4 * w + 2) := n_add ey rfl
  have e3 : y + (3 : Int32) = nI (4 * w + 3) := n_add ey rfl
  have e4 : y + (4 : Int32) = nI (4 * w + 4) := n_add ey rfl
  rw [cl_of ey, cl_of e1, cl_of e2, cl_of e3]
  refine ⟨fun h => absurd h (n_neg ey), fun _ => ⟨fun _ => ⟨ix_of (N := 80) ey (by omega), fun I1 f1 => ⟨ix_of (N := 80) e1 (by omega), fun I2 f2 => ⟨ix_of (N := 80) e2 (by omega), fun I3 f3 => ⟨ix_of (N := 80) e3 (by omega), fun I4 f4 I5 f5 I6 f6 => ?_⟩⟩⟩⟩, fun h => absurd ((n_le (b := 80) e4 rfl).mpr (by omega)) h⟩⟩
  have h1 : vx I1 (upd f (170 + (4 * w + 0)) (f 5)) hs n sn ha tx tl re := by rw [f1, ex]; exact hx.putj (by omega)
  have h2 : vx I2 (upd (upd f (170 + (4 * w + 0)) (f 5)) (170 + (4 * w + 1)) a) hs n sn ha tx tl re := by rw [f2]; exact h1.putj (by omega)
  have h3 : vx I3 (upd (upd (upd f (170 + (4 * w + 0)) (f 5)) (170 + (4 * w + 1)) a) (170 + (4 * w + 2)) b) hs n sn ha tx tl re := by rw [f3]; exact h2.putj (by omega)
  have h4 : vx I4 (upd (upd (upd (upd f (170 + (4 * w + 0)) (f 5)) (170 + (4 * w + 1)) a) (170 + (4 * w + 2)) b) (170 + (4 * w + 3)) c) hs n sn ha tx tl re := by rw [f4]; exact h3.putj (by omega)
  have g4 : I4 3 1 = nI w := by
    have := h4.1 4 (by decide)
    rw [upd_n (by omega), upd_n (by omega), upd_n (by omega), upd_n (by omega), hw0] at this
    exact this
  have h5 : vx I5 (upd (upd (upd (upd (upd f (170 + (4 * w + 0)) (f 5)) (170 + (4 * w + 1)) a) (170 + (4 * w + 2)) b) (170 + (4 * w + 3)) c) 4 (nI (w + 1))) hs n sn ha tx tl re := by
    rw [f5]
    have e : I4 (1 + 2) 1 + (1 : Int32) = nI (w + 1) := n_add (a := w) (b := 1) g4 rfl
    rw [e]
    exact h4.put4
  have g5 : I5 1 7 = f 5 := by
    have := h5.1 5 (by decide)
    rw [upd_n (by decide), upd_n (by omega), upd_n (by omega), upd_n (by omega), upd_n (by omega)] at this
    exact this
  have h6 : vx I6 (upd (upd (upd (upd (upd (upd f (170 + (4 * w + 0)) (f 5)) (170 + (4 * w + 1)) a) (170 + (4 * w + 2)) b) (170 + (4 * w + 3)) c) 4 (nI (w + 1))) 5 (f 5 + 1)) hs n sn ha tx tl re := by rw [f6, g5]; exact h5.put5
  rw [ex]
  refine hQ I6 h6 fun a ha => ?_
  rw [f6, up_ne (by omega), f5, up_ne (by omega), f4, up_ne (by omega), f3, up_ne (by omega), f2, up_ne (by omega), f1, up_ne (by omega)]
theorem aj_lo {f : Nat → Int32} {w o : Nat} {a b c : Int32} (h : o < 170 + 4 * w ∨ 170 + 4 * w + 4 ≤ o) (h4 : o ≠ 4) (h5 : o ≠ 5) : aj f w a b c o = f o := by
  unfold aj
  rw [upd_n h5, upd_n h4, upd_n (by omega), upd_n (by omega), upd_n (by omega), upd_n (by omega)]
theorem gd_aj {a b c : Int32} (hg : gd f m w k) (hw : w < 20) (ha : ∃ d, a = nI d ∧ d ≤ 2) (hb : ∃ r, b = nI r ∧ r < m) (hc : ∃ u, c = nI u ∧ u ≤ 9) : gd (aj f w a b c) m (w + 1) k := by
  obtain ⟨a1, a2, a3, a4, a5, a6, a7, a8, a9, a10⟩ := hg
  have e : ∀ o, o < 170 → o ≠ 4 → o ≠ 5 → aj f w a b c o = f o := fun o h1 h2 h3 => aj_lo (by omega) h2 h3
  refine ⟨by rw [e 0 (by decide) (by decide) (by decide)]; exact a1, a2, by unfold aj; rw [upd_n (by decide), upd_s], by omega, by rw [e 8 (by decide) (by decide) (by decide)]; exact a5, a6, by rw [e 3 (by decide) (by decide) (by decide)]; exact a7, by rw [e 1 (by decide) (by decide) (by decide)]; exact a8, fun r hr => ?_, fun j hj => ?_⟩
  · unfold aj
    exact gr_upd (gr_upd (gr_upd (gr_upd (gr_upd (gr_upd (a9 r hr) (by omega)) (by omega)) (by omega)) (by omega)) (by omega)) (by omega)
  · by_cases ej : j = w
    · subst ej
      unfold gj aj
      refine ⟨?_, ?_, ?_⟩
      · rw [upd_n (by omega), upd_n (by omega), upd_n (by omega), upd_n (by omega), upd_s]; exact ha
      · rw [upd_n (by omega), upd_n (by omega), upd_n (by omega), upd_s]; exact hb
      · rw [upd_n (by omega), upd_n (by omega), upd_s]; exact hc
    · unfold aj
      exact gj_upd (gj_upd (gj_upd (gj_upd (gj_upd (gj_upd (a10 j (by omega)) (by omega)) (by omega)) (by omega)) (by omega)) (by omega)) (by omega)
end JX
