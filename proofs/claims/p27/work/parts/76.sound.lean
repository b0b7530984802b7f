/-! all that must hold of a state -/
def gi (f : Nat → Int32) (m w k rq dn bk : Nat) : Prop := gd f m w k ∧ f 5 = nI rq ∧ rq < 1000 ∧ f 6 = nI dn ∧ rq = w + dn + bk ∧ k = min dn 12 ∧ gn f w rq
/-- the jobs that wait for the first i rosettes -/
def sw (f : Nat → Int32) (w : Nat) : Nat → Nat
  | 0 => 0
  | i + 1 => sw f w i + cw f (nI i) w
section SO
variable {I : gx_M} {f : Nat → Int32} {hs : Nat → Nat → Int32} {n : Nat} {sn : Nat → Int32} {ha : Nat} {tx : Nat → Int32} {tl : Nat} {re : Int32} {m w k r i j a rq dn bk : Nat} {p p0 p1 p2 p3 : Int32} {Q : Int32 → gx_M → Prop}
theorem sw_0 (f : Nat → Int32) : ∀ i, sw f 0 i = 0 := by
  intro i
  induction i with
  | zero => rfl
  | succ i ih => unfold sw; rw [ih]; rfl
theorem sw_s (hg : gd f m w k) (hj : j < w) : ∀ i, i ≤ 8 → sw f (j + 1) i = sw f j i + (if jo f j < i then 1 else 0) := by
  obtain ⟨j1, j2, j3⟩ := gd_jo hg hj
  intro i
  induction i with
  | zero => intro _; rw [if_neg (by omega)]; rfl
  | succ i ih =>
    intro hi
    have e : cw f (nI i) (j + 1) = cw f (nI i) j + if f (170 + (4 * j + 2)) = nI i then 1 else 0 := rfl
    unfold sw
    rw [ih (by omega), e, j1]
    by_cases c : jo f j = i
    · have h1 : nI (jo f j) = nI i := by rw [c]
      rw [if_neg (show ¬ jo f j < i by omega), if_pos h1, if_pos (show jo f j < i + 1 by omega)]; omega
    · have h1 : ¬ nI (jo f j) = nI i := fun q => c ((nI_eq (by omega) (by omega)).mp q)
      by_cases c2 : jo f j < i
      · rw [if_pos c2, if_neg h1, if_pos (show jo f j < i + 1 by omega)]; omega
      · rw [if_neg c2, if_neg h1, if_neg (show ¬ jo f j < i + 1 by omega)]; omega
theorem sw_m (hg : gd f m w k) : ∀ j, j ≤ w → sw f j m = j := by
  have hm8 := hg.2.1
  intro j
  induction j with
  | zero => intro _; exact sw_0 f m
  | succ j ih =>
    intro hj
    rw [sw_s hg (by omega) m hm8, ih (by omega), if_pos (gd_jo hg (by omega)).2.1]
theorem xL_s72 {v3 u : Int32} (hx : vx I f hs n sn ha tx tl re) (hi : gi f m w k rq dn bk) (e1 : p1 = nI bk) (hp : p = nI a) (ha1 : a ≤ 1000) (e3 : v3 = nI w) (eu : u = nI k) (h : ∀ I2 : gx_M, vx I2 f hs n sn ha tx tl re → Q 1 I2) : wj_L_sound_72 Q 0 p1 p v3 u I := by
  obtain ⟨hg, h5, hrq, h6, hsum, hk, hn⟩ := hi
  unfold wj_L_sound_72
  refine xL_lines hx hg hn h5 hrq fun I1 hx1 => ⟨fun c => absurd c (by decide), fun _ => ?_⟩
  refine xL_rail hx1 hg hp ha1 fun I2 hx2 => ⟨fun c => absurd c (by decide), fun _ => ?_⟩
  refine x7_count hx2 (q := 1) rfl (by decide) ⟨fun _ => ?_, fun c => absurd (by rw [e3]; exact hg.2.2.1.symm) c⟩
  refine x7_count hx2 (q := 2) rfl (by decide) (x7_count hx2 (q := 3) rfl (by decide) ⟨fun _ => ?_, fun c => absurd ?_ c⟩)
  · refine x7_count hx2 (q := 8) rfl (by decide) ⟨fun _ => ?_, fun c => absurd (by rw [eu]; exact hg.2.2.2.2.1) c⟩
    refine x7_recordN hx2 hg eu ⟨fun _ => ?_, fun c => absurd rfl c⟩
    exact x7_count hx2 (q := 12) rfl (by decide) ⟨fun _ => h I2 hx2, fun c => absurd rfl c⟩
  · show f 5 = v3 + f 6 + p1
    rw [h5, h6, e3, e1, nI_add, nI_add, hsum]
theorem xL_sound (hx : vx I f hs n sn ha tx tl re) (hi : gi f m w k rq dn bk) (e1 : p1 = nI bk) (hp : p = nI a) (ha1 : a ≤ 1000) (h : ∀ I2 : gx_M, vx I2 f hs n sn ha tx tl re → Q 1 I2) : wp_L_sound 0 p1 p I Q := by
  have hi0 := hi
  obtain ⟨hg, h5, hrq, h6, hsum, hk, hn⟩ := hi0
  have hm8 := hg.2.1
  have key : ∀ (dd i : Nat), i + dd = m → ∀ (I : gx_M) (v3 v4 : Int32), v3 = nI (sw f w i) → v4 = nI i → vx I f hs n sn ha tx tl re → wl_L_sound_5 Q (dd + 1) 0 p1 p v3 v4 I := by
    intro dd
    induction dd with
    | zero =>
      intro i him I v3 v4 e3 e4 hx
      have him : i = m := by omega
      subst him
      rw [sw_m hg w (Nat.le_refl _)] at e3
      rw [wl_L_sound_5]
      refine x7_count hx (q := 0) rfl (by decide) ⟨fun _ => ?_, fun c => absurd ((n_le (x := f 0) hg.1 e4).mpr (Nat.le_refl _)) c⟩
      refine x7_count hx (q := 3) rfl (by decide) ⟨fun c => ?_, fun c => ?_⟩
      · have c := (n_le (a := 12) (x := 12) (y := f 6) rfl h6).mp c
        exact xL_s72 hx hi e1 hp ha1 e3 (by rw [hk, Nat.min_eq_right c]; rfl) h
      · refine x7_count hx (q := 3) rfl (by decide) ?_
        have c : ¬ 12 ≤ dn := fun q => c ((n_le (a := 12) (x := 12) (y := f 6) rfl h6).mpr q)
        exact xL_s72 hx hi e1 hp ha1 e3 (by rw [hk, Nat.min_eq_left (by omega)]; exact h6) h
    | succ dd ih =>
      intro i him I v3 v4 e3 e4 hx
      have hlt : i < m := by omega
      rw [wl_L_sound_5]
      refine x7_count hx (q := 0) rfl (by decide) ⟨fun c => absurd ((n_le (x := f 0) hg.1 e4).mp c) (by omega), fun _ => ?_⟩
      refine x7_rosette hx hg hlt e4 (q := 11) rfl (by decide) fun I1 hx1 x1 ex1 => ?_
      refine xL_strains hx1 hg hlt e4 fun I2 hx2 => ⟨fun c => absurd c (by decide), fun _ => ?_⟩
      refine xL_gauges hx2 hg hlt e4 fun I3 hx3 => ⟨fun c => absurd c (by decide), fun _ x2 ex2 => ?_⟩
      refine ih (i + 1) (by omega) I3 x1 x2 ?_ (by rw [ex2]; exact n_add e4 rfl) hx3
      rw [ex1, e3]
      exact nI_add _ _
  unfold wp_L_sound
  exact ⟨m + 1, key m 0 (by omega) I 0 0 rfl rfl hx⟩
end SO
