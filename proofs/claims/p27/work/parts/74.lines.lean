/-! the jobs' order -/
theorem bet_t {f : Nat → Int32} {pl : Int32} {a b : Nat} : bet f pl a b = true ↔ (f (170 + (4 * b + 3))).toInt < (f (170 + (4 * a + 3))).toInt ∨ ((f (170 + (4 * a + 3))).toInt = (f (170 + (4 * b + 3))).toInt ∧ ((dst f pl a).toInt < (dst f pl b).toInt ∨ ((dst f pl a).toInt = (dst f pl b).toInt ∧ (f (170 + (4 * a + 0))).toInt < (f (170 + (4 * b + 0))).toInt))) := by
  unfold bet
  by_cases c1 : f (170 + (4 * a + 3)) = f (170 + (4 * b + 3))
  · have e1 : (f (170 + (4 * a + 3))).toInt = (f (170 + (4 * b + 3))).toInt := by rw [c1]
    rw [if_pos c1]
    by_cases c2 : dst f pl a = dst f pl b
    · have e2 : (dst f pl a).toInt = (dst f pl b).toInt := by rw [c2]
      rw [if_pos c2, decide_eq_true_iff, Int32.lt_iff_toInt_lt]
      omega
    · have e2 : ¬ (dst f pl a).toInt = (dst f pl b).toInt := fun q => c2 (Int32.toInt_inj.mp q)
      rw [if_neg c2, decide_eq_true_iff, Int32.lt_iff_toInt_lt]
      omega
  · have e1 : ¬ (f (170 + (4 * a + 3))).toInt = (f (170 + (4 * b + 3))).toInt := fun q => c1 (Int32.toInt_inj.mp q)
    rw [if_neg c1, decide_eq_true_iff, Int32.lt_iff_toInt_lt]
    omega
theorem bet_f {f : Nat → Int32} {pl : Int32} {a b : Nat} (h : bet f pl a b = false) : ¬ bet f pl a b = true := by rw [h]; decide
theorem pks_best {f : Nat → Int32} {x pl : Int32} : ∀ j b, pks f x pl j = some b → ∀ c, c < j → mb x c = false → ¬ bet f pl c b = true := by
  intro j
  induction j with
  | zero => intro b h; cases h
  | succ j ih =>
    intro b h c hc hm
    have irr : ∀ a, ¬ bet f pl a a = true := fun a q => by have := bet_t.mp q; omega
    unfold pks at h
    split at h
    · rename_i c1
      have hcj : c ≠ j := fun q => by rw [q, c1] at hm; cases hm
      exact ih b h c (by omega) hm
    · split at h
      · rename_i hn
        cases h
        by_cases hcj : c = j
        · rw [hcj]; exact irr _
        · have := pks_none j hn c (by omega)
          rw [hm] at this; cases this
      · rename_i b2 hb2
        have i2 := ih b2 hb2
        split at h
        · rename_i hb
          cases h
          by_cases hcj : c = j
          · rw [hcj]; exact irr _
          · have h1 := i2 c (by omega) hm
            intro q
            apply h1
            have q1 := bet_t.mp q
            have q2 := bet_t.mp hb
            refine bet_t.mpr ?_
            omega
        · rename_i hb
          cases h
          by_cases hcj : c = j
          · rw [hcj]; exact hb
          · exact i2 c (by omega) hm
/-- the numbers of the jobs that wait -/
def gn (f : Nat → Int32) (w rq : Nat) : Prop := (∀ a, a < w → ∃ c, f (170 + (4 * a + 0)) = nI c ∧ c < rq) ∧ ∀ a b, a < b → b < w → (f (170 + (4 * a + 0))).toInt < (f (170 + (4 * b + 0))).toInt
section LI
variable {I : gx_M} {f : Nat → Int32} {hs : Nat → Nat → Int32} {n : Nat} {sn : Nat → Int32} {ha : Nat} {tx : Nat → Int32} {tl : Nat} {re : Int32} {m w k r rq i j : Nat} {p p0 p1 p2 p3 : Int32} {Q : Int32 → gx_M → Prop}
/-- the row of the job i -/
def jb (f : Nat → Int32) (w i : Nat) : Nat := (js f w (i + 1)).2.2.2
theorem js_mask (hg : gd f m w k) (hi : i < w) {c : Nat} (hc : c < 20) : mb (js f w (i + 1)).1 c = (mb (js f w i).1 c || decide (c = jb f w i)) := by
  have hb : (pks f (js f w i).1 (js f w i).2.1 w).getD 0 < w := js_b hg hi
  have hw := hg.2.2.2.1
  exact bit_or (b := (pks f (js f w i).1 (js f w i).2.1 w).getD 0) (by omega) hc
theorem js_mono (hg : gd f m w k) {c : Nat} (hc : c < 20) (hm : mb (js f w i).1 c = true) : ∀ d, i + d ≤ w → mb (js f w (i + d)).1 c = true := by
  intro d
  induction d with
  | zero => intro _; exact hm
  | succ d ih =>
    intro h
    have e := js_mask hg (i := i + d) (by omega) hc
    rw [ih (by omega), Bool.true_or] at e
    exact e
theorem js_un (hg : gd f m w k) (hi : i < w) : mb (js f w i).1 (jb f w i) = false := (pks_some w _ ((js_next hg i (by omega)).2.2 hi)).2
theorem js_ne (hg : gd f m w k) (hij : i < j) (hj : j < w) : jb f w j ≠ jb f w i := by
  intro e
  have hw := hg.2.2.2.1
  have hb := js_b hg (i := i) (by omega)
  have h1 : mb (js f w (i + 1)).1 (jb f w i) = true := by
    rw [js_mask hg (by omega) (by unfold jb; omega)]; simp
  have h2 := js_mono hg (by unfold jb; omega) h1 (j - (i + 1)) (by omega)
  rw [show i + 1 + (j - (i + 1)) = j by omega, ← e, js_un hg hj] at h2
  cases h2
theorem js_ord (hg : gd f m w k) (hn : gn f w rq) (hij : i < j) (hj : j < w) : ¬ (f (170 + (4 * jb f w i + 3))).toInt < (f (170 + (4 * jb f w j + 3))).toInt ∧ ((f (170 + (4 * jb f w j + 3))).toInt = (f (170 + (4 * jb f w i + 3))).toInt → ¬ (dst f (js f w i).2.1 (jb f w j)).toInt < (dst f (js f w i).2.1 (jb f w i)).toInt ∧ ((dst f (js f w i).2.1 (jb f w j)).toInt = (dst f (js f w i).2.1 (jb f w i)).toInt → (f (170 + (4 * jb f w i + 0))).toInt < (f (170 + (4 * jb f w j + 0))).toInt)) := by
  have hw := hg.2.2.2.1
  have hbi := js_b hg (i := i) (by omega)
  have hbj := js_b hg hj
  have hbi : jb f w i < w := hbi
  have hbj : jb f w j < w := hbj
  have hun : mb (js f w i).1 (jb f w j) = false := by
    cases hm : mb (js f w i).1 (jb f w j) with
    | false => rfl
    | true =>
      have h2 := js_mono hg (by omega) hm (j - i) (by omega)
      rw [show i + (j - i) = j by omega, js_un hg hj] at h2
      cases h2
  have hbest := pks_best w _ ((js_next hg i (by omega)).2.2 (by omega)) (jb f w j) hbj hun
  have hbest : ¬ bet f (js f w i).2.1 (jb f w j) (jb f w i) = true := hbest
  rw [bet_t] at hbest
  have hne := js_ne hg hij hj
  have hnum : (f (170 + (4 * jb f w i + 0))).toInt ≠ (f (170 + (4 * jb f w j + 0))).toInt := by
    by_cases c : jb f w i < jb f w j
    · have := hn.2 _ _ c hbj
      omega
    · have := hn.2 _ _ (show jb f w j < jb f w i by omega) hbi
      omega
  omega
theorem xL_lines (hx : vx I f hs n sn ha tx tl re) (hg : gd f m w k) (hn : gn f w rq) (h5 : f 5 = nI rq) (hrq : rq < 1000) (h : ∀ I2 : gx_M, vx I2 f hs n sn ha tx tl re → Q 1 I2) : wp_L_lines 0 I Q := by
  have hw := hg.2.2.2.1
  have hm8 := hg.2.1
  have z0 : (0 : Int32).toInt = 0 := rfl
  -- a job's rosette and its place
  have ros : ∀ (j : Nat) (p : Int32) (I : gx_M) (Q : Int32 → gx_M → Prop), j < w → p = jov f w j 2 → vx I f hs n sn ha tx tl re → (∀ I2 : gx_M, vx I2 f hs n sn ha tx tl re → Q (plj f (jb f w j)) I2) → wp_X7_rosette 0 p (0 : Int32) I Q := by
    intro j p I Q hj hp hx h
    obtain ⟨j1, j2, j3⟩ := gd_jo hg (js_b hg hj)
    exact x7_rosette hx hg (r := jo f (jb f w j)) j2 (by rw [hp]; exact j1) (q := 0) rfl (by decide) fun I2 hx2 => h I2 hx2
  have inner : ∀ (K : Nat → Int32 → Int32 → Int32 → Int32 → gx_M → Prop) (j : Nat), j < w → (∀ (I2 : gx_M) (u2 u3 u4 : Int32), vx I2 f hs n sn ha tx tl re → u2 = (js f w (j + 1)).2.1 → u3 = (js f w (j + 1)).2.2.1 → u4 = nI (j + 1) → K 0 (nI w) u2 u3 u4 I2) →
      ∀ (dd i : Nat), i + dd = w → j < i → ∀ (I : gx_M) (v1 v2 v3 v4 v5 v6 : Int32), v1 = nI w → v2 = (js f w j).2.1 → v3 = (js f w j).2.2.1 → v4 = nI j → v5 = dst f (js f w j).2.1 (jb f w j) → v6 = nI i → vx I f hs n sn ha tx tl re → wl_L_lines_48 Q K (dd + 1) 0 v1 v2 v3 v4 v5 v6 I := by
    intro K j hj hK dd
    induction dd with
    | zero =>
      intro i hi hji I v1 v2 v3 v4 v5 v6 e1 e2 e3 e4 e5 e6 hx
      obtain ⟨c, hc1, hc2⟩ := hn.1 _ (js_b hg hj)
      rw [wl_L_lines_48]
      refine ⟨fun _ x1 ex1 => ?_, fun c => absurd ((n_le e1 e6).mpr (by omega)) c⟩
      have e7 : (js f w (j + 1)).2.2.1 = x1 := by rw [ex1, e3, e5]; rfl
      refine x7_job hx hg hj e4 (q := 2) rfl (by decide) fun I1 hx1 => ros j _ I1 _ hj rfl hx1 fun I2 hx2 => x7_job hx2 hg hj e4 (q := 4) rfl (by decide) fun I3 hx3 => ⟨fun _ => ?_, fun c => absurd e7 c⟩
      refine x7_job hx3 hg hj e4 (q := 0) rfl (by decide) fun I4 hx4 => x7_count hx4 (q := 2) rfl (by decide) ⟨fun _ x2 ex2 => ?_, fun z => absurd ?_ z⟩
      · rw [e1]; exact hK I4 _ x1 x2 hx4 rfl e7.symm (by rw [ex2]; exact n_add e4 rfl)
      · have c1 : jov f w j 0 = nI c := hc1
        have c2 : cnv f n re tl 2 = nI rq := h5
        rw [c1, c2]
        exact (nI_ltI (by omega) (by omega)).mpr hc2
    | succ dd ih =>
      intro i hi hji I v1 v2 v3 v4 v5 v6 e1 e2 e3 e4 e5 e6 hx
      have hiw : i < w := by omega
      obtain ⟨o1, o2⟩ := js_ord hg hn hji hiw
      obtain ⟨ui, a1, a2⟩ := (hg.2.2.2.2.2.2.2.2.2 _ (js_b hg hiw)).2.2
      obtain ⟨uj, b1, b2⟩ := (hg.2.2.2.2.2.2.2.2.2 _ (js_b hg hj)).2.2
      have a1 : f (170 + (4 * jb f w i + 3)) = nI ui := a1
      have b1 : f (170 + (4 * jb f w j + 3)) = nI uj := b1
      rw [a1, b1, nI_toInt (by omega), nI_toInt (by omega)] at o1 o2
      have go : ∀ I : gx_M, vx I f hs n sn ha tx tl re → wj_L_lines_133 Q K (wl_L_lines_48 Q K (dd + 1)) 0 v1 v2 v3 v4 v5 v6 I := fun I hx x ex => ih (i + 1) (by omega) (by omega) I v1 v2 v3 v4 v5 x e1 e2 e3 e4 e5 (by rw [ex]; exact n_add e6 rfl) hx
      rw [wl_L_lines_48]
      refine ⟨fun c => absurd ((n_le e1 e6).mp c) (by omega), fun _ => ?_⟩
      refine x7_job hx hg hiw e6 (q := 3) rfl (by decide) fun I1 hx1 => x7_job hx1 hg hj e4 (q := 3) rfl (by decide) fun I2 hx2 x3 ex3 => x7_job hx2 hg hiw e6 (q := 2) rfl (by decide) fun I3 hx3 => ros i _ I3 _ hiw rfl hx3 fun I4 hx4 => xL_size ?_
      have t3 : x3.toInt = (ui : Int) - uj := by
        rw [ex3]
        exact i_subs (x := jov f w i 3) (y := jov f w j 3) a1 b1 (by omega) (by omega)
      have ed : szv (plj f (jb f w i) - v2) = dst f (js f w j).2.1 (jb f w i) := by rw [szv_abi, e2]; rfl
      rw [ed]
      refine ⟨fun c => ?_, fun _ => ⟨fun c0 => ?_, fun _ => go I4 hx4⟩⟩
      · have := Int32.lt_iff_toInt_lt.mp c
        rw [t3, z0] at this
        exact absurd (show (uj : Int) < ui by omega) o1
      · have t0 : (ui : Int) = uj := by
          have : x3.toInt = 0 := by rw [c0]; rfl
          omega
        obtain ⟨o3, o4⟩ := o2 t0
        refine ⟨fun c => absurd (by rw [e5] at c; exact Int32.lt_iff_toInt_lt.mp c) o3, fun _ => ⟨fun c2 => ?_, fun _ => go I4 hx4⟩⟩
        refine x7_job hx4 hg hiw e6 (q := 0) rfl (by decide) fun I5 hx5 => x7_job hx5 hg hj e4 (q := 0) rfl (by decide) fun I6 hx6 => ⟨fun _ => go I6 hx6, fun c => absurd ?_ c⟩
        exact Int32.lt_iff_toInt_lt.mpr (o4 (by rw [c2, e5]))
  have outer : ∀ (dd j : Nat), j + dd = w → ∀ (I : gx_M) (v1 v2 v3 v4 : Int32), v1 = nI w → v2 = (js f w j).2.1 → v3 = (js f w j).2.2.1 → v4 = nI j → vx I f hs n sn ha tx tl re → wl_L_lines_17 Q (dd + 1) 0 v1 v2 v3 v4 I := by
    intro dd
    induction dd with
    | zero =>
      intro j hj I v1 v2 v3 v4 e1 e2 e3 e4 hx
      rw [wl_L_lines_17]
      refine ⟨fun _ => ?_, fun c => absurd ((n_le e1 e4).mpr (by omega)) c⟩
      exact x7_jobN hx hg e1 ⟨fun _ => x7_jobB ⟨fun _ => x7_jobB5 ⟨fun _ => h I hx, fun c => absurd rfl c⟩, fun c => absurd rfl c⟩, fun c => absurd rfl c⟩
    | succ dd ih =>
      intro j hj I v1 v2 v3 v4 e1 e2 e3 e4 hx
      have hjw : j < w := by omega
      rw [wl_L_lines_17]
      refine ⟨fun c => absurd ((n_le e1 e4).mp c) (by omega), fun _ => ?_⟩
      refine x7_job hx hg hjw e4 (q := 2) rfl (by decide) fun I1 hx1 => ros j _ I1 _ hjw rfl hx1 fun I2 hx2 => xL_size fun x1 ex1 => ⟨w - (j + 1) + 1, ?_⟩
      have ed : szv (plj f (jb f w j) - v2) = dst f (js f w j).2.1 (jb f w j) := by rw [szv_abi, e2]; rfl
      exact inner (wl_L_lines_17 Q (dd + 1)) j hjw (fun I2 u2 u3 u4 hx2 h2 h3 h4 => ih (j + 1) (by omega) I2 (nI w) u2 u3 u4 rfl h2 h3 h4 hx2) (w - (j + 1)) (j + 1) (by omega) (by omega) I2 v1 v2 v3 v4 _ x1 e1 e2 e3 e4 ed (by rw [ex1]; exact n_add e4 rfl) hx2
  unfold wp_L_lines
  refine x7_count hx (q := 1) rfl (by decide) (x7_count hx (q := 5) rfl (by decide) ⟨w + 1, ?_⟩)
  exact outer w 0 (by omega) I _ _ _ _ hg.2.2.1 rfl rfl rfl hx
end LI
