/-! all jobs are done, one after the other; works -/
theorem i_alg (y a n : Int32) : y = a + n - (n - (y - a)) := by
  apply Int32.toBitVec_inj.mp
  simp only [Int32.toBitVec_add, Int32.toBitVec_sub]
  generalize y.toBitVec = y
  generalize a.toBitVec = a
  generalize n.toBitVec = n
  bv_omega
section WK
variable {I : gx_M} {f : Nat → Int32} {hs : Nat → Nat → Int32} {n : Nat} {sn : Nat → Int32} {ha : Nat} {tx : Nat → Int32} {tl : Nat} {re : Int32} {m w k r i j b rq dn bk : Nat} {p p0 p1 p2 p3 : Int32} {Q : Int32 → gx_M → Prop}
theorem wo_s (i : Nat) : (wo f w k re (i + 1)).1 = dj (wo f w k re i).1 (w - i) (wo f w k re i).2.1 (jb (wo f w k re i).1 (w - i) 0) ∧ (wo f w k re (i + 1)).2.1 = rek (wo f w k re i).2.1 ∧ (wo f w k re (i + 1)).2.2.1 = jrs (wo f w k re i).1 (w - i) (jb (wo f w k re i).1 (w - i) 0) (wo f w k re i).2.2.1 := ⟨rfl, rfl, rfl⟩
theorem wo_gi (hi : gi f m w k rq dn bk) : ∀ i, i ≤ w → gi (wo f w k re i).1 m (w - i) (wo f w k re i).2.1 rq (dn + i) bk := by
  intro i
  induction i with
  | zero => intro _; exact hi
  | succ i ih =>
    intro h
    have h1 := ih (by omega)
    obtain ⟨e1, e2, e3⟩ := wo_s (f := f) (w := w) (k := k) (re := re) i
    rw [e1, e2, show w - (i + 1) = w - i - 1 by omega]
    exact gi_dj h1 (js_b h1.1 (by omega))
theorem wo_sk (hi : gi f m w k rq dn bk) : ∀ i, i ≤ w → (∀ t, i + t < w → ∀ q, q < 4 → (wo f w k re i).1 (170 + (4 * jb (wo f w k re i).1 (w - i) t + q)) = f (170 + (4 * jb f w (i + t) + q))) ∧ (∀ t, i + t ≤ w → (js f w (i + t)).2.2.1 = (js f w i).2.2.1 + (js (wo f w k re i).1 (w - i) t).2.2.1) ∧ (wo f w k re i).1 2 = f 2 + (js f w i).2.2.1 := by
  intro i
  induction i with
  | zero =>
    intro _
    refine ⟨fun t ht q hq => ?_, fun t ht => ?_, (Int32.add_zero _).symm⟩
    · rw [Nat.zero_add]; rfl
    · rw [Nat.zero_add]; exact (Int32.zero_add _).symm
  | succ i ih =>
    intro h
    obtain ⟨a1, a2, a3⟩ := ih (by omega)
    have h1 := wo_gi (re := re) hi i (by omega)
    have h2 := wo_gi (re := re) hi (i + 1) h
    obtain ⟨e1, e2, e3⟩ := wo_s (f := f) (w := w) (k := k) (re := re) i
    rw [e1, e2, show w - (i + 1) = w - i - 1 by omega] at h2
    rw [e1, show w - (i + 1) = w - i - 1 by omega]
    generalize (wo f w k re i).1 = G at a1 a2 a3 h1 h2 ⊢
    generalize (wo f w k re i).2.1 = kG at h1 h2 ⊢
    have hw0 : 0 < w - i := by omega
    have hwi := h1.1.2.2.2.1
    have hb : jb G (w - i) 0 < w - i := js_b h1.1 hw0
    have hj := (gd_jo h1.1 hb).2.2
    have hsk := js_sk h1.1 hw0 h2.1
    have d1 : (js f w (i + 1)).2.2.1 = (js f w i).2.2.1 + (js G (w - i) 1).2.2.1 := a2 1 h
    refine ⟨fun t ht q hq => ?_, fun t ht => ?_, ?_⟩
    · have hbt : jb (dj G (w - i) kG (jb G (w - i) 0)) (w - i - 1) t < w - i - 1 := js_b h2.1 (by omega)
      have := (hsk t (by omega)).2.2.2.2 (by omega)
      rw [dj_row hj hbt hq hwi, ← this, a1 (t + 1) (by omega) q hq, show i + (t + 1) = i + 1 + t by omega]
    · have := (hsk t (by omega)).2.2.2.1
      rw [d1, Int32.add_assoc, ← this, ← a2 (t + 1) (by omega), show i + (t + 1) = i + 1 + t by omega]
    · have e : (js G (w - i) 1).2.2.1 = 0 + dst G (G 1) (jb G (w - i) 0) := rfl
      rw [dj_2, a3, d1, e, Int32.zero_add, Int32.add_assoc]
theorem jov_at {q : Nat} (hq : q < 4) : jov f w j q = f (170 + (4 * jb f w j + q)) := by
  unfold jov jb
  rw [if_neg (by omega)]
theorem jov_4 : jov f w j 4 = (js f w (j + 1)).2.2.1 := by
  unfold jov
  rw [if_pos rfl]
theorem xL_works (hx : vx I f hs n sn ha tx tl re) (hi : gi f m w k rq dn bk) (h0 : w = 0 → ∀ I2 : gx_M, vx I2 f hs n sn ha tx tl re → Q 1 I2)
    (h1 : ∀ (f' : Nat → Int32) (w' k' dn' : Nat) (re' : Int32) (I2 : gx_M), gi f' m w' k' rq dn' bk → vx I2 f' (psh hs n f) (psn n) sn ha tx tl re' → Q 1 I2) : wp_L_works 0 p I Q := by
  have hi0 := hi
  obtain ⟨hg, h5, hrq, h6, hsum, hk, hn⟩ := hi0
  have hw := hg.2.2.2.1
  have h4 : f 4 = nI w := hg.2.2.1
  unfold wp_L_works
  refine x7_count hx (q := 1) rfl (by decide) ⟨fun c => ?_, fun c => ?_⟩
  · have hw0 : w = 0 := (n_eq (x := f 4) (b := 0) h4 rfl).mp c
    subst hw0
    exact x7_nextN hx hg ⟨fun _ => x7_woffN hx hg ⟨fun _ => h0 rfl I hx, fun c => absurd rfl c⟩, fun c => absurd rfl c⟩
  · have hw0 : 0 < w := Nat.pos_of_ne_zero fun q => c (by show f 4 = 0; rw [h4, q]; rfl)
    refine x7_count hx (q := 3) rfl (by decide) (x7_count hx (q := 4) rfl (by decide) (x7_count hx (q := 6) rfl (by decide) ⟨fun _ => ?_, fun _ => ?_⟩))
    · have hb : jb f w 0 < w := js_b hg hw0
      have hF := gi_dj hi hb
      obtain ⟨j1, j2, j3⟩ := gd_jo hg hb
      have hk0 : 0 < rek k := by unfold rek; split <;> omega
      have e2 : jov f w 0 2 = nI (jo f (jb f w 0)) := (jov_at (by decide)).trans j1
      refine x7_job hx hg hw0 (j := 0) rfl (q := 0) rfl (by decide) fun I1 hx1 => x7_job hx1 hg hw0 (j := 0) rfl (q := 2) rfl (by decide) fun I2 hx2 => x7_job hx2 hg hw0 (j := 0) rfl (q := 4) rfl (by decide) fun I3 hx3 => x7_next hx3 hg (jb_0 hg hw0) fun I4 hx4 => ⟨fun _ => ?_, fun c => absurd (jov_at (by decide)).symm c⟩
      refine x7_count hx4 (q := 3) rfl (by decide) ⟨fun _ => ?_, fun c => absurd (dj_6 hw) c⟩
      refine x7_count hx4 (q := 1) rfl (by decide) ⟨fun _ => ?_, fun c => absurd (show dj f w k (jb f w 0) 4 = f 4 - 1 by rw [h4]; exact hF.1.2.2.1.trans (n_sub (b := 1) (y := 1) rfl rfl hw0).symm) c⟩
      refine x7_count hx4 (q := 6) rfl (by decide) ⟨fun _ => ?_, fun c => absurd (show dj f w k (jb f w 0) 2 = f 2 + jov f w 0 4 by rw [dj_2, jov_4]; show _ = f 2 + (0 + dst f (f 1) (jb f w 0)); rw [Int32.zero_add]) c⟩
      refine x7_count hx4 (q := 5) rfl (by decide) (x7_rosette hx4 hF.1 j2 e2 (q := 0) rfl (by decide) fun I5 hx5 => ⟨fun _ => ?_, fun c => absurd (show dj f w k (jb f w 0) 1 = dj f w k (jb f w 0) (10 + 20 * jo f (jb f w 0) + 0) by rw [dj_1, dj_pl j3 hw]; rfl) c⟩)
      refine x7_record hx5 hF.1 hk0 (e := 0) rfl (q := 1) rfl (by decide) ⟨fun _ => ?_, fun c => absurd (show rcv (dj f w k (jb f w 0)) (rek k) 0 1 = jov f w 0 2 by rw [jov_at (by decide)]; exact rec_at.2.1) c⟩
      exact xL_did hx5 hg hb fun I6 hx6 => ⟨fun c => absurd c (by decide), fun _ => h1 _ _ _ _ _ I6 hF hx6⟩
    · obtain ⟨v, hv⟩ : ∃ v, w = v + 1 := ⟨w - 1, by omega⟩
      have e1 : f 4 - (1 : Int32) = nI v := by rw [h4]; exact n_re (n_sub (b := 1) rfl rfl hw0) (by omega)
      have hvw : v < w := by omega
      obtain ⟨s1, s2, s3⟩ := wo_sk (re := re) hi v (by omega)
      have hGi := wo_gi (re := re) hi v (by omega)
      have hw7 := wo_7 (re := re) hg w (Nat.le_refl _)
      obtain ⟨t1, t2, t3⟩ : (wo f w k re w).1 = dj (wo f w k re v).1 (w - v) (wo f w k re v).2.1 (jb (wo f w k re v).1 (w - v) 0) ∧ (wo f w k re w).2.1 = rek (wo f w k re v).2.1 ∧ (wo f w k re w).2.2.1 = jrs (wo f w k re v).1 (w - v) (jb (wo f w k re v).1 (w - v) 0) (wo f w k re v).2.2.1 := by
        have := wo_s (f := f) (w := w) (k := k) (re := re) v
        rw [← hv] at this
        exact this
      refine x7_job hx hg hvw (j := v) e1 (q := 2) rfl (by decide) fun I1 hx1 => x7_job hx1 hg hvw (j := v) e1 (q := 4) rfl (by decide) fun I2 hx2 => x7_woff hx2 hg hw0 fun I3 hx3 => ?_
      rw [t1, t3] at hx3
      rw [t1] at hw7
      generalize (wo f w k re w).2.2.2 = good at hw7 ⊢
      generalize (wo f w k re v).1 = G at s1 s2 s3 hGi hw7 hx3
      generalize (wo f w k re v).2.1 = kG at hGi hw7 hx3
      generalize (wo f w k re v).2.2.1 = rG at hx3
      have hwv := hGi.1.2.2.2.1
      have hb : jb G (w - v) 0 < w - v := js_b hGi.1 (by omega)
      have hF := gi_dj hGi hb
      obtain ⟨j1, j2, j3⟩ := gd_jo hGi.1 hb
      have hk0 : 0 < rek kG := by unfold rek; split <;> omega
      have c2 : G (170 + (4 * jb G (w - v) 0 + 2)) = jov f w v 2 := by rw [s1 0 (by omega) 2 (by decide), jov_at (by decide)]; rfl
      have e2 : jov f w v 2 = nI (jo G (jb G (w - v) 0)) := by rw [← c2]; exact j1
      refine x7_count hx3 (q := 3) rfl (by decide) ⟨fun _ => ?_, fun c => absurd (show dj G (w - v) kG (jb G (w - v) 0) 6 = f 6 + f 4 by rw [h6, h4, nI_add]; exact n_re hF.2.2.2.1 (by omega)) c⟩
      refine x7_count hx3 (q := 1) rfl (by decide) ⟨fun _ => ?_, fun c => absurd (show dj G (w - v) kG (jb G (w - v) 0) 4 = 0 from n_re (b := 0) hF.1.2.2.1 (by omega)) c⟩
      refine x7_count hx3 (q := 6) rfl (by decide) ⟨fun _ => ?_, fun c => absurd (show dj G (w - v) kG (jb G (w - v) 0) 2 = f 2 + jov f w v 4 from ?_) c⟩
      · refine x7_count hx3 (q := 5) rfl (by decide) (x7_rosette hx3 hF.1 j2 e2 (q := 0) rfl (by decide) fun I5 hx5 => ⟨fun _ => ?_, fun c => absurd (show dj G (w - v) kG (jb G (w - v) 0) 1 = dj G (w - v) kG (jb G (w - v) 0) (10 + 20 * jo G (jb G (w - v) 0) + 0) by rw [dj_1, dj_pl j3 hwv]; rfl) c⟩)
        refine x7_count hx5 (q := 4) rfl (by decide) ⟨fun _ => ?_, fun c => absurd (show dj G (w - v) kG (jb G (w - v) 0) 7 = f 7 + f 4 - good by rw [h4, ← hw7]; exact i_alg _ _ _) c⟩
        refine x7_record hx5 hF.1 hk0 (e := 0) rfl (q := 1) rfl (by decide) ⟨fun _ => ?_, fun c => absurd (show rcv (dj G (w - v) kG (jb G (w - v) 0)) (rek kG) 0 1 = jov f w v 2 by rw [← c2]; exact rec_at.2.1) c⟩
        exact xL_did hx5 hGi.1 hb fun I6 hx6 => ⟨fun c => absurd c (by decide), fun _ => h1 _ _ _ _ _ I6 hF hx6⟩
      · have e : (js G (w - v) 1).2.2.1 = 0 + dst G (G 1) (jb G (w - v) 0) := rfl
        rw [dj_2, s3, jov_4, s2 1 (by omega), e, Int32.zero_add, Int32.add_assoc]
end WK
