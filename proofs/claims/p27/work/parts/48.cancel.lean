/-! a job is taken out; cancel; neighbour -/
def tk (f : Nat → Int32) (j w : Nat) : Nat → Int32 := fun o => if o = 4 then nI (w - 1) else if 170 + 4 * j ≤ o ∧ o < 170 + 4 * (w - 1) then f (o + 4) else f o
theorem lo_nj : ∀ o, o < 298 → o ≠ 4 → ¬ (170 ≤ o ∧ o < 250) → (fl_lo o).1 ≠ 2 ∧ (fl_lo o).1 ≠ 3 := by decide +kernel
theorem lo_nc : ∀ o, o < 298 → o ≠ 8 → o < 250 → (fl_lo o).1 ≠ 4 ∧ (fl_lo o).1 ≠ 5 := by decide +kernel
theorem fl_off {I I' : gx_M} {b o : Nat} (h : I' (b + (fl_lo o).1) = I (b + (fl_lo o).1)) : fl I' b o = fl I b o := by
  unfold fl
  rw [h]
theorem gd_tk {f : Nat → Int32} {m w k j : Nat} (hg : gd f m w k) (hj : j < w) : gd (tk f j w) m (w - 1) k := by
  obtain ⟨a1, a2, a3, a4, a5, a6, a7, a8, a9, a10⟩ := hg
  have e : ∀ o, o ≠ 4 → o < 170 → tk f j w o = f o := fun o h1 h2 => by unfold tk; rw [if_neg h1, if_neg (by omega)]
  refine ⟨by rw [e 0 (by decide) (by decide)]; exact a1, a2, rfl, by omega, by rw [e 8 (by decide) (by decide)]; exact a5, a6, by rw [e 3 (by decide) (by decide)]; exact a7, by rw [e 1 (by decide) (by decide)]; exact a8, fun r hr => ?_, fun i hi => ?_⟩
  · unfold gr
    have e2 : ∀ q, q < 18 → tk f j w (10 + 20 * r + q) = f (10 + 20 * r + q) := fun q hq => e _ (by omega) (by omega)
    obtain ⟨g1, g2, g3, g4, g5, g6, g7, g8⟩ := a9 r hr
    rw [e2 0 (by omega), e2 1 (by omega), e2 2 (by omega), e2 3 (by omega), e2 4 (by omega), e2 8 (by omega)]
    refine ⟨g1, g2, g3, g4, g5, fun q hq => by rw [e2 (5 + q) (by omega)]; exact g6 q hq, g7, fun k hk => ?_⟩
    rw [e2 (9 + 3 * k + 0) (by omega), e2 (9 + 3 * k + 1) (by omega), e2 (9 + 3 * k + 2) (by omega)]
    exact g8 k hk
  · by_cases h : j ≤ i
    · have e2 : ∀ q, q < 4 → tk f j w (170 + (4 * i + q)) = f (170 + (4 * (i + 1) + q)) := fun q hq => by
        unfold tk
        rw [if_neg (by omega), if_pos (by omega), show 170 + (4 * i + q) + 4 = 170 + (4 * (i + 1) + q) by omega]
      unfold gj
      rw [e2 1 (by decide), e2 2 (by decide), e2 3 (by decide)]
      exact a10 (i + 1) (by omega)
    · have e2 : ∀ q, q < 4 → tk f j w (170 + (4 * i + q)) = f (170 + (4 * i + q)) := fun q hq => by
        unfold tk
        rw [if_neg (by omega), if_neg (by omega)]
      unfold gj
      rw [e2 1 (by decide), e2 2 (by decide), e2 3 (by decide)]
      exact a10 i (by omega)
section CX
variable {I : gx_M} {f : Nat → Int32} {hs : Nat → Nat → Int32} {n : Nat} {sn : Nat → Int32} {ha : Nat} {tx : Nat → Int32} {tl : Nat} {re : Int32} {m w k : Nat} {p : Int32}
theorem s5_dropj {Q : gx_M → Prop} {j : Nat} (hx : vx I f hs n sn ha tx tl re) (hw0 : f 4 = nI w) (hw : w ≤ 20) (hp : p = nI j) (hj : j < w) (hQ : ∀ I' : gx_M, vx I' (tk f j w) hs n sn ha tx tl re → (∀ a, a ≠ 3 → a ≠ 4 → I' a = I a) → Q I') : wp_X5_drop 3 p I Q := by
  have aw : I 3 1 = nI w := by rw [← hw0]; exact hx.1 4 (by decide)
  have e4 : (4 : Int32) = nI 4 := rfl
  unfold wp_X5_drop
  refine ⟨fun h => absurd h (n_neg hp), fun _ => ⟨fun _ x ex => ?_, fun h => absurd ((n_lt hp aw).mpr hj) h⟩⟩
  have ex : x = nI (4 * (j + 1)) := by rw [ex, hp, e4, show (1 : Int32) = nI 1 from rfl, nI_add, pk_mul, Nat.mul_comm]
  have ep : p * (4 : Int32) = nI (4 * j) := by rw [hp, e4, pk_mul, Nat.mul_comm]
  have ew : I 3 1 * (4 : Int32) = nI (4 * w) := by rw [aw, e4, pk_mul, Nat.mul_comm]
  have es : I 3 1 * (4 : Int32) - x = nI (4 * w - 4 * (j + 1)) := n_sub ew ex (by omega)
  rw [cl_of ex, cl_of ep, cl_of es]
  refine ⟨⟨⟨n_neg ex, n_neg ep, n_neg es⟩, by show 4 * (j + 1) + (4 * w - 4 * (j + 1)) ≤ 80; omega, by show 4 * j + (4 * w - 4 * (j + 1)) ≤ 80; omega⟩, fun I1 e1 I2 e2 => ?_⟩
  have z : ∀ a, a ≠ 3 → a ≠ 4 → I2 a = I a := fun a h3 h4 => by rw [e2, up_ne h3, e1, upr_ne h4]
  have v3 : I2 3 1 = nI (w - 1) := by rw [e2, up_eq, upd_s, e1, upr_ne (by decide)]; exact n_sub (b := 1) aw rfl
  have v4 : ∀ q, I2 4 q = if 4 * j ≤ q ∧ q < 4 * (w - 1) then I 4 (q + 4) else I 4 q := fun q => by
    rw [e2, up_ne (by decide), e1]
    show upr I 4 _ 4 q = _
    rw [upr_eq]
    by_cases h : 4 * j ≤ q ∧ q < 4 * (w - 1)
    · rw [if_pos h, pk_cpy_in h.1 (by omega)]
      show I 4 _ = _
      rw [show 4 * (j + 1) + (q - 4 * j) = q + 4 by omega]
    · rw [if_neg h, pk_cpy_out (by omega)]
  refine hQ I2 ⟨fun o ho => ?_, hx.2.fr (fun a ha => z a (by omega) (by omega)) (by rw [z 269 (by decide) (by decide)])⟩ z
  unfold tk
  by_cases h4 : o = 4
  · rw [if_pos h4, h4]; exact v3
  rw [if_neg h4]
  by_cases hr : 170 ≤ o ∧ o < 250
  · obtain ⟨q, rfl⟩ : ∃ q, o = 170 + q := ⟨o - 170, by omega⟩
    rw [fl_j (by omega)]
    show I2 4 q = _
    rw [v4 q]
    by_cases h : 4 * j ≤ q ∧ q < 4 * (w - 1)
    · rw [if_pos h, if_pos (by omega), hx.jo (by omega)]; rfl
    · rw [if_neg h, if_neg (by omega), hx.jo (by omega)]
  · have h5 := lo_nj o ho h4 hr
    rw [if_neg (by omega), fl_off (I := I) (z _ (by omega) (by omega)), hx.1 o ho]
/-- all jobs for a rosette out, from the last one down -/
def cxs (p : Int32) : Nat → (Nat → Int32) → Nat → (Nat → Int32) × Nat
  | 0, f, w => (f, w)
  | j + 1, f, w => if f (170 + (4 * j + 2)) = p then cxs p j (tk f j w) (w - 1) else cxs p j f w
theorem gd_cxs : ∀ (j : Nat) (f : Nat → Int32) (w : Nat), gd f m w k → j ≤ w → gd (cxs p j f w).1 m (cxs p j f w).2 k := by
  intro j
  induction j with
  | zero => intro f w hg _; exact hg
  | succ j ih =>
    intro f w hg hj
    unfold cxs
    split
    · exact ih _ _ (gd_tk hg (by omega)) (by omega)
    · exact ih _ _ hg (by omega)
theorem s6_dloop {Q : gx_M → Prop} : ∀ (j : Nat) (f : Nat → Int32) (w : Nat) (I : gx_M) (v : Int32), gd f m w k → vx I f hs n sn ha tx tl re → j ≤ w → v = nI j - 1 → (∀ I' : gx_M, vx I' (cxs p j f w).1 hs n sn ha tx tl re → (∀ a, a ≠ 3 → a ≠ 4 → I' a = I a) → Q I') → wl_X6_dropJobsFor_10 Q (j + 1) 1 p v I := by
  intro j
  induction j with
  | zero =>
    intro f w I v hg hx hj hv hQ
    rw [wl_X6_dropJobsFor_10]
    exact ⟨fun _ => hQ I hx (fun _ _ _ => rfl), fun h => absurd (by rw [hv]; decide) h⟩
  | succ j ih =>
    intro f w I v hg hx hj hv hQ
    have hv : v = nI j := by rw [hv]; exact nI_pred j
    have hw20 := hg.2.2.2.1
    rw [wl_X6_dropJobsFor_10]
    refine ⟨fun h => absurd h (n_neg hv), fun _ => s5_jobs hx hg hv (by omega) (q := 2) rfl (by decide) ⟨fun c => ?_, fun c x ex => ?_⟩⟩
    · refine s5_dropj hx hg.2.2.1 hg.2.2.2.1 hv (by omega) fun I1 h1 z1 x ex => ?_
      refine ih _ _ I1 x (gd_tk hg (by omega)) h1 (by omega) (by rw [ex, hv, Int32.sub_eq_add_neg]) fun I2 h2 z2 => ?_
      refine hQ I2 ?_ fun a g3 g4 => by rw [z2 a g3 g4, z1 a g3 g4]
      unfold cxs
      rw [if_pos c]
      exact h2
    · refine ih _ _ I x hg hx (by omega) (by rw [ex, hv, Int32.sub_eq_add_neg]) fun I2 h2 z2 => ?_
      refine hQ I2 ?_ z2
      unfold cxs
      rw [if_neg c]
      exact h2
end CX
