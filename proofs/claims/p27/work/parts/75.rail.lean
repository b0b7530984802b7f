/-! the rail -/
theorem nbs_keep {f : Nat → Int32} {p u : Int32} {i : Nat} (h : wyn f p u i ≤ 0 ∨ (nbs f p u i).2 ≤ wyn f p u i) : nbs f p u (i + 1) = nbs f p u i := by
  conv => lhs; unfold nbs
  by_cases c : wyn f p u i ≤ 0
  · rw [if_pos c]
  · rw [if_neg c, if_pos (h.resolve_left c)]
theorem nbs_take {f : Nat → Int32} {p u : Int32} {i : Nat} (c : ¬ wyn f p u i ≤ 0) (c2 : ¬ (nbs f p u i).2 ≤ wyn f p u i) : nbs f p u (i + 1) = (nI i, wyn f p u i) := by
  conv => lhs; unfold nbs
  rw [if_neg c, if_neg c2]
section RA
variable {I : gx_M} {f : Nat → Int32} {hs : Nat → Nat → Int32} {n : Nat} {sn : Nat → Int32} {ha : Nat} {tx : Nat → Int32} {tl : Nat} {re : Int32} {m w k r i j a : Nat} {p p0 p1 p2 p3 : Int32} {Q : Int32 → gx_M → Prop}
theorem xL_rail (hx : vx I f hs n sn ha tx tl re) (hg : gd f m w k) (hp : p = nI a) (ha1 : a ≤ 1000) (h : ∀ I2 : gx_M, vx I2 f hs n sn ha tx tl re → Q 1 I2) : wp_L_rail 0 p I Q := by
  have hm8 := hg.2.1
  have hro := hg.2.2.2.2.2.2.2.2.1
  have z0 : (0 : Int32).toInt = 0 := rfl
  have one0 : ¬ (1 : Int32) = 0 := by decide
  have w1 : ∀ i, wyn f p 1 i = f (10 + 20 * i + 0) - p := fun i => by unfold wyn; rw [if_neg one0]
  have w0 : ∀ i, wyn f p 0 i = p - f (10 + 20 * i + 0) := fun i => by unfold wyn; rw [if_pos rfl]
  have t1 : ∀ i, i < m → ∃ b : Nat, b ≤ 1000 ∧ f (10 + 20 * i + 0) = nI b ∧ (wyn f p 1 i).toInt = (b : Int) - a ∧ (wyn f p 0 i).toInt = (a : Int) - b := by
    intro i hi
    obtain ⟨b, hb, hb2⟩ := (hro i hi).1
    exact ⟨b, hb2, hb, by rw [w1, hb, hp]; exact pk_sub_toInt (by omega) (by omega), by rw [w0, hb, hp]; exact pk_sub_toInt (by omega) (by omega)⟩
  have key : ∀ (dd i : Nat), i + dd = m → ∀ (I : gx_M) (v2 v3 v4 : Int32), v2 = (nbs f p 1 i).1 → v3 = (nbs f p 0 i).1 → v4 = nI i → vx I f hs n sn ha tx tl re → wl_L_rail_9 Q (dd + 1) 0 p v2 v3 v4 I := by
    intro dd
    induction dd with
    | zero =>
      intro i hi I v2 v3 v4 e2 e3 e4 hx
      have hi : i = m := by omega
      subst hi
      rw [wl_L_rail_9]
      refine x7_count hx (q := 0) rfl (by decide) ⟨fun _ => ?_, fun c => absurd ((n_le (x := f 0) hg.1 e4).mpr (Nat.le_refl _)) c⟩
      refine x7_neigh hx hg hp ha1 ⟨fun _ => ?_, fun c => absurd e2.symm c⟩
      refine x7_neigh hx hg hp ha1 ⟨fun _ => ?_, fun c => absurd e3.symm c⟩
      exact x7_neighB ⟨fun _ => h I hx, fun c => absurd rfl c⟩
    | succ dd ih =>
      intro i hi I v2 v3 v4 e2 e3 e4 hx
      have him : i < m := by omega
      obtain ⟨b, hb1, hb2, y1, y0⟩ := t1 i him
      -- the lower side, with the upper side settled
      have low : ∀ (I : gx_M) (v5 u0 : Int32), vx I f hs n sn ha tx tl re → v5 = wyn f p 1 i → u0 = (nbs f p 1 (i + 1)).1 → wj_L_rail_58 Q (wl_L_rail_9 Q (dd + 1)) 0 p v3 v4 v5 u0 I := by
        intro I v5 u0 hx e5 eu
        have t5 : v5.toInt = (b : Int) - a := by rw [e5, y1]
        have keep : nbs f p 0 (i + 1) = nbs f p 0 i → ∀ I : gx_M, vx I f hs n sn ha tx tl re → wj_L_rail_86 Q (wl_L_rail_9 Q (dd + 1)) 0 p u0 v3 v4 I := fun e I hx x ex => ih (i + 1) (by omega) I u0 v3 x eu (by rw [e]; exact e3) (by rw [ex]; exact n_add e4 rfl) hx
        have take : nbs f p 0 (i + 1) = (nI i, wyn f p 0 i) → ∀ I : gx_M, vx I f hs n sn ha tx tl re → wj_L_rail_81 Q (wl_L_rail_9 Q (dd + 1)) 0 p u0 v4 I := fun e I hx x ex => ih (i + 1) (by omega) I u0 v4 x eu (by rw [e]; exact e4) (by rw [ex]; exact n_add e4 rfl) hx
        unfold wj_L_rail_58
        refine ⟨fun c => keep (nbs_keep (Or.inl ?_)) I hx, fun c => ?_⟩
        · have := Int32.le_iff_toInt_le.mp c
          refine Int32.le_iff_toInt_le.mpr ?_
          rw [y0]; omega
        · have c : ¬ (0 : Int32).toInt ≤ v5.toInt := fun q => c (Int32.le_iff_toInt_le.mpr q)
          have hpos : ¬ wyn f p 0 i ≤ 0 := fun q => by
            have := Int32.le_iff_toInt_le.mp q
            rw [y0] at this; omega
          rcases nbs_inv (f := f) (p := p) (u := 0) i with hn | ⟨b2, hb2', hn, _⟩
          · refine ⟨fun _ => take (nbs_take hpos ?_) I hx, fun c2 => absurd ?_ c2⟩
            · rw [hn]; exact wyn_lt hp ha1 hb2 hb1
            · rw [e3, hn]; decide
          · obtain ⟨b3, hb31, hb32, _, y03⟩ := t1 b2 (by omega)
            have e3b : v3 = nI b2 := by rw [e3, hn]
            refine ⟨fun c2 => absurd c2 (n_neg e3b), fun _ => x7_rosette hx hg (r := b2) (by omega) e3b (q := 0) rfl (by decide) fun I2 hx2 => ?_⟩
            have t6 : (rov f w b2 0 - p).toInt = (b3 : Int) - a := by
              show (f (10 + 20 * b2 + 0) - p).toInt = _
              rw [hb32, hp]; exact pk_sub_toInt (by omega) (by omega)
            refine ⟨fun c2 => keep (nbs_keep (Or.inr ?_)) I2 hx2, fun c2 => take (nbs_take hpos ?_) I2 hx2⟩
            · have := Int32.le_iff_toInt_le.mp c2
              rw [hn]
              refine Int32.le_iff_toInt_le.mpr ?_
              show (wyn f p 0 b2).toInt ≤ _
              rw [y03, y0]; omega
            · have : ¬ v5.toInt ≤ (rov f w b2 0 - p).toInt := fun q => c2 (Int32.le_iff_toInt_le.mpr q)
              rw [hn]
              intro q
              have q2 : (wyn f p 0 b2).toInt ≤ (wyn f p 0 i).toInt := Int32.le_iff_toInt_le.mp q
              rw [y03, y0] at q2; omega
      rw [wl_L_rail_9]
      refine x7_count hx (q := 0) rfl (by decide) ⟨fun c => absurd ((n_le (x := f 0) hg.1 e4).mp c) (by omega), fun _ => ?_⟩
      refine x7_rosette hx hg him e4 (q := 0) rfl (by decide) fun I1 hx1 x1 ex1 => ?_
      have ex1 : x1 = wyn f p 1 i := by rw [ex1, w1]; rfl
      have kp : nbs f p 1 (i + 1) = nbs f p 1 i → ∀ I : gx_M, vx I f hs n sn ha tx tl re → wj_L_rail_57 Q (wl_L_rail_9 Q (dd + 1)) 0 p v2 v3 v4 x1 I := fun e I hx => low I x1 v2 hx ex1 (by rw [e]; exact e2)
      have tk1 : nbs f p 1 (i + 1) = (nI i, wyn f p 1 i) → ∀ I : gx_M, vx I f hs n sn ha tx tl re → wj_L_rail_52 Q (wl_L_rail_9 Q (dd + 1)) 0 p v3 v4 x1 I := fun e I hx => low I x1 v4 hx ex1 (by rw [e]; exact e4)
      refine ⟨fun c => kp (nbs_keep (Or.inl (by rw [← ex1]; exact c))) I1 hx1, fun c => ?_⟩
      have hpos : ¬ wyn f p 1 i ≤ 0 := by rw [← ex1]; exact c
      rcases nbs_inv (f := f) (p := p) (u := 1) i with hn | ⟨b2, hb2', hn, _⟩
      · refine ⟨fun _ => tk1 (nbs_take hpos ?_) I1 hx1, fun c2 => absurd ?_ c2⟩
        · rw [hn]; exact wyn_lt hp ha1 hb2 hb1
        · rw [e2, hn]; decide
      · have e2b : v2 = nI b2 := by rw [e2, hn]
        have e6 : rov f w b2 0 - p = wyn f p 1 b2 := by rw [w1]; rfl
        refine ⟨fun c2 => absurd c2 (n_neg e2b), fun _ => x7_rosette hx1 hg (r := b2) (by omega) e2b (q := 0) rfl (by decide) fun I2 hx2 => ?_⟩
        rw [e6, ex1]
        rw [ex1] at kp tk1
        exact ⟨fun c2 => kp (nbs_keep (Or.inr (by rw [hn]; exact c2))) I2 hx2, fun c2 => tk1 (nbs_take hpos (by rw [hn]; exact c2)) I2 hx2⟩
  unfold wp_L_rail
  exact ⟨m + 1, key m 0 (by omega) I _ _ 0 rfl rfl rfl hx⟩
end RA
