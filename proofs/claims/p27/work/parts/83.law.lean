/-! the law: its loop, its start -/
section LL
variable {I : gx_M} {f F : Nat → Int32} {hs : Nat → Nat → Int32} {n : Nat} {sn : Nat → Int32} {ha : Nat} {tx : Nat → Int32} {tl : Nat} {re : Int32} {m w k r i j b rq dn bk m' w' k' rq' dn' bk' : Nat} {v2 v3 v4 v5 v7 v8 v9 v12 v13 v14 : Int32} {v10 : Int64} {c : Int32 → Int32} {K : Nat → Int32 → Int32 → gx_M → Prop}
theorem lw_488 (hx : vx I f hs n sn ha tx tl re) (hi : gi f m w k rq dn bk) (h2 : v2 = nI bk) (h12 : v12 = 1) (hK : ∀ (I2 : gx_M) (x : Int32), vx I2 f hs n sn ha tx tl re → x = v3 + 1 → K 0 v2 x I2) : wj_L_law_488 c K 0 v2 v3 v4 v12 I := by
  unfold wj_L_law_488
  refine ⟨fun q => absurd (h12.symm.trans q) (by decide), fun _ => xL_low (N := 1001) rfl (by decide) (by decide) fun a ha1 => ?_⟩
  exact xL_sound hx hi h2 (a := a) rfl (by omega) fun I2 hx2 => ⟨fun q => absurd q (by decide), fun _ x ex => hK I2 x hx2 ex⟩
theorem lw_a (hx : vx I f hs n sn ha tx tl re) (hi : gi f m w k rq dn bk) (h2 : v2 = nI bk) (h8 : v8 = nI n) (h10 : v10 = dig f m w k) (h12 : v12 = 1) (hK : ∀ (I2 : gx_M) (x : Int32), vx I2 f hs n sn ha tx tl re → x = v3 + 1 → K 0 v2 x I2) : wj_L_law_408 c K 0 v2 v3 v4 v5 v8 v9 v10 v12 I := by
  have fin : ∀ I2 : gx_M, vx I2 f hs n sn ha tx tl re → wj_L_law_488 c K 0 v2 v3 v4 v12 I2 := fun I2 hx2 => lw_488 hx2 hi h2 h12 hK
  unfold wj_L_law_408
  refine ⟨fun _ => fin I hx, fun _ => ⟨fun _ => ?_, fun _ => fin I hx⟩⟩
  refine x7_count hx (q := 10) rfl (by decide) ⟨fun _ => ⟨fun _ => ?_, fun _ => fin I hx⟩, fun q => absurd h8.symm q⟩
  refine xL_digest hx hi.1 fun I2 hx2 => ⟨fun _ => fin I2 hx2, fun q => absurd ?_ q⟩
  rw [lg_cmp_eq, h10]
theorem lw_b (hx : vx I F (psh hs n f) (psn n) sn ha tx tl re) (hn : n ≤ 5) (hF : gi F m' w' k' rq' dn' bk') (hi : gi f m w k rq dn bk) (h2 : v2 = nI bk') (h9 : v9 = nI bk) (h8 : v8 = nI n) (h10 : v10 = dig f m w k) (h12 : v12 = 1)
    (hK1 : ∀ (I2 : gx_M) (x : Int32), vx I2 F (psh hs n f) (psn n) sn ha tx tl re → x = v3 + 1 → K 0 v2 x I2) (hK2 : ∀ (I2 : gx_M) (x : Int32), vx I2 f (psh hs n f) (psn n - 1) sn ha tx tl re → x = v3 + 1 → K 0 v9 x I2) : wj_L_law_408 c K 0 v2 v3 v4 v5 v8 v9 v10 v12 I := by
  have fin : ∀ I2 : gx_M, vx I2 F (psh hs n f) (psn n) sn ha tx tl re → wj_L_law_488 c K 0 v2 v3 v4 v12 I2 := fun I2 hx2 => lw_488 hx2 hF h2 h12 hK1
  have hp0 : 0 < psn n := by unfold psn; split <;> omega
  have hback : psh hs n f (psn n - 1) = f := by
    unfold psh psn
    by_cases h5 : n < 5
    · rw [if_pos h5, if_pos h5, show n + 1 - 1 = n by omega]
      show (if n = n then f else hs n) = f
      rw [if_pos rfl]
    · rw [if_neg h5, if_neg h5]
      rfl
  have und : ∀ I2 : gx_M, vx I2 F (psh hs n f) (psn n) sn ha tx tl re → wj_L_law_449 c K 0 v3 v4 v8 v9 v10 I2 := by
    intro I2 hx2
    unfold wj_L_law_449
    refine x7_undo hx2 hp0 fun I3 hx3 => ?_
    rw [hback] at hx3
    have h465 : ∀ u : Int32, nI (psn n - 1) = u → wj_L_law_465 c K 0 v3 v4 v9 v10 u (nI (psn n - 1)) I3 := by
      intro u hu
      unfold wj_L_law_465
      refine ⟨fun _ => xL_digest hx3 hi.1 fun I4 hx4 => ⟨fun _ => ?_, fun q => absurd ?_ q⟩, fun q => absurd hu q⟩
      · unfold wj_L_law_483
        exact lw_488 hx4 hi h9 rfl hK2
      · rw [lg_cmp_eq, h10]
    refine ⟨fun q => h465 4 ?_, fun q => h465 v8 ?_⟩
    · have : n = 5 := (n_eq (b := 5) h8 rfl).mp q
      subst this; rfl
    · have : n ≠ 5 := fun e => q (by rw [h8, e]; rfl)
      rw [h8]
      unfold psn
      rw [if_pos (by omega), show n + 1 - 1 = n by omega]
  unfold wj_L_law_408
  refine ⟨fun q => absurd (h12.symm.trans q) (by decide), fun _ => ⟨fun _ => ?_, fun _ => fin I hx⟩⟩
  refine x7_count hx (q := 10) rfl (by decide) ⟨fun q => ⟨fun _ => ?_, fun q5 => ?_⟩, fun _ => und I hx⟩
  · exact xL_digest hx hF.1 fun I2 hx2 => ⟨fun _ => fin I2 hx2, fun _ => und I2 hx2⟩
  · exact fin I hx
theorem gi_adr {p0 p1 p2 p3 : Int32} (hi : gi f m w k rq dn bk) (hm : m < 8) (hg : gd (adr f m p0 p1 p2 p3) (m + 1) w k) : gi (adr f m p0 p1 p2 p3) (m + 1) w k rq dn bk := by
  obtain ⟨a0, a1, a2, a3, a4, a5, a6⟩ := hi
  exact ⟨hg, by rw [adr_out (by decide) (by omega)]; exact a1, a2, by rw [adr_out (by decide) (by omega)]; exact a3, a4, a5, gn_fr a6 (fun o h1 h2 => adr_out (by omega) (by omega)) a0.2.2.2.1⟩
theorem lw_157 (hx : vx I f hs n sn ha tx tl re) (hi : gi f m w k rq dn bk) (h2 : v2 = nI bk) (h7 : v7 = nI m) (h8 : v8 = nI n) (h9 : v9 = nI bk) (h10 : v10 = dig f m w k)
    (hK : ∀ (I2 : gx_M) (f : Nat → Int32) (hs : Nat → Nat → Int32) (n : Nat) (re : Int32) (m w k dn bk : Nat) (v2 x : Int32), vx I2 f hs n sn ha tx tl re → gi f m w k rq dn bk → v2 = nI bk → x = v3 + 1 → K 0 v2 x I2) : wj_L_law_157 c K 0 v2 v3 v4 v5 v7 v8 v9 v10 I := by
  have hg := hi.1
  have hm8 := hg.2.1
  have hn5 : n ≤ 5 := hx.2.2.1
  have main : ∀ (a : Nat) (u0 u1 : Int32), a < 1001 → (u0 = 120 ∨ u0 = 350) → (u1 = 0 ∨ u1 = 1) → wj_L_law_194 c K 0 v2 v3 v4 v5 v7 v8 v9 v10 u0 u1 (nI a) 0 I := by
    intro a u0 u1 ha1 h0 h1
    unfold wj_L_law_194
    refine xL_low (N := 61) rfl (by decide) (by decide) fun d hd => ?_
    have e3 : (180 : Int32) + nI d = nI (180 + d) := n_add (a := 180) rfl rfl
    have ref : ∀ (u : Int32) (I2 : gx_M), 0 < m → vx I2 f hs n sn ha tx tl u → wj_L_law_238 c K 0 v2 v3 v4 v5 v7 v8 v9 v10 u u I2 := by
      intro u I2 hm hx2
      unfold wj_L_law_238
      refine ⟨fun _ => ⟨fun q => ?_, fun _ => ?_⟩, fun q => absurd rfl q⟩
      · have := (n_le (b := 0) h7 rfl).mp q
        omega
      · unfold wj_L_law_280
        exact lw_a hx2 hi h2 h8 h10 rfl fun I3 x hx3 ex => hK I3 f hs n u m w k dn bk v2 x hx3 hi h2 ex
    refine x7_add hx hg (a := a) (c := 180 + d) rfl (by omega) h1 h0 e3 (by omega) (by omega) (fun hm I2 hx2 => ⟨fun _ => ?_, fun q => absurd rfl q⟩) (fun hm hm0 I2 hx2 => ⟨fun _ => ?_, fun q => absurd rfl q⟩) (fun hm I2 hx2 hg2 => ⟨fun q => ?_, fun _ => ?_⟩)
    · refine x7_count hx2 (q := 9) rfl (by decide) ⟨fun _ => ref 1 I2 (by omega) hx2, fun q => absurd (by rw [h7, hm]; rfl) q⟩
    · refine x7_count hx2 (q := 9) rfl (by decide) ⟨fun q => ?_, fun _ => ref 6 I2 hm0 hx2⟩
      have := (n_eq (b := 8) h7 rfl).mp q
      omega
    · exact absurd (by rw [q]; decide : nI m < 0) (n_neg rfl (by omega))
    · refine ⟨fun _ => ?_, fun q => absurd h7.symm q⟩
      refine x7_gauge hx2 hg2 (r := m) (by omega) h7 (i := 0) rfl (by decide) (q := 5) rfl (by decide) fun I3 hx3 => ⟨fun _ => ?_, fun q => absurd ?_ q⟩
      · unfold wj_L_law_280
        have hF := gi_adr hi hm hg2
        exact lw_b hx3 hn5 hF hi h2 h9 h8 h10 rfl (fun I4 x hx4 ex => hK I4 _ _ _ re _ _ _ _ _ v2 x hx4 hF h2 ex) (fun I4 x hx4 ex => hK I4 _ _ _ re _ _ _ _ _ v9 x hx4 hi h9 ex)
      · show adr f m (nI a) u1 u0 ((180 : Int32) + nI d) (10 + 20 * m + 11) = 1000
        rw [adr_in (by decide)]; rfl
  unfold wj_L_law_157
  refine xL_low (N := 1001) rfl (by decide) (by decide) fun a ha1 => ⟨fun _ => ?_, fun _ => ?_⟩
  · unfold wj_L_law_179
    exact ⟨fun _ => main a 120 1 ha1 (Or.inl rfl) (Or.inr rfl), fun _ => main a 350 1 ha1 (Or.inr rfl) (Or.inr rfl)⟩
  · unfold wj_L_law_179
    exact ⟨fun _ => main a 120 0 ha1 (Or.inl rfl) (Or.inl rfl), fun _ => main a 350 0 ha1 (Or.inr rfl) (Or.inl rfl)⟩
theorem lw_loop : ∀ (dd e : Nat), e + dd = 24 → ∀ (I : gx_M) (f : Nat → Int32) (hs : Nat → Nat → Int32) (n : Nat) (re : Int32) (m w k rq dn bk : Nat) (v2 v3 : Int32), vx I f hs n sn ha tx tl re → gi f m w k rq dn bk → rq ≤ e → v2 = nI bk → v3 = nI e → wl_L_law_82 c (dd + 1) 0 v2 v3 I := by
  intro dd
  induction dd with
  | zero =>
    intro e he I f hs n re m w k rq dn bk v2 v3 hx hi hrq h2 h3
    rw [wl_L_law_82]
    exact ⟨fun _ => trivial, fun q => absurd ((n_le (a := 24) rfl h3).mpr (by omega)) q⟩
  | succ dd ih =>
    intro e he I f hs n re m w k rq dn bk v2 v3 hx hi hrq h2 h3
    have hg := hi.1
    have hm8 := hg.2.1
    have hn5 : n ≤ 5 := hx.2.2.1
    have hK : ∀ (I2 : gx_M) (f : Nat → Int32) (hs : Nat → Nat → Int32) (n : Nat) (re : Int32) (m w k rq dn bk : Nat) (v2 x : Int32), vx I2 f hs n sn ha tx tl re → gi f m w k rq dn bk → rq ≤ e + 1 → v2 = nI bk → x = v3 + 1 → wl_L_law_82 c (dd + 1) 0 v2 x I2 :=
      fun I2 f hs n re m w k rq dn bk v2 x hx2 hi2 hr h2 ex => ih (e + 1) (by omega) I2 f hs n re m w k rq dn bk v2 x hx2 hi2 hr h2 (by rw [ex]; exact n_add h3 rfl)
    have e2 : (2 : Int32) * v3 = nI (2 * e) := n_mul (a := 2) rfl h3
    rw [wl_L_law_82]
    refine ⟨fun q => absurd ((n_le (a := 24) rfl h3).mp q) (by omega), fun _ => ⟨n_neg e2, fun r1 _ => ⟨n_neg (n_add (b := 1) e2 rfl), fun r2 _ => ?_⟩⟩⟩
    refine xL_low (N := 14) rfl (by decide) (by decide) fun s hs14 => x7_count hx (q := 0) rfl (by decide) (x7_count hx (q := 10) rfl (by decide) (xL_digest hx hg fun I4 hx4 => ?_))
    -- what is left behind a step
    have same : ∀ (I2 : gx_M) (re' v2' v4 v5 : Int32), vx I2 f hs n sn ha tx tl re' → v2' = nI bk → wj_L_law_408 c (wl_L_law_82 c (dd + 1)) 0 v2' v3 v4 v5 (nI n) v2 (dig f m w k) 1 I2 := fun I2 re' v2' v4 v5 hx2 h2' => lw_a hx2 hi h2' rfl rfl rfl fun I3 x hx3 ex => hK I3 f hs n re' m w k rq dn bk v2' x hx3 hi (by omega) h2' ex
    have other : ∀ (I2 : gx_M) (F : Nat → Int32) (re' v2' v4 v5 : Int32) (m' w' k' rq' dn' bk' : Nat), vx I2 F (psh hs n f) (psn n) sn ha tx tl re' → gi F m' w' k' rq' dn' bk' → rq' ≤ e + 1 → v2' = nI bk' → wj_L_law_408 c (wl_L_law_82 c (dd + 1)) 0 v2' v3 v4 v5 (nI n) v2 (dig f m w k) 1 I2 :=
      fun I2 F re' v2' v4 v5 m' w' k' rq' dn' bk' hx2 hF hr h2' => lw_b hx2 hn5 hF hi h2' h2 rfl rfl rfl (fun I3 x hx3 ex => hK I3 F _ _ re' m' w' k' rq' dn' bk' v2' x hx3 hF hr h2' ex) (fun I3 x hx3 ex => hK I3 f _ _ re' m w k rq dn bk v2 x hx3 hi (by omega) h2 ex)
    have add : wj_L_law_157 c (wl_L_law_82 c (dd + 1)) 0 v2 v3 r1 r2 (f 0) (nI n) v2 (dig f m w k) I4 := lw_157 hx4 hi h2 hg.1 rfl h2 rfl fun I2 f hs n re m w k dn bk v2 x hx2 hi2 h2 ex => hK I2 f hs n re m w k rq dn bk v2 x hx2 hi2 (by omega) h2 ex
    refine ⟨fun _ => add, fun q0 => ⟨fun _ => add, fun qs => ?_⟩⟩
    have hm : 0 < m := Nat.pos_of_ne_zero fun z => q0 (by show f 0 = 0; rw [hg.1, z]; rfl)
    have hs0 : s ≠ 0 := fun z => qs (by rw [z]; rfl)
    refine ⟨fun q6 => ⟨fun q11 => ⟨fun _ => ?_, fun _ => ?_⟩, fun q11 => ?_⟩, fun q6 => ?_⟩
    · -- jobs are taken back
      refine xL_low (p1 := f 0) hg.1 hm (by omega) fun r hr => x7_rosette hx4 hg hr rfl (q := 11) rfl (by decide) fun I5 hx5 => ?_
      have e11 : rov f w r 11 = nI (cw f (nI r) w) := rfl
      rw [e11]
      have hcw := cw_le f (nI r) w
      have hw20 := hg.2.2.2.1
      refine x7_cancel hx5 hg hr rfl (fun z => ⟨fun _ => ?_, fun q => absurd (by rw [z]; rfl) q⟩) (fun z I6 hx6 => ⟨fun q => absurd ((n_eq (x := nI (cw f (nI r) w)) (b := 0) rfl rfl).mp q) z, fun _ => ?_⟩)
      · unfold wj_L_law_371
        refine ⟨fun _ => x7_rosette hx5 hg hr rfl (q := 11) rfl (by decide) fun I6 hx6 => ⟨fun _ => ?_, fun q => absurd (by show nI (cw f (nI r) w) = 0; rw [z]; rfl) q⟩, fun q => absurd rfl q⟩
        unfold wj_L_law_390
        intro x ex
        exact same I6 re x r1 r2 hx6 (by rw [ex, h2, z]; exact n_add rfl rfl)
      · obtain ⟨hF, hz⟩ := gi_cxs (p := nI r) hi
        unfold wj_L_law_371
        refine ⟨fun _ => x7_rosette hx6 hF.1 hr rfl (q := 11) rfl (by decide) fun I7 hx7 => ⟨fun _ => ?_, fun q => absurd (by show nI (cw (cxs (nI r) w f w).1 (nI r) (cxs (nI r) w f w).2) = 0; rw [hz]; rfl) q⟩, fun q => absurd rfl q⟩
        unfold wj_L_law_390
        intro x ex
        exact other I7 _ re x r1 r2 _ _ _ _ _ _ hx7 hF (by omega) (by rw [ex, h2]; exact n_add rfl rfl)
    · exact xL_works hx4 hi (fun _ I5 hx5 => same I5 re v2 r1 r2 hx5 h2) fun F w' k' dn' re' I5 hF hx5 => other I5 F re' v2 r1 r2 _ _ _ _ _ _ hx5 hF (by omega) h2
    · exact xL_asks hx4 hi hm (by omega) (fun re' I5 hx5 => same I5 re' v2 r1 r2 hx5 h2) fun F I5 hF hx5 => other I5 F re v2 r1 r2 _ _ _ _ _ _ hx5 hF (by omega) h2
    · have hs6 : s < 6 := by
        have : ¬ 6 ≤ s := fun z => q6 ((n_le (a := 6) (x := 6) (y := nI s) rfl rfl).mpr z)
        omega
      exact xL_sets hx4 hi hm (s := s) rfl (by omega) (by omega) (fun I5 hx5 => same I5 re v2 r1 r2 hx5 h2) fun F I5 hF hx5 => other I5 F re v2 r1 r2 _ _ _ _ _ _ hx5 hF (by omega) h2
end LL
theorem vx_0 : vx gx_I0 (upd (fun _ => 0) 3 100) (fun _ _ => 0) 0 (fun _ => 0) 0 (fun _ => 0) 0 0 := by
  refine ⟨fl_I0, by decide +kernel, by decide, fun i hi => ⟨i, hi, ?_⟩, ?_, fun i hi => absurd hi (by omega), by decide +kernel, by decide, fun h => absurd h (by decide), by decide +kernel, by decide +kernel, by decide, fun i hi => absurd hi (by omega)⟩
  · unfold gx_I0; rw [show kX 78 = 24 by decide +kernel]; rfl
  · exact (show ∀ i j, i < 5 → j < 5 → gx_I0 78 i = gx_I0 78 j → i = j from fun i j hi hj h => by
      have e : ∀ i, gx_I0 78 i = nI i := fun i => by unfold gx_I0; rw [show kX 78 = 24 by decide +kernel]; rfl
      rw [e, e] at h
      exact (nI_eq (by omega) (by omega)).mp h)
theorem gi_0 : gi (upd (fun _ => 0) 3 100) 0 0 0 0 0 0 := by
  refine ⟨⟨rfl, by decide, rfl, by decide, rfl, by decide, ⟨100, rfl, by decide, by decide⟩, ⟨0, rfl, by decide⟩, fun r hr => absurd hr (by omega), fun j hj => absurd hj (by omega)⟩, rfl, by decide, rfl, rfl, rfl, fun a ha => absurd ha (by omega), fun a b _ hb => absurd hb (by omega)⟩
theorem lx_true (c : Int32 → Int32) : wp_L_law c gx_I0 := by
  have hx := vx_0
  have hg := gi_0.1
  unfold wp_L_law
  refine x7_undoN hx ⟨fun _ => ?_, fun q => absurd rfl q⟩
  refine x7_restoreN hx ⟨fun _ => ?_, fun q => absurd rfl q⟩
  refine x7_nextN hx hg ⟨fun _ => ?_, fun q => absurd rfl q⟩
  refine x7_cancelU hx hg ⟨fun _ => ?_, fun q => absurd rfl q⟩
  refine x7_readJobs0 hx fun I5 hx5 => ⟨fun _ => ?_, fun q => absurd rfl q⟩
  refine x7_count hx5 (q := 7) rfl (by decide) ⟨fun _ => ?_, fun q => absurd rfl q⟩
  refine x7_neigh hx5 hg (a := 0) rfl (by decide) ⟨fun _ => ⟨24 + 1, ?_⟩, fun q => absurd rfl q⟩
  exact lw_loop 24 0 rfl I5 _ _ 0 0 0 0 0 0 0 0 0 0 hx5 gi_0 (Nat.le_refl _) rfl rfl
