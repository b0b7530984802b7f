/-! small methods; copies of states -/
theorem s7_w {p a b : Int32} {I : gx_M} {Q : Int32 → gx_M → Prop} (h : a ≤ p → p ≤ b → Q 1 I) (h' : ¬ (a ≤ p ∧ p ≤ b) → Q 0 I) : wp_X7_isWithin p a b I Q := by
  unfold wp_X7_isWithin
  refine ⟨fun c => h' fun q => absurd c (i_nlt.mpr q.1), fun c => ⟨fun c2 => h' fun q => absurd c2 (i_nlt.mpr q.2), fun c2 => h (i_nlt.mp c) (i_nlt.mp c2)⟩⟩
theorem s7_a {p g : Int32} {I : gx_M} {Q : Int32 → gx_M → Prop} (h : -g ≤ p → p ≤ g → Q 1 I) (h' : ¬ (-g ≤ p ∧ p ≤ g) → Q 0 I) : wp_X7_isAround0 p g I Q := s7_w h h'
theorem nX_le (a : Nat) : nX a ≤ 80 := by
  have hS : ∀ c, nS c ≤ 80 := fun c => by
    unfold nS
    repeat' split
    all_goals omega
  unfold nX
  repeat' split
  all_goals first | exact hS _ | omega
theorem nX_r {a : Nat} (h : kX a = 4) : nX (a + 1) = 3 ∧ nX (a + 2) = 3 ∧ nX (a + 3) = 3 := (show ∀ a, a < 282 → kX a = 4 → nX (a + 1) = 3 ∧ nX (a + 2) = 3 ∧ nX (a + 3) = 3 by decide +kernel) a (kX_lt h (by decide)) h
theorem kX_s {a : Nat} (h : kX a = 6) : ∀ r, r < 8 → kX (a + 6 + 4 * r) = 4 := (show ∀ a, a < 282 → kX a = 6 → ∀ r, r < 8 → kX (a + 6 + 4 * r) = 4 by decide +kernel) a (kX_lt h (by decide)) h
theorem nX_s {a : Nat} (h : kX a = 6) : nX (a + 1) = 8 ∧ nX (a + 2 + 1) = 80 ∧ nX (a + 4 + 1) = 48 := (show ∀ a, a < 282 → kX a = 6 → nX (a + 1) = 8 ∧ nX (a + 2 + 1) = 80 ∧ nX (a + 4 + 1) = 48 by decide +kernel) a (kX_lt h (by decide)) h
theorem s5_at {a u j q : Nat} {p c : Int32} {I : gx_M} {Q : Int32 → gx_M → Prop} (hu : I a 1 = nI u) (hn : 4 * u ≤ nX (a + 1)) (hp : p = nI j) (hj : j < u) (hc : c = nI q) (hq : q < 4) (h : Q (I (a + 1) (4 * j + q)) I) : wp_X5_at a p c I Q := by
  have hN := nX_le (a + 1)
  unfold wp_X5_at
  refine ⟨fun h1 => absurd h1 (n_neg hp), fun _ => ⟨fun h1 => ?_, fun _ => ?_⟩⟩
  · rw [n_le hu hp] at h1
    omega
  · refine s7_w (fun _ _ => ⟨fun h1 => absurd h1 (by decide), fun _ => ?_⟩) (fun h1 => absurd ⟨(n_le (a := 0) rfl hc).mpr (by omega), (n_le (b := 3) hc rfl).mpr (by omega)⟩ h1)
    have e : p * 4 + c = nI (4 * j + q) := by rw [hp, hc, show (4 : Int32) = nI 4 from rfl, pk_mul, nI_add, Nat.mul_comm]
    exact ⟨ix_of e (by omega) (by omega), by rw [cl_of e]; exact h⟩
/-- one rosette over another -/
theorem s4_loop {Q : gx_M → Prop} {b b' : Nat} (hb : kX b = 4) (hb' : kX b' = 4) (hne : b + 4 ≤ b' ∨ b' + 4 ≤ b) {I0 : gx_M} (hQ : ∀ I' : gx_M, (∀ a, (a ≤ b ∨ b + 4 ≤ a) → I' a = I0 a) → (∀ w, w < 3 → ∀ k, k < 3 → I' (b + 1 + w) k = I0 (b' + 1 + w) k) → Q I') :
    ∀ (d i : Nat), i + d = 3 → ∀ (I : gx_M) (v : Int32), v = nI i → (∀ a, (a ≤ b ∨ b + 4 ≤ a) → I a = I0 a) → (∀ w, w < 3 → ∀ k, k < i → I (b + 1 + w) k = I0 (b' + 1 + w) k) → wl_X4_copyFrom_74 Q (d + 1) b b' v I := by
  intro d
  induction d with
  | zero =>
    intro i hi I v hv h1 h2
    rw [wl_X4_copyFrom_74]
    exact ⟨fun _ => hQ I h1 (by rw [show i = 3 by omega] at h2; exact h2), fun h => absurd ((n_le (a := 3) rfl hv).mpr (by omega)) h⟩
  | succ d ih =>
    intro i hi I v hv h1 h2
    obtain ⟨n1, n2, n3⟩ := nX_r hb
    obtain ⟨m1, m2, m3⟩ := nX_r hb'
    have hc : v.toNatClampNeg = i := cl_of hv
    rw [wl_X4_copyFrom_74]
    rw [n1, n2, n3, m1, m2, m3, hc]
    have hin : vp_in v 3 := ix_of hv (by omega)
    refine ⟨fun h => absurd ((n_le (a := 3) rfl hv).mp h) (by omega), fun _ => ⟨hin, hin, fun I1 e1 => ⟨hin, hin, fun I2 e2 => ⟨hin, hin, fun I3 e3 x ex => ih (i + 1) (by omega) I3 x (by rw [ex]; exact n_add hv rfl) ?_ ?_⟩⟩⟩⟩
    · intro a ha
      rw [e3, up_ne (by omega), e2, up_ne (by omega), e1, up_ne (by omega), h1 a ha]
    · intro w hw k hk
      have g1 : ∀ w, w < 3 → I (b' + 1 + w) = I0 (b' + 1 + w) := fun w hw => h1 _ (by omega)
      have hw3 : w = 0 ∨ w = 1 ∨ w = 2 := by omega
      have f2 : I1 (b' + 2) = I0 (b' + 1 + 1) := by rw [e1, up_ne (by omega)]; exact g1 1 (by omega)
      have f3 : I2 (b' + 3) = I0 (b' + 1 + 2) := by rw [e2, up_ne (by omega), e1, up_ne (by omega)]; exact g1 2 (by omega)
      by_cases hk2 : k = i
      · subst hk2
        rcases hw3 with rfl | rfl | rfl
        · rw [e3, up_ne (by omega), e2, up_ne (by omega), e1, show b + 1 + 0 = b + 1 by omega, up_eq, upd_s, show b' + 1 = b' + 1 + 0 by omega, g1 0 (by omega)]
        · rw [e3, up_ne (by omega), e2, show b + 1 + 1 = b + 2 by omega, up_eq, upd_s, f2]
        · rw [e3, show b + 1 + 2 = b + 3 by omega, up_eq, upd_s, f3]
      · rw [← h2 w hw k (by omega)]
        rcases hw3 with rfl | rfl | rfl
        · rw [e3, up_ne (by omega), e2, up_ne (by omega), e1, show b + 1 + 0 = b + 1 by omega, up_eq, upd_n hk2]
        · rw [e3, up_ne (by omega), e2, show b + 1 + 1 = b + 2 by omega, up_eq, upd_n hk2, e1, up_ne (by omega)]
        · rw [e3, show b + 1 + 2 = b + 3 by omega, up_eq, upd_n hk2, e2, up_ne (by omega), e1, up_ne (by omega)]
def cpv (I : gx_M) (b q : Nat) : Int32 := if q = 1 ∨ q = 8 then I b q &&& 1 else I b q
theorem cp_step {I Ic : gx_M} {b b' k : Nat} {w : Int32} (h : (∀ a, a ≠ b → Ic a = I a) ∧ ∀ q, q < k → Ic b q = cpv I b' q) (hw : w = cpv I b' k) : (∀ a, a ≠ b → up Ic b k w a = I a) ∧ ∀ q, q < k + 1 → up Ic b k w b q = cpv I b' q := by
  refine ⟨fun a ha => by rw [up_ne ha, h.1 a ha], fun q hq => ?_⟩
  rw [up_eq]
  by_cases e : q = k
  · rw [e, upd_s, hw]
  · rw [upd_n e, h.2 q (by omega)]
theorem s4_copy {Q : gx_M → Prop} {b b' : Nat} (hb : kX b = 4) (hb' : kX b' = 4) (hne : b + 4 ≤ b' ∨ b' + 4 ≤ b) {I : gx_M}
    (hQ : ∀ I' : gx_M, (∀ a, (a < b ∨ b + 4 ≤ a) → I' a = I a) → (∀ q, q < 9 → I' b q = cpv I b' q) → (∀ w, w < 3 → ∀ k, k < 3 → I' (b + 1 + w) k = I (b' + 1 + w) k) → Q I') : wp_X4_copyFrom b b' I Q := by
  have hn : b' ≠ b := by omega
  unfold wp_X4_copyFrom
  intro I1 e1 I2 e2 I3 e3 I4 e4 I5 e5 I6 e6 I7 e7 I8 e8 I9 e9
  have p0 : (∀ a, a ≠ b → I a = I a) ∧ ∀ q, q < 0 → I b q = cpv I b' q := ⟨fun _ _ => rfl, fun q hq => absurd hq (by omega)⟩
  have p1 := cp_step (w := I b' 0) p0 rfl
  rw [← e1] at p1
  have p2 := cp_step (w := I1 b' 1 &&& 1) p1 (by rw [p1.1 b' hn]; rfl)
  rw [← e2] at p2
  have p3 := cp_step (w := I2 b' 2) p2 (by rw [p2.1 b' hn]; rfl)
  rw [← e3] at p3
  have p4 := cp_step (w := I3 b' 3) p3 (by rw [p3.1 b' hn]; rfl)
  rw [← e4] at p4
  have p5 := cp_step (w := I4 b' 4) p4 (by rw [p4.1 b' hn]; rfl)
  rw [← e5] at p5
  have p6 := cp_step (w := I5 b' 5) p5 (by rw [p5.1 b' hn]; rfl)
  rw [← e6] at p6
  have p7 := cp_step (w := I6 b' 6) p6 (by rw [p6.1 b' hn]; rfl)
  rw [← e7] at p7
  have p8 := cp_step (w := I7 b' 7) p7 (by rw [p7.1 b' hn]; rfl)
  rw [← e8] at p8
  have p9 := cp_step (w := I8 b' 8 &&& 1) p8 (by rw [p8.1 b' hn]; rfl)
  rw [← e9] at p9
  refine ⟨3 + 1, s4_loop hb hb' hne (I0 := I9) (fun I' g1 g2 => hQ I' (fun a ha => ?_) (fun q hq => ?_) (fun w hw k hk => ?_)) 3 0 rfl I9 0 rfl (fun _ _ => rfl) (fun w hw k hk => absurd hk (by omega))⟩
  · rw [g1 a (by omega), p9.1 a (by omega)]
  · rw [g1 b (by omega)]
    exact p9.2 q hq
  · rw [g2 w hw k hk, p9.1 _ (by omega)]
theorem s5_copy {Q : gx_M → Prop} {a a' N : Nat} (h1 : nX (a + 1) = N) (h2 : nX (a' + 1) = N) (hne : a + 2 ≤ a' ∨ a' + 2 ≤ a) {I : gx_M}
    (hQ : ∀ I' : gx_M, (∀ b, (b < a ∨ a + 2 ≤ b) → I' b = I b) → I' a 1 = I a' 1 → (∀ k, k < N → I' (a + 1) k = I (a' + 1) k) → Q I') : wp_X5_copyFrom a a' I Q := by
  have hN : N ≤ 80 := by rw [← h1]; exact nX_le _
  unfold wp_X5_copyFrom
  rw [h1, h2]
  have hc : (nI N).toNatClampNeg = N := cl_of rfl
  have h0 : (0 : Int32).toNatClampNeg = 0 := rfl
  rw [hc, h0]
  refine ⟨fun _ => ⟨⟨⟨by decide, by decide, n_neg rfl⟩, by omega, by omega⟩, fun I1 e1 I2 e2 => hQ I2 (fun b hb => ?_) ?_ (fun k hk => ?_)⟩, fun h => absurd rfl h⟩
  · rw [e2, up_ne (by omega), e1, upr_ne (by omega)]
  · rw [e2, up_eq, upd_s, e1, upr_ne (by omega)]
  · rw [e2, up_ne (by omega), e1, upr_eq, pk_cpy_in (Nat.zero_le _) (by omega)]
    simp
/-- one state over another -/
theorem s6_loop {Q : gx_M → Prop} {b b' : Nat} (hb : kX b = 6) (hb' : kX b' = 6) (hne : b + 38 ≤ b' ∨ b' + 38 ≤ b) {I0 : gx_M}
    (hQ : ∀ I' : gx_M, (∀ a, (a < b ∨ b + 38 ≤ a) → I' a = I0 a) → (∀ o, o < 298 → fl I' b o = fl I0 b' o) → Q I') :
    ∀ (d i : Nat), i + d = 8 → ∀ (I : gx_M) (v : Int32), v = nI i → (∀ a, (a < b + 6 ∨ b + 38 ≤ a) → I a = I0 a) → (∀ r, r < i → (∀ q, q < 9 → I (b + 6 + 4 * r) q = cpv I0 (b' + 6 + 4 * r) q) ∧ ∀ w, w < 3 → ∀ k, k < 3 → I (b + 6 + 4 * r + 1 + w) k = I0 (b' + 6 + 4 * r + 1 + w) k) → wl_X6_copyFrom_2 Q (d + 1) b b' v I := by
  intro d
  induction d with
  | zero =>
    intro i hi I v hv h1 h2
    have hi8 : i = 8 := by omega
    subst hi8
    rw [wl_X6_copyFrom_2]
    refine ⟨fun _ => ?_, fun h => absurd ((n_le (a := 8) rfl hv).mpr (by omega)) h⟩
    refine s5_copy (a := b + 2) (a' := b' + 2) (N := 80) (nX_s hb).2.1 (nX_s hb').2.1 (by omega) fun I1 g1 g2 g3 => ?_
    refine s5_copy (a := b + 4) (a' := b' + 4) (N := 48) (nX_s hb).2.2 (nX_s hb').2.2 (by omega) fun I2 k1 k2 k3 => ?_
    intro I3 e3 I4 e4 I5 e5 I6 e6 I7 e7 I8 e8 I9 e9
    have z2 : I2 b' = I0 b' := by rw [k1 b' (by omega), g1 b' (by omega), h1 b' (by omega)]
    have q3 : ∀ a, a ≠ b → I3 a = I2 a := fun a ha => by rw [e3, up_ne ha]
    have q4 : ∀ a, a ≠ b → I4 a = I2 a := fun a ha => by rw [e4, up_ne ha, q3 a ha]
    have q5 : ∀ a, a ≠ b → I5 a = I2 a := fun a ha => by rw [e5, up_ne ha, q4 a ha]
    have q6 : ∀ a, a ≠ b → I6 a = I2 a := fun a ha => by rw [e6, up_ne ha, q5 a ha]
    have q7 : ∀ a, a ≠ b → I7 a = I2 a := fun a ha => by rw [e7, up_ne ha, q6 a ha]
    have q8 : ∀ a, a ≠ b → I8 a = I2 a := fun a ha => by rw [e8, up_ne ha, q7 a ha]
    have q9 : ∀ a, a ≠ b → I9 a = I2 a := fun a ha => by rw [e9, up_ne ha, q8 a ha]
    have hbb : b' ≠ b := by omega
    have v3 : I9 b 3 = I0 b' 3 := by
      rw [e9, up_eq, upd_n (by decide), e8, up_eq, upd_n (by decide), e7, up_eq, upd_n (by decide), e6, up_eq, upd_n (by decide), e5, up_eq, upd_n (by decide), e4, up_eq, upd_n (by decide), e3, up_eq, upd_s, z2]
    have v4 : I9 b 4 = I0 b' 4 := by
      rw [e9, up_eq, upd_n (by decide), e8, up_eq, upd_n (by decide), e7, up_eq, upd_n (by decide), e6, up_eq, upd_n (by decide), e5, up_eq, upd_n (by decide), e4, up_eq, upd_s, q3 _ hbb, z2]
    have v5 : I9 b 5 = I0 b' 5 := by
      rw [e9, up_eq, upd_n (by decide), e8, up_eq, upd_n (by decide), e7, up_eq, upd_n (by decide), e6, up_eq, upd_n (by decide), e5, up_eq, upd_s, q4 _ hbb, z2]
    have v6 : I9 b 6 = I0 b' 6 := by
      rw [e9, up_eq, upd_n (by decide), e8, up_eq, upd_n (by decide), e7, up_eq, upd_n (by decide), e6, up_eq, upd_s, q5 _ hbb, z2]
    have v7 : I9 b 7 = I0 b' 7 := by
      rw [e9, up_eq, upd_n (by decide), e8, up_eq, upd_n (by decide), e7, up_eq, upd_s, q6 _ hbb, z2]
    have v8 : I9 b 8 = I0 b' 8 := by
      rw [e9, up_eq, upd_n (by decide), e8, up_eq, upd_s, q7 _ hbb, z2]
    have v9 : I9 b 9 = I0 b' 9 := by
      rw [e9, up_eq, upd_s, q8 _ hbb, z2]
    have hro : ∀ a, b + 6 ≤ a → I9 a = I a := fun a ha => by rw [q9 a (by omega), k1 a (by omega), g1 a (by omega)]
    refine hQ I9 (fun a ha => by rw [q9 a (by omega), k1 a (by omega), g1 a (by omega), h1 a (by omega)]) (fl_all (fun o ho => ?_) rfl (fun r hr q hq => ?_) (fun r hr k hk w hw => ?_) (fun r hr q hq => ?_) (fun j hj => ?_) (fun j hj => ?_))
    · have : o = 0 ∨ o = 1 ∨ o = 2 ∨ o = 3 ∨ o = 4 ∨ o = 5 ∨ o = 6 ∨ o = 7 ∨ o = 8 := by omega
      rcases this with rfl | rfl | rfl | rfl | rfl | rfl | rfl | rfl | rfl
      · exact v3
      · exact v5
      · exact v6
      · exact v4
      · show I9 (b + 2) 1 = I0 (b' + 2) 1
        rw [q9 _ (by omega), k1 _ (by omega), g2, h1 _ (by omega)]
      · exact v7
      · exact v8
      · exact v9
      · show I9 (b + 4) 1 = I0 (b' + 4) 1
        rw [q9 _ (by omega), k2, g1 _ (by omega), h1 _ (by omega)]
    · have h3 := (h2 r hr).1 q hq
      rw [fl_r hr hq, fl_r hr hq, show b + (6 + 4 * r) = b + 6 + 4 * r by omega, show b' + (6 + 4 * r) = b' + 6 + 4 * r by omega, hro _ (by omega), h3]
      unfold cpv
      split
      · exact gz_and _
      · rfl
    · have h3 := (h2 r hr).2 w hw k hk
      rw [fl_g hr hk hw, fl_g hr hk hw, show b + (7 + 4 * r + w) = b + 6 + 4 * r + 1 + w by omega, show b' + (7 + 4 * r + w) = b' + 6 + 4 * r + 1 + w by omega, hro _ (by omega), h3]
    · rw [fl_d hr hq, fl_d hr hq]
    · rw [fl_j hj, fl_j hj, q9 _ (by omega), k1 _ (by omega), show b + 3 = b + 2 + 1 by omega, g3 j hj, show b' + 3 = b' + 2 + 1 by omega, h1 _ (by omega)]
    · rw [fl_c hj, fl_c hj, q9 _ (by omega), show b + 5 = b + 4 + 1 by omega, k3 j hj, g1 _ (by omega), show b' + 5 = b' + 4 + 1 by omega, h1 _ (by omega)]
  | succ d ih =>
    intro i hi I v hv h1 h2
    have hc : v.toNatClampNeg = i := cl_of hv
    rw [wl_X6_copyFrom_2]
    rw [(nX_s hb).1, (nX_s hb').1, hc]
    have hin : vp_in v 8 := ix_of hv (by omega)
    refine ⟨fun h => absurd ((n_le (a := 8) rfl hv).mp h) (by omega), fun _ => ⟨hin, hin, ?_⟩⟩
    rw [show b + 1 + 5 + 4 * i = b + 6 + 4 * i by omega, show b' + 1 + 5 + 4 * i = b' + 6 + 4 * i by omega]
    refine s4_copy (kX_s hb i (by omega)) (kX_s hb' i (by omega)) (by omega) fun I' g1 g2 g3 x ex => ih (i + 1) (by omega) I' x (by rw [ex]; exact n_add hv rfl) (fun a ha => by rw [g1 a (by omega), h1 a ha]) (fun r hr => ?_)
    have hsrc : ∀ a, b' ≤ a → a < b' + 38 → I a = I0 a := fun a _ _ => h1 a (by omega)
    by_cases e : r = i
    · subst e
      refine ⟨fun q hq => ?_, fun w hw k hk => ?_⟩
      · rw [g2 q hq]
        unfold cpv
        rw [hsrc _ (by omega) (by omega)]
      · rw [g3 w hw k hk, hsrc _ (by omega) (by omega)]
    · refine ⟨fun q hq => ?_, fun w hw k hk => ?_⟩
      · rw [g1 _ (by omega)]
        exact (h2 r (by omega)).1 q hq
      · rw [g1 _ (by omega)]
        exact (h2 r (by omega)).2 w hw k hk
theorem s6_copy {Q : gx_M → Prop} {b b' : Nat} (hb : kX b = 6) (hb' : kX b' = 6) (hne : b + 38 ≤ b' ∨ b' + 38 ≤ b) {I : gx_M}
    (hQ : ∀ I' : gx_M, (∀ a, (a < b ∨ b + 38 ≤ a) → I' a = I a) → (∀ o, o < 298 → fl I' b o = fl I b' o) → Q I') : wp_X6_copyFrom b b' I Q :=
  ⟨8 + 1, s6_loop hb hb' hne hQ 8 0 rfl I 0 rfl (fun _ _ => rfl) (fun r hr => absurd hr (by omega))⟩
