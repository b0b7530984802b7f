/-! the reference reads the text -/
section RM
variable {I : gx_M} {J : gx_MM} {f : Nat → Int32} {hs : Nat → Nat → Int32} {n : Nat} {sn : Nat → Int32} {ha : Nat} {tx : Nat → Int32} {tl : Nat} {re : Int32} {m w k c i : Nat} {g : Nat → Int32}
def rm (J : gx_MM) (c : Nat) (g : Nat → Int32) : Prop := J.1 0 15 = nI c ∧ ∀ o, o < 3 * c → J.1 6 o = g o
def pm (f : Nat → Int32) (hs : Nat → Nat → Int32) (n : Nat) (sn : Nat → Int32) (ha : Nat) (tx : Nat → Int32) (tl : Nat) (re : Int32) (Q : Int32 → gx_MM → Prop) (R : Option Nat × Nat × (Nat → Int32)) : Prop :=
  ∀ J' : gx_MM, vm J' f hs n sn ha tx tl re → (R.1 = none → rm J' R.2.1 R.2.2 → ∃ fu, wl_X8_readJobs_71 Q fu 0 (0 : Int32) J') ∧ ∀ b, R.1 = some b → Q (-100 - nI b) J'
theorem vm.f0 {q : Nat} {v : Int32} (h : vm J f hs n sn ha tx tl re) (hq : q = 14 ∨ q = 15) : vm (um J 0 q v) f hs n sn ha tx tl re :=
  h.fr (fun a ha => um_ne (by omega)) (fun k hk => by rw [um_eq, upd_n (by omega)])
theorem vm.f6 {q : Nat} {v : Int32} (h : vm J f hs n sn ha tx tl re) : vm (um J 6 q v) f hs n sn ha tx tl re :=
  h.fr (fun a ha => um_ne (by omega)) (fun k hk => by rw [um_ne (by decide)])
theorem s8_sign {Q : Int32 → gx_MM → Prop} {s : Int32} (hm : vm J f hs n sn ha tx tl re) (h14 : J.1 0 14 = nI i) (hi : i ≤ tl) (h1 : i < tl → tx i = s → Q 1 J) (h0 : ¬ (i < tl ∧ tx i = s) → Q 0 J) : wp_X8_isSign 0 s J Q := by
  have a2 : J.1 0 12 = nI tl := hm.2.2.2.2.2.2.2.1
  have ht : tl ≤ 60 := hm.2.2.2.2.2.2.2.2.1
  unfold wp_X8_isSign
  refine ⟨fun c => h0 fun q => ?_, fun c => ?_⟩
  · have := (n_le a2 h14).mp c
    omega
  · have hlt : i < tl := by
      have : ¬ tl ≤ i := fun q => c ((n_le a2 h14).mpr q)
      omega
    have e : J.1 (0 + 5) i = tx i := hm.2.2.2.2.2.2.2.2.2 i hlt
    refine ⟨ix_of (N := 60) h14 (by omega), ?_⟩
    rw [cl_of h14, e]
    exact ⟨fun q => h1 hlt q, fun q => h0 fun z => q z.2⟩
theorem s8_dig {Q : Int32 → gx_MM → Prop} {p : Int32} {e : Nat} (hp : p = nI e) (he : e ≤ 9) (hm : vm J f hs n sn ha tx tl re) (h14 : J.1 0 14 = nI i) (hi : i ≤ tl) (h1 : i < tl → (48 : Int32) ≤ tx i → tx i ≤ nI (48 + e) → ∀ J' : gx_MM, vm J' f hs n sn ha tx tl re → (∀ a, a ≠ 0 → J'.1 a = J.1 a) → J'.1 0 14 = nI (i + 1) → J'.1 0 15 = J.1 0 15 → Q (tx i - 48) J') (h0 : ¬ (i < tl ∧ (48 : Int32) ≤ tx i ∧ tx i ≤ nI (48 + e)) → Q (-1000004) J) : wp_X8_digit 0 p J Q := by
  have a2 : J.1 0 12 = nI tl := hm.2.2.2.2.2.2.2.1
  have ht : tl ≤ 60 := hm.2.2.2.2.2.2.2.2.1
  have e48 : (48 : Int32) + p = nI (48 + e) := n_add rfl hp
  unfold wp_X8_digit
  rw [e48]
  refine ⟨fun c => h0 fun q => ?_, fun c => ?_⟩
  · have := (n_le a2 h14).mp c
    omega
  · have hlt : i < tl := by
      have : ¬ tl ≤ i := fun q => c ((n_le a2 h14).mpr q)
      omega
    have e5 : J.1 (0 + 5) i = tx i := hm.2.2.2.2.2.2.2.2.2 i hlt
    refine ⟨ix_of (N := 60) h14 (by omega), ?_⟩
    rw [cl_of h14, e5]
    refine s8_w (fun d1 d2 => ⟨fun h => absurd h (by decide), fun _ J2 f2 => ?_⟩) (fun d => ⟨fun _ => h0 fun q => d q.2, fun h => absurd rfl h⟩)
    have v14 : J2.1 0 14 = nI (i + 1) := by rw [f2, um_eq, upd_s]; exact n_add h14 rfl
    have v1 : J2.1 0 14 - (1 : Int32) = nI i := n_re (n_sub (b := 1) v14 rfl (by omega)) (by omega)
    refine ⟨ix_of (N := 60) v1 (by omega), ?_⟩
    have e52 : J2.1 (0 + 5) i = tx i := by rw [f2, um_ne (by decide)]; exact e5
    rw [cl_of v1, e52]
    refine h1 hlt d1 d2 J2 (by rw [f2]; exact hm.f0 (Or.inl rfl)) (fun a ha => by rw [f2, um_ne ha]) v14 (by rw [f2, um_eq, upd_n (by decide)])
theorem dig_ne {t : Int32} {e : Nat} (h1 : (48 : Int32) ≤ t) (h2 : t ≤ nI (48 + e)) (he : e ≤ 9) : ¬ t - 48 = -1000004 := by
  obtain ⟨d, d1, d2⟩ := dig h1 h2 he
  intro q
  exact absurd (by rw [← d1, q]; decide : nI d < 0) (n_neg rfl (by omega))
theorem s8_read {Q : Int32 → gx_MM → Prop} : ∀ (fu i c : Nat) (g : Nat → Int32) (J : gx_MM), tl < i + fu → 3 * c ≤ i → i ≤ tl → vm J f hs n sn ha tx tl re → rm J c g → J.1 0 14 = nI i → pm f hs n sn ha tx tl re Q (rd tx tl fu i c g) → wl_X8_readJobs_12 Q (fu + 1) 0 (1 : Int32) J := by
  intro fu
  induction fu with
  | zero => intro i c g J h1 h2 h3; omega
  | succ fu ih =>
    intro i c g J hfu hc hi hm hrm h14 hQ
    have ht : tl ≤ 60 := hm.2.2.2.2.2.2.2.2.1
    have h15 : J.1 0 15 = nI c := hrm.1
    rw [wl_X8_readJobs_12]
    refine ⟨fun h => absurd h (by decide), fun _ => ?_⟩
    generalize hQ' : (fun (r1 : Int32) (I1 : gx_MM) => (r1 = 0 → Q ((-100 : Int32) - (I1.1 0 14)) I1) ∧ (¬ r1 = 0 → ((I1.1 0 12) ≤ (I1.1 0 14) → wj_X8_readJobs_47 Q (wl_X8_readJobs_12 Q (fu + 1)) 0 (0 : Int32) I1) ∧ (¬ (I1.1 0 12) ≤ (I1.1 0 14) → wj_X8_readJobs_47 Q (wl_X8_readJobs_12 Q (fu + 1)) 0 (1 : Int32) I1))) = Q'
    have bad : ∀ (J' : gx_MM) (b : Nat) (c' : Nat) (g' : Nat → Int32), vm J' f hs n sn ha tx tl re → J'.1 0 14 = nI b → pm f hs n sn ha tx tl re Q (some b, c', g') → Q' 0 J' := by
      intro J' b c' g' h1 h2 h3
      rw [← hQ']
      refine ⟨fun _ => ?_, fun h => absurd rfl h⟩
      rw [h2]
      exact (h3 J' h1).2 b rfl
    have fin : ∀ (J' : gx_MM) (j : Nat) (g' : Nat → Int32), i + 2 ≤ j → j ≤ tl → vm J' f hs n sn ha tx tl re → J'.1 0 14 = nI j → J'.1 0 15 = nI c → (∀ o, o < 3 * (c + 1) → J'.1 6 o = g' o) → pm f hs n sn ha tx tl re Q (rfin tx tl (rd tx tl fu) j c g') → wj_X8_readsJob_163 Q' 0 J' := by
      intro J' j g' hij hj h1 h2 h3 h4 h5 J1 f1
      have hm1 : vm J1 f hs n sn ha tx tl re := by rw [f1]; exact h1.f0 (Or.inr rfl)
      have v14 : J1.1 0 14 = nI j := by rw [f1, um_eq, upd_n (by decide)]; exact h2
      have v15 : J1.1 0 15 = nI (c + 1) := by rw [f1, um_eq, upd_s]; exact n_add h3 rfl
      have a2 : J1.1 0 12 = nI tl := hm1.2.2.2.2.2.2.2.1
      have v6 : ∀ o, o < 3 * (c + 1) → J1.1 6 o = g' o := fun o ho => by rw [f1, um_ne (by decide)]; exact h4 o ho
      unfold rfin at h5
      refine ⟨fun q => ?_, fun q => ?_⟩
      · have hjt : j = tl := by rw [v14, a2] at q; exact (nI_eq (by omega) (by omega)).mp q
        rw [if_neg (by omega)] at h5
        unfold wj_X8_readsJob_198
        rw [← hQ']
        refine ⟨fun h => absurd h (by decide), fun _ => ⟨fun _ => ⟨fun _ J2 f2 => ?_, fun h => absurd rfl h⟩, fun h => absurd ((n_le a2 v14).mpr (by omega)) h⟩⟩
        rw [wl_X8_readJobs_12]
        refine ⟨fun _ => (h5 J2 (by rw [f2]; exact hm1.f0 (Or.inl rfl))).1 rfl ⟨by rw [f2, um_eq, upd_n (by decide)]; exact v15, fun o ho => by rw [f2, um_ne (by decide)]; exact v6 o ho⟩, fun h => absurd rfl h⟩
      · have hjt : j < tl := by
          refine Nat.lt_of_le_of_ne hj fun e => q ?_
          rw [v14, a2, e]
        have e5 : J1.1 (0 + 5) j = tx j := hm1.2.2.2.2.2.2.2.2.2 j hjt
        rw [if_pos hjt] at h5
        refine ⟨ix_of (N := 60) v14 (by omega), ?_⟩
        rw [cl_of v14, e5]
        refine ⟨fun z => ?_, fun z => ?_⟩
        · rw [if_pos z] at h5
          unfold wj_X8_readsJob_198
          rw [← hQ']
          refine ⟨fun h => absurd h (by decide), fun _ => ⟨fun h => absurd ((n_le a2 v14).mp h) (by omega), fun _ => ⟨fun h => absurd h (by decide), fun _ J2 f2 => ?_⟩⟩⟩
          refine ih (j + 1) (c + 1) g' J2 (by omega) (by omega) (by omega) (by rw [f2]; exact hm1.f0 (Or.inl rfl)) ⟨by rw [f2, um_eq, upd_n (by decide)]; exact v15, fun o ho => by rw [f2, um_ne (by decide)]; exact v6 o ho⟩ ?_ h5
          rw [f2, um_eq, upd_s]
          exact n_add v14 rfl
        · rw [if_neg z] at h5
          exact bad J1 j _ _ hm1 v14 h5
    unfold wp_X8_readsJob
    intro x1 e1
    have e1 : x1 = nI (3 * c) := by rw [e1, h15, show (3 : Int32) = nI 3 from rfl, pk_mul]
    have e11 : x1 + (1 : Int32) = nI (3 * c + 1) := n_add e1 rfl
    have e12 : x1 + (2 : Int32) = nI (3 * c + 2) := n_add e1 rfl
    unfold rd at hQ
    have none53 : (i < tl → kof (tx i) = none) → wj_X8_readsJob_53 Q' 0 x1 (-1000004 : Int32) x1 (0 + 6) J := by
      intro hk
      refine ⟨ix_of (N := 63) e1 (by omega), fun J1 f1 => ⟨ix_of (N := 63) e1 (by omega), ?_⟩⟩
      rw [cl_of e1] at f1 ⊢
      have f1 : J1 = um J 6 (3 * c) (-1000004) := f1
      have v : J1.1 (0 + 6) (3 * c) = -1000004 := by show J1.1 6 _ = _; rw [f1, um_eq, upd_s]
      refine ⟨fun _ => ?_, fun h => absurd v h⟩
      have hm1 : vm J1 f hs n sn ha tx tl re := by rw [f1]; exact hm.f6
      have v14 : J1.1 0 14 = nI i := by rw [f1, um_ne (by decide)]; exact h14
      by_cases h0 : i < tl
      · rw [if_pos h0, hk h0] at hQ
        exact bad J1 i _ _ hm1 v14 hQ
      · rw [if_neg h0] at hQ
        exact bad J1 i _ _ hm1 v14 hQ
    have some53 : ∀ kk : Int32, i < tl → kof (tx i) = some kk → wj_X8_readsJob_53 Q' 0 x1 kk x1 (0 + 6) J := by
      intro kk h0 hk
      rw [if_pos h0, hk] at hQ
      have hQ : pm f hs n sn ha tx tl re Q (if i + 1 < tl then (if (48 : Int32) ≤ tx (i + 1) ∧ tx (i + 1) ≤ 55 then (if i + 2 < tl then (if tx (i + 2) = 33 then (if i + 3 < tl then (if (48 : Int32) ≤ tx (i + 3) ∧ tx (i + 3) ≤ 57 then rfin tx tl (rd tx tl fu) (i + 4) c (g3 g c kk (tx (i + 1) - 48) (tx (i + 3) - 48)) else (some (i + 3), c, g)) else (some (i + 3), c, g)) else rfin tx tl (rd tx tl fu) (i + 2) c (g3 g c kk (tx (i + 1) - 48) 5)) else (none, c + 1, g3 g c kk (tx (i + 1) - 48) 5)) else (some (i + 1), c, g)) else (some (i + 1), c, g)) := hQ
      obtain ⟨d, d1, d2⟩ := kof_d hk
      have hkn : ¬ kk = -1000004 := fun q => absurd (by rw [← d1, q]; decide : nI d < 0) (n_neg rfl (by omega))
      refine ⟨ix_of (N := 63) e1 (by omega), fun J1 f1 => ⟨ix_of (N := 63) e1 (by omega), ?_⟩⟩
      rw [cl_of e1] at f1 ⊢
      have f1 : J1 = um J 6 (3 * c) kk := f1
      have v : J1.1 (0 + 6) (3 * c) = kk := by show J1.1 6 _ = _; rw [f1, um_eq, upd_s]
      rw [v]
      refine ⟨fun h => absurd h hkn, fun _ J2 f2 => ?_⟩
      have hm1 : vm J1 f hs n sn ha tx tl re := by rw [f1]; exact hm.f6
      have hm2 : vm J2 f hs n sn ha tx tl re := by rw [f2]; exact hm1.f0 (Or.inl rfl)
      have w14 : J2.1 0 14 = nI (i + 1) := by rw [f2, um_eq, upd_s, f1, um_ne (by decide)]; exact n_add h14 rfl
      have w15 : J2.1 0 15 = nI c := by rw [f2, um_eq, upd_n (by decide), f1, um_ne (by decide)]; exact h15
      have w6 : ∀ o, J2.1 6 o = upd (J.1 6) (3 * c) kk o := fun o => by rw [f2, um_ne (by decide), f1, um_eq]
      refine s8_dig (e := 7) rfl (by decide) hm2 w14 (by omega) (fun h1 z1 z2 J3 hm3 y3 v14 v15 => ⟨ix_of (N := 63) e11 (by omega), fun J4 f4 => ⟨ix_of (N := 63) e11 (by omega), ?_⟩⟩) (fun hno => ⟨ix_of (N := 63) e11 (by omega), fun J4 f4 => ⟨ix_of (N := 63) e11 (by omega), ?_⟩⟩)
      rotate_left
      · rw [cl_of e11] at f4 ⊢
        have f4 : J4 = um J2 6 (3 * c + 1) (-1000004) := f4
        have v4 : J4.1 (0 + 6) (3 * c + 1) = -1000004 := by show J4.1 6 _ = _; rw [f4, um_eq, upd_s]
        refine ⟨fun _ => ?_, fun h => absurd v4 h⟩
        refine bad J4 (i + 1) c g (by rw [f4]; exact hm2.f6) (by rw [f4, um_ne (by decide)]; exact w14) ?_
        by_cases h1 : i + 1 < tl
        · rw [if_pos h1, if_neg (show ¬ ((48 : Int32) ≤ tx (i + 1) ∧ tx (i + 1) ≤ 55) from fun q => hno ⟨h1, q⟩)] at hQ; exact hQ
        · rw [if_neg h1] at hQ; exact hQ
      rw [if_pos h1, if_pos ⟨z1, z2⟩] at hQ
      rw [cl_of e11] at f4 ⊢
      have f4 : J4 = um J3 6 (3 * c + 1) (tx (i + 1) - 48) := f4
      have v4 : J4.1 (0 + 6) (3 * c + 1) = tx (i + 1) - 48 := by show J4.1 6 _ = _; rw [f4, um_eq, upd_s]
      rw [v4]
      refine ⟨fun h => absurd h (dig_ne (e := 7) z1 z2 (by decide)), fun _ => ⟨ix_of (N := 63) e12 (by omega), fun J5 f5 => ?_⟩⟩
      rw [cl_of e12] at f5
      have f5 : J5 = um J4 6 (3 * c + 2) 5 := f5
      have hm5 : vm J5 f hs n sn ha tx tl re := by rw [f5, f4]; exact hm3.f6.f6
      have u14 : J5.1 0 14 = nI (i + 2) := by rw [f5, um_ne (by decide), f4, um_ne (by decide)]; exact v14
      have u15 : J5.1 0 15 = nI c := by rw [f5, um_ne (by decide), f4, um_ne (by decide), v15]; exact w15
      have u6 : ∀ o, J5.1 6 o = g3 (J.1 6) c kk (tx (i + 1) - 48) 5 o := by
        intro o
        rw [f5, um_eq, f4, um_eq, y3 6 (by decide)]
        unfold g3
        rw [show J2.1 6 = upd (J.1 6) (3 * c) kk from funext w6]
      have tab : ∀ (u : Int32) (o : Nat), o < 3 * (c + 1) → g3 (J.1 6) c kk (tx (i + 1) - 48) u o = g3 g c kk (tx (i + 1) - 48) u o := by
        intro u o ho
        unfold g3
        by_cases q2 : o = 3 * c + 2
        · rw [q2, upd_s, upd_s]
        rw [upd_n q2, upd_n q2]
        by_cases q1 : o = 3 * c + 1
        · rw [q1, upd_s, upd_s]
        rw [upd_n q1, upd_n q1]
        by_cases q0 : o = 3 * c
        · rw [q0, upd_s, upd_s]
        rw [upd_n q0, upd_n q0]
        exact hrm.2 o (by omega)
      refine s8_sign hm5 u14 (by omega) (fun h2 z3 => ⟨fun h => absurd h (by decide), fun _ J7 f7 => ?_⟩) (fun hno => ⟨fun _ => ?_, fun h => absurd rfl h⟩)
      · rw [if_pos h2, if_pos z3] at hQ
        have hm7 : vm J7 f hs n sn ha tx tl re := by rw [f7]; exact hm5.f0 (Or.inl rfl)
        have t14 : J7.1 0 14 = nI (i + 3) := by rw [f7, um_eq, upd_s]; exact n_re (n_add (b := 1) u14 rfl) (by omega)
        have t15 : J7.1 0 15 = nI c := by rw [f7, um_eq, upd_n (by decide)]; exact u15
        refine s8_dig (e := 9) rfl (by decide) hm7 t14 (by omega) (fun h3 z4 z5 J8 hm8 y8 v8 v9 => ⟨ix_of (N := 63) e12 (by omega), fun J9 f9 => ⟨ix_of (N := 63) e12 (by omega), ?_⟩⟩) (fun hno => ⟨ix_of (N := 63) e12 (by omega), fun J9 f9 => ⟨ix_of (N := 63) e12 (by omega), ?_⟩⟩)
        · rw [if_pos h3, if_pos ⟨z4, z5⟩] at hQ
          rw [cl_of e12] at f9 ⊢
          have f9 : J9 = um J8 6 (3 * c + 2) (tx (i + 3) - 48) := f9
          have v99 : J9.1 (0 + 6) (3 * c + 2) = tx (i + 3) - 48 := by show J9.1 6 _ = _; rw [f9, um_eq, upd_s]
          rw [v99]
          refine ⟨fun h => absurd h (dig_ne (e := 9) z4 z5 (by decide)), fun _ => ?_⟩
          refine fin J9 (i + 4) _ (by omega) (by omega) (by rw [f9]; exact hm8.f6) (by rw [f9, um_ne (by decide)]; exact v8) (by rw [f9, um_ne (by decide), v9]; exact t15) (fun o ho => ?_) hQ
          rw [← tab _ o ho, f9, um_eq, y8 6 (by decide), f7, um_ne (by decide)]
          show upd (J5.1 6) (3 * c + 2) _ o = _
          rw [show J5.1 6 = g3 (J.1 6) c kk (tx (i + 1) - 48) 5 from funext u6]
          unfold g3
          by_cases q2 : o = 3 * c + 2
          · rw [q2, upd_s, upd_s]
          · rw [upd_n q2, upd_n q2, upd_n q2]
        · rw [cl_of e12] at f9 ⊢
          have f9 : J9 = um J7 6 (3 * c + 2) (-1000004) := f9
          have v99 : J9.1 (0 + 6) (3 * c + 2) = -1000004 := by show J9.1 6 _ = _; rw [f9, um_eq, upd_s]
          refine ⟨fun _ => ?_, fun h => absurd v99 h⟩
          refine bad J9 (i + 3) c g (by rw [f9]; exact hm7.f6) (by rw [f9, um_ne (by decide)]; exact t14) ?_
          by_cases h3 : i + 3 < tl
          · rw [if_pos h3, if_neg (show ¬ ((48 : Int32) ≤ tx (i + 3) ∧ tx (i + 3) ≤ 57) from fun q => hno ⟨h3, q⟩)] at hQ; exact hQ
          · rw [if_neg h3] at hQ; exact hQ
      · refine fin J5 (i + 2) (g3 g c kk (tx (i + 1) - 48) 5) (by omega) (by omega) hm5 u14 u15 (fun o ho => by rw [u6 o, tab _ o ho]) ?_
        by_cases h2 : i + 2 < tl
        · rw [if_pos h2, if_neg (fun q => hno ⟨h2, q⟩)] at hQ
          exact hQ
        · rw [if_neg h2] at hQ
          unfold rfin
          rw [if_neg h2]
          exact hQ
    refine s8_sign hm h14 hi (fun h0 z => ⟨fun h => absurd h (by decide), fun _ => some53 0 h0 ?_⟩) (fun n1 => ⟨fun _ => s8_sign hm h14 hi (fun h0 z => ⟨fun h => absurd h (by decide), fun _ => some53 1 h0 ?_⟩) (fun n2 => ⟨fun _ => s8_sign hm h14 hi (fun h0 z => ⟨fun h => absurd h (by decide), fun _ => some53 2 h0 ?_⟩) (fun n3 => ⟨fun _ => none53 fun h0 => ?_, fun h => absurd rfl h⟩), fun h => absurd rfl h⟩), fun h => absurd rfl h⟩)
    · unfold kof; rw [if_pos z]
    · unfold kof; rw [if_neg (by rw [z]; decide), if_pos z]
    · unfold kof; rw [if_neg (by rw [z]; decide), if_neg (by rw [z]; decide), if_pos z]
    · unfold kof; rw [if_neg (fun q => n1 ⟨h0, q⟩), if_neg (fun q => n2 ⟨h0, q⟩), if_neg (fun q => n3 ⟨h0, q⟩)]
end RM
