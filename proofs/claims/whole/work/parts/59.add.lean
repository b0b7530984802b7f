/-! a rosette is added -/
def ngv (p0 p1 p2 p3 : Int32) (q : Nat) : Int32 := if q = 0 then p0 else if q = 1 then p1 else if q = 2 then p2 else if q = 3 then p3 else if q = 11 ∨ q = 14 ∨ q = 17 then 1000 else 0
def adr (f : Nat → Int32) (m : Nat) (p0 p1 p2 p3 : Int32) : Nat → Int32 := fun o => if o = 0 then nI (m + 1) else if 10 + 20 * m ≤ o ∧ o < 30 + 20 * m then ngv p0 p1 p2 p3 (o - (10 + 20 * m)) else f o
theorem adr_in {f : Nat → Int32} {m q : Nat} {p0 p1 p2 p3 : Int32} (hq : q < 20) : adr f m p0 p1 p2 p3 (10 + 20 * m + q) = ngv p0 p1 p2 p3 q := by
  unfold adr
  rw [if_neg (by omega), if_pos (by omega), show 10 + 20 * m + q - (10 + 20 * m) = q by omega]
theorem adr_out {f : Nat → Int32} {m o : Nat} {p0 p1 p2 p3 : Int32} (h0 : o ≠ 0) (h : ¬ (10 + 20 * m ≤ o ∧ o < 30 + 20 * m)) : adr f m p0 p1 p2 p3 o = f o := by
  unfold adr
  rw [if_neg h0, if_neg h]
section AX
variable {I : gx_M} {J : gx_MM} {f g : Nat → Int32} {hs : Nat → Nat → Int32} {n : Nat} {sn : Nat → Int32} {ha : Nat} {tx : Nat → Int32} {tl : Nat} {re : Int32} {m w k : Nat} {p p0 p1 p2 p3 : Int32}
theorem vm.cg (h : vm J f hs n sn ha tx tl re) (e : ∀ o, o < 298 → f o = g o) : vm J g hs n sn ha tx tl re :=
  ⟨fun o ho => (h.1 o ho).trans (e o ho), h.2⟩
theorem s6_has {Q : Int32 → gx_M → Prop} (hx : vx I f hs n sn ha tx tl re) (hg : gd f m w k) (h1 : ∀ r, r < m → f (10 + 20 * r + 0) = p → Q 1 I) (h2 : (∀ r, r < m → ¬ f (10 + 20 * r + 0) = p) → Q 0 I) : wp_X6_hasRosetteAt 1 p I Q := by
  have hm8 := hg.2.1
  have key : ∀ (d i : Nat), i + d = m → ∀ v : Int32, v = nI i → (∀ r, r < i → ¬ f (10 + 20 * r + 0) = p) → wl_X6_hasRosetteAt_2 Q (d + 1) 1 p v I := by
    intro d
    induction d with
    | zero =>
      intro i hi v hv g
      rw [wl_X6_hasRosetteAt_2]
      refine ⟨fun _ => h2 fun r hr => g r (by omega), fun h => absurd ((n_le (hx.mo hg) hv).mpr (by omega)) h⟩
    | succ d ih =>
      intro i hi v hv g
      rw [wl_X6_hasRosetteAt_2]
      refine ⟨fun h => absurd ((n_le (hx.mo hg) hv).mp h) (by omega), fun _ => s6_place hx hg (by omega) hv ⟨fun c => h1 i (by omega) c, fun c x ex => ih (i + 1) (by omega) x (by rw [ex]; exact n_add hv rfl) fun r hr => ?_⟩⟩
      by_cases e : r = i
      · rw [e]; exact c
      · exact g r (by omega)
  exact ⟨m + 1, key m 0 (by omega) 0 rfl (fun r hr => absurd hr (by omega))⟩
theorem s8_isAt {Q : Int32 → gx_MM → Prop} (hm : vm J f hs n sn ha tx tl re) (hg : gd f m w k) (h1 : ∀ r, r < m → f (10 + 20 * r + 0) = p → Q (nI r) J) (h2 : (∀ r, r < m → ¬ f (10 + 20 * r + 0) = p) → Q (-1000004) J) : wp_X8_isAt 0 p J Q := by
  have hm8 := hg.2.1
  have key : ∀ (d i : Nat), i + d = m → ∀ v : Int32, v = nI i → (∀ r, r < i → ¬ f (10 + 20 * r + 0) = p) → wl_X8_isAt_2 Q (d + 1) 0 p v J := by
    intro d
    induction d with
    | zero =>
      intro i hi v hv g
      rw [wl_X8_isAt_2]
      refine ⟨ix_of (n := 0) (N := 298) rfl (by decide), fun _ => h2 fun r hr => g r (by omega), fun h => absurd ((n_le (hm.mo hg) hv).mpr (by omega)) h⟩
    | succ d ih =>
      intro i hi v hv g
      rw [wl_X8_isAt_2]
      refine ⟨ix_of (n := 0) (N := 298) rfl (by decide), fun h => absurd ((n_le (hm.mo hg) hv).mp h) (by omega), fun _ => s8_of hm hv (q := 0) rfl (by omega) ⟨fun c => by rw [hv]; exact h1 i (by omega) c, fun c x ex => ih (i + 1) (by omega) x (by rw [ex]; exact n_add hv rfl) fun r hr => ?_⟩⟩
      by_cases e : r = i
      · rw [e]; exact c
      · exact g r (by omega)
  exact ⟨m + 1, key m 0 (by omega) 0 rfl (fun r hr => absurd hr (by omega))⟩
theorem gd_adr (hg : gd f m w k) (hm : m < 8) (h0 : ∃ a, p0 = nI a ∧ a ≤ 1000) (h1 : p1 = 0 ∨ p1 = 1) (h2 : p2 = 120 ∨ p2 = 350) (h3 : ∃ c, p3 = nI c ∧ 180 ≤ c ∧ c ≤ 240) : gd (adr f m p0 p1 p2 p3) (m + 1) w k := by
  obtain ⟨a1, a2, a3, a4, a5, a6, a7, a8, a9, a10⟩ := hg
  have lo : ∀ o, o ≠ 0 → o < 10 → adr f m p0 p1 p2 p3 o = f o := fun o h h2 => adr_out h (by omega)
  have hi : ∀ o, 170 ≤ o → adr f m p0 p1 p2 p3 o = f o := fun o h => adr_out (by omega) (by omega)
  refine ⟨rfl, by omega, by rw [lo 4 (by decide) (by decide)]; exact a3, a4, by rw [lo 8 (by decide) (by decide)]; exact a5, a6, by rw [lo 3 (by decide) (by decide)]; exact a7, by rw [lo 1 (by decide) (by decide)]; exact a8, fun r hr => ?_, fun j hj => ?_⟩
  · by_cases e : r = m
    · subst e
      refine ⟨by rw [adr_in (by decide)]; exact h0, ?_, ?_, by rw [adr_in (by decide)]; exact h3, by rw [adr_in (by decide)]; exact ⟨0, rfl, by decide⟩, fun q hq => ?_, by rw [adr_in (by decide)]; exact ⟨0, rfl, by decide⟩, fun k hk => ?_⟩
      · rw [adr_in (by decide)]
        rcases h1 with h | h
        · exact ⟨0, h, by decide⟩
        · exact ⟨1, h, by decide⟩
      · rw [adr_in (by decide)]
        exact h2
      · rw [adr_in (by omega)]
        have : q = 0 ∨ q = 1 ∨ q = 2 := by omega
        rcases this with h | h | h <;> subst h <;> exact (⟨by decide, by decide⟩ : -5000 ≤ (0 : Int32).toInt ∧ (0 : Int32).toInt ≤ 5000)
      · rw [adr_in (by omega), adr_in (by omega), adr_in (by omega)]
        have : k = 0 ∨ k = 1 ∨ k = 2 := by omega
        rcases this with h | h | h <;> subst h <;> exact (⟨⟨by decide, by decide⟩, ⟨by decide, by decide⟩, by decide, by decide⟩ : (-9999 ≤ (0 : Int32).toInt ∧ (0 : Int32).toInt ≤ 9999) ∧ (-15000 ≤ (0 : Int32).toInt ∧ (0 : Int32).toInt ≤ 15000) ∧ (-17199000 ≤ (1000 : Int32).toInt ∧ (1000 : Int32).toInt ≤ 17199000))
    · obtain ⟨g1, g2, g3, g4, g5, g6, g7, g8⟩ := a9 r (by omega)
      have ee : ∀ q, q < 18 → adr f m p0 p1 p2 p3 (10 + 20 * r + q) = f (10 + 20 * r + q) := fun q hq => adr_out (by omega) (by omega)
      refine ⟨by rw [ee 0 (by decide)]; exact g1, by rw [ee 1 (by decide)]; exact g2, by rw [ee 2 (by decide)]; exact g3, by rw [ee 3 (by decide)]; exact g4, by rw [ee 4 (by decide)]; exact g5, fun q hq => by rw [ee (5 + q) (by omega)]; exact g6 q hq, by rw [ee 8 (by decide)]; exact g7, fun k hk => ?_⟩
      rw [ee (9 + 3 * k + 0) (by omega), ee (9 + 3 * k + 1) (by omega), ee (9 + 3 * k + 2) (by omega)]
      exact g8 k hk
  · unfold gj
    rw [hi _ (by omega), hi _ (by omega), hi _ (by omega)]
    obtain ⟨c1, ⟨r, c2, c3⟩, c4⟩ := a10 j hj
    exact ⟨c1, ⟨r, c2, by omega⟩, c4⟩
theorem s4_begin {Q : gx_M → Prop} (hm : m < 8) (h1 : p1 &&& 1 = p1) (hQ : ∀ I' : gx_M, (∀ a, (a < 1 + (6 + 4 * m) ∨ 1 + (6 + 4 * m) + 4 ≤ a) → I' a = I a) → (∀ q, q < 9 → I' (1 + (6 + 4 * m)) q = ngv p0 p1 p2 p3 q) → (∀ u, u < 3 → ∀ i, i < 3 → I' (1 + (6 + 4 * m) + (1 + u)) i = ngv p0 p1 p2 p3 (9 + 3 * i + u)) → Q I') : wp_X4_begin (1 + (6 + 4 * m)) p0 p1 p2 p3 I Q := by
  obtain ⟨n1, n2, n3⟩ := nX_ros hm
  unfold wp_X4_begin
  intro I1 e1
  refine ⟨h1, fun I2 e2 I3 e3 I4 e4 I5 e5 I6 e6 I7 e7 I8 e8 I9 e9 => ⟨3 + 1, ?_⟩⟩
  have z9 : ∀ a, a ≠ 1 + (6 + 4 * m) → I9 a = I a := fun a h => by rw [e9, up_ne h, e8, up_ne h, e7, up_ne h, e6, up_ne h, e5, up_ne h, e4, up_ne h, e3, up_ne h, e2, up_ne h, e1, up_ne h]
  have v9 : ∀ q, q < 9 → I9 (1 + (6 + 4 * m)) q = ngv p0 p1 p2 p3 q := by
    intro q hq
    have : q = 0 ∨ q = 1 ∨ q = 2 ∨ q = 3 ∨ q = 4 ∨ q = 5 ∨ q = 6 ∨ q = 7 ∨ q = 8 := by omega
    rw [e9, up_eq, e8, up_eq, e7, up_eq, e6, up_eq, e5, up_eq, e4, up_eq, e3, up_eq, e2, up_eq, e1, up_eq]
    rcases this with h | h | h | h | h | h | h | h | h <;> subst h <;> rfl
  have key : ∀ (d i : Nat), i + d = 3 → ∀ (I2 : gx_M) (v : Int32), v = nI i → (∀ a, (a ≤ 1 + (6 + 4 * m) ∨ 1 + (6 + 4 * m) + 4 ≤ a) → I2 a = I9 a) → (∀ u, u < 3 → ∀ j, j < i → I2 (1 + (6 + 4 * m) + (1 + u)) j = ngv p0 p1 p2 p3 (9 + 3 * j + u)) → wl_X4_begin_49 Q (d + 1) (1 + (6 + 4 * m)) v I2 := by
    intro d
    induction d with
    | zero =>
      intro i hi I2 v hv g1 g2
      have hi : i = 3 := by omega
      subst hi
      rw [wl_X4_begin_49]
      refine ⟨fun _ => hQ I2 (fun a ha => by rw [g1 a (by omega), z9 a (by omega)]) (fun q hq => by rw [g1 _ (by omega)]; exact v9 q hq) g2, fun h => absurd ((n_le (a := 3) rfl hv).mpr (by omega)) h⟩
    | succ d ih =>
      intro i hi I2 v hv g1 g2
      have hin : vp_in v 3 := ix_of hv (by omega)
      rw [wl_X4_begin_49]
      rw [n1, n2, n3, cl_of hv]
      refine ⟨fun h => absurd ((n_le (a := 3) rfl hv).mp h) (by omega), fun _ => ⟨hin, fun J1 f1 => ⟨hin, fun J2 f2 => ⟨hin, fun J3 f3 x ex => ih (i + 1) (by omega) J3 x (by rw [ex]; exact n_add hv rfl) (fun a ha => ?_) (fun u hu j hj => ?_)⟩⟩⟩⟩
      · rw [f3, up_ne (by omega), f2, up_ne (by omega), f1, up_ne (by omega), g1 a ha]
      · have hi3 : i = 0 ∨ i = 1 ∨ i = 2 := by omega
        have hu3 : u = 0 ∨ u = 1 ∨ u = 2 := by omega
        by_cases ej : j = i
        · subst ej
          rcases hu3 with h | h | h <;> subst h
          · rw [f3, up_ne (by omega), f2, up_ne (by omega), f1, show 1 + (6 + 4 * m) + (1 + 0) = 1 + (6 + 4 * m) + 1 from rfl, up_eq, upd_s]
            rcases hi3 with h | h | h <;> subst h <;> rfl
          · rw [f3, up_ne (by omega), f2, show 1 + (6 + 4 * m) + (1 + 1) = 1 + (6 + 4 * m) + 2 from rfl, up_eq, upd_s]
            rcases hi3 with h | h | h <;> subst h <;> rfl
          · rw [f3, show 1 + (6 + 4 * m) + (1 + 2) = 1 + (6 + 4 * m) + 3 from rfl, up_eq, upd_s]
            rcases hi3 with h | h | h <;> subst h <;> rfl
        · rw [← g2 u hu j (by omega)]
          rcases hu3 with h | h | h <;> subst h
          · rw [f3, up_ne (by omega), f2, up_ne (by omega), f1, show 1 + (6 + 4 * m) + (1 + 0) = 1 + (6 + 4 * m) + 1 from rfl, up_eq, upd_n ej]
          · rw [f3, up_ne (by omega), f2, show 1 + (6 + 4 * m) + (1 + 1) = 1 + (6 + 4 * m) + 2 from rfl, up_eq, upd_n ej, f1, up_ne (by omega)]
          · rw [f3, show 1 + (6 + 4 * m) + (1 + 2) = 1 + (6 + 4 * m) + 3 from rfl, up_eq, upd_n ej, f2, up_ne (by omega), f1, up_ne (by omega)]
  exact key 3 0 rfl I9 0 rfl (fun _ _ => rfl) (fun u hu j hj => absurd hj (by omega))
theorem vx_adr {I' : gx_M} (hx : vx I f hs n sn ha tx tl re) (hm : m < 8) (h1 : p1 &&& 1 = p1) (z : ∀ a, a ≠ 1 → (a < 1 + (6 + 4 * m) ∨ 1 + (6 + 4 * m) + 4 ≤ a) → I' a = I a) (z1 : ∀ q, q ≠ 3 → I' 1 q = I 1 q) (z3 : I' 1 3 = nI (m + 1)) (b1 : ∀ q, q < 9 → I' (1 + (6 + 4 * m)) q = ngv p0 p1 p2 p3 q) (b2 : ∀ u, u < 3 → ∀ i, i < 3 → I' (1 + (6 + 4 * m) + (1 + u)) i = ngv p0 p1 p2 p3 (9 + 3 * i + u)) : vx I' (adr f m p0 p1 p2 p3) hs n sn ha tx tl re := by
  refine ⟨fl_all (fun o ho => ?_) ?_ (fun r hr q hq => ?_) (fun r hr k hk u hu => ?_) (fun r hr q hq => ?_) (fun j hj => ?_) (fun j hj => ?_), hx.2.fr (fun a ha => z a (by omega) (by omega)) (by rw [z 269 (by decide) (by omega)])⟩
  · by_cases h0 : o = 0
    · subst h0; exact z3
    · rw [adr_out h0 (by omega), ← hx.1 o (by omega)]
      have : o = 1 ∨ o = 2 ∨ o = 3 ∨ o = 4 ∨ o = 5 ∨ o = 6 ∨ o = 7 ∨ o = 8 := by omega
      rcases this with h | h | h | h | h | h | h | h <;> subst h
      · exact z1 5 (by decide)
      · exact z1 6 (by decide)
      · exact z1 4 (by decide)
      · show I' 3 1 = I 3 1
        rw [z 3 (by decide) (by omega)]
      · exact z1 7 (by decide)
      · exact z1 8 (by decide)
      · exact z1 9 (by decide)
      · show I' 5 1 = I 5 1
        rw [z 5 (by decide) (by omega)]
  · rw [adr_out (by decide) (by omega), ← hx.1 9 (by decide)]; rfl
  · by_cases e : r = m
    · subst e
      rw [fl_r hr hq, adr_in (by omega), b1 q hq]
      split
      · rename_i h
        rcases h with h | h
        · subst h; exact h1
        · subst h
          show (0 : Int32) &&& 1 = 0
          rfl
      · rfl
    · rw [adr_out (by omega) (by omega), ← hx.1 _ (by omega), fl_r hr hq, fl_r hr hq, z _ (by omega) (by omega)]
  · by_cases e : r = m
    · subst e
      rw [fl_g hr hk hu, adr_in (by omega), ← b2 u hu k hk, show 1 + (7 + 4 * r + u) = 1 + (6 + 4 * r) + (1 + u) by omega]
    · rw [adr_out (by omega) (by omega), ← hx.1 _ (by omega), fl_g hr hk hu, fl_g hr hk hu, z _ (by omega) (by omega)]
  · rw [fl_d hr hq]
    by_cases e : r = m
    · subst e
      rw [adr_in (by omega)]
      have : q = 0 ∨ q = 1 := by omega
      rcases this with h | h <;> subst h <;> rfl
    · rw [adr_out (by omega) (by omega), ← hx.1 _ (by omega), fl_d hr hq]
  · rw [adr_out (by omega) (by omega), ← hx.1 _ (by omega), fl_j hj, fl_j hj, z _ (by decide) (by omega)]
  · rw [adr_out (by omega) (by omega), ← hx.1 _ (by omega), fl_c hj, fl_c hj, z _ (by decide) (by omega)]
theorem s8_adr {Q : Int32 → gx_MM → Prop} {v5 : Int32} (hm : vm J (upd f 0 (nI (m + 1))) hs n sn ha tx tl re) (hm8 : m < 8) (h5 : v5 = nI m) (h1 : p1 = 0 ∨ p1 = 1) (hQ : ∀ J' : gx_MM, vm J' (adr f m p0 p1 p2 p3) hs n sn ha tx tl re → Q (nI m) J') : ∃ fu, wl_X8_addRosette_100 Q fu 0 p0 p1 p2 p3 v5 (0 : Int32) J := by
  have gain : ∀ (d i : Nat), i + d = 3 → ∀ (J2 : gx_MM) (v6 : Int32), v6 = nI i → vm J2 (fun o => if o = 0 then nI (m + 1) else if 10 + 20 * m ≤ o ∧ o < 30 + 20 * m then (if o - (10 + 20 * m) = 0 then p0 else if o - (10 + 20 * m) = 1 then p1 else if o - (10 + 20 * m) = 2 then p2 else if o - (10 + 20 * m) = 3 then p3 else if (o - (10 + 20 * m) = 11 ∧ 0 < i) ∨ (o - (10 + 20 * m) = 14 ∧ 1 < i) ∨ (o - (10 + 20 * m) = 17 ∧ 2 < i) then 1000 else 0) else f o) hs n sn ha tx tl re → wl_X8_addRosette_166 Q (d + 1) 0 v5 v6 J2 := by
    intro d
    induction d with
    | zero =>
      intro i hi J2 v6 e6 h2
      have hi : i = 3 := by omega
      subst hi
      rw [wl_X8_addRosette_166]
      have h3 : vm J2 (adr f m p0 p1 p2 p3) hs n sn ha tx tl re := h2.cg fun o ho => by
        unfold adr ngv
        simp
      exact ⟨fun _ => by rw [h5]; exact hQ J2 h3, fun h => absurd ((n_le (a := 3) rfl e6).mpr (by omega)) h⟩
    | succ d ih =>
      intro i hi J2 v6 e6 h2
      rw [wl_X8_addRosette_166]
      refine ⟨fun h => absurd ((n_le (a := 3) rfl e6).mp h) (by omega), fun _ => s8_putG h2 h5 (k := i) (w := 2) e6 rfl (by omega) fun J3 h3 _ x ex => ih (i + 1) (by omega) J3 x (by rw [ex]; exact n_add e6 rfl) (h3.cg fun o ho => ?_)⟩
      by_cases e : o = 10 + 20 * m + (9 + 3 * i + 2)
      · subst e
        rw [upd_s, if_neg (by omega), if_pos (by omega), if_neg (by omega), if_neg (by omega), if_neg (by omega), if_neg (by omega), if_pos (by omega)]
      · rw [upd_n e]
        by_cases c0 : o = 0
        · rw [if_pos c0, if_pos c0]
        rw [if_neg c0, if_neg c0]
        by_cases c1 : 10 + 20 * m ≤ o ∧ o < 30 + 20 * m
        · rw [if_pos c1, if_pos c1]
          by_cases c2 : (o - (10 + 20 * m) = 11 ∧ 0 < i) ∨ (o - (10 + 20 * m) = 14 ∧ 1 < i) ∨ (o - (10 + 20 * m) = 17 ∧ 2 < i)
          · rw [if_pos c2, if_pos (show (o - (10 + 20 * m) = 11 ∧ 0 < i + 1) ∨ (o - (10 + 20 * m) = 14 ∧ 1 < i + 1) ∨ (o - (10 + 20 * m) = 17 ∧ 2 < i + 1) by omega)]
          · rw [if_neg c2, if_neg (show ¬ ((o - (10 + 20 * m) = 11 ∧ 0 < i + 1) ∨ (o - (10 + 20 * m) = 14 ∧ 1 < i + 1) ∨ (o - (10 + 20 * m) = 17 ∧ 2 < i + 1)) by omega)]
        · rw [if_neg c1, if_neg c1]
  have zero : ∀ (d i : Nat), i + d = 20 → ∀ (J2 : gx_MM) (v6 : Int32), v6 = nI i → vm J2 (fun o => if o = 0 then nI (m + 1) else if 10 + 20 * m ≤ o ∧ o < 10 + 20 * m + i then 0 else f o) hs n sn ha tx tl re → wl_X8_addRosette_100 Q (d + 1) 0 p0 p1 p2 p3 v5 v6 J2 := by
    intro d
    induction d with
    | zero =>
      intro i hi J2 v6 e6 h2
      have hi : i = 20 := by omega
      subst hi
      rw [wl_X8_addRosette_100]
      refine ⟨fun _ => s8_put h2 h5 (q := 0) rfl (by omega) fun J3 h3 _ => ?_, fun h => absurd ((n_le (a := 20) rfl e6).mpr (by omega)) h⟩
      have fin : ∀ u : Int32, u = p1 → wj_X8_addRosette_143 Q 0 p2 p3 v5 u (1 : Int32) v5 0 J3 := by
        intro u hu
        unfold wj_X8_addRosette_143
        refine s8_put h3 h5 (q := 1) rfl (by omega) fun J4 h4 _ => s8_put h4 h5 (q := 2) rfl (by omega) fun J5 h5b _ => s8_put h5b h5 (q := 3) rfl (by omega) fun J6 h6 _ => ⟨3 + 1, gain 3 0 rfl J6 0 rfl (h6.cg fun o ho => ?_)⟩
        rw [hu]
        by_cases c0 : o = 0
        · rw [if_pos c0, upd_n (by omega), upd_n (by omega), upd_n (by omega), upd_n (by omega), if_pos c0]
        rw [if_neg c0]
        by_cases c1 : 10 + 20 * m ≤ o ∧ o < 30 + 20 * m
        · rw [if_pos c1]
          by_cases q0 : o - (10 + 20 * m) = 0
          · rw [if_pos q0, upd_n (by omega), upd_n (by omega), upd_n (by omega), show o = 10 + 20 * m + 0 by omega, upd_s]
          rw [if_neg q0]
          by_cases q1 : o - (10 + 20 * m) = 1
          · rw [if_pos q1, upd_n (by omega), upd_n (by omega), show o = 10 + 20 * m + 1 by omega, upd_s]
          rw [if_neg q1]
          by_cases q2 : o - (10 + 20 * m) = 2
          · rw [if_pos q2, upd_n (by omega), show o = 10 + 20 * m + 2 by omega, upd_s]
          rw [if_neg q2]
          by_cases q3 : o - (10 + 20 * m) = 3
          · rw [if_pos q3, show o = 10 + 20 * m + 3 by omega, upd_s]
          rw [if_neg q3, if_neg (by omega), upd_n (by omega), upd_n (by omega), upd_n (by omega), upd_n (by omega), if_neg c0, if_pos (by omega)]
        · rw [if_neg c1, upd_n (by omega), upd_n (by omega), upd_n (by omega), upd_n (by omega), if_neg c0, if_neg (by omega)]
      exact ⟨fun c => fin 0 c.symm, fun c => fin 1 (h1.resolve_left c).symm⟩
    | succ d ih =>
      intro i hi J2 v6 e6 h2
      rw [wl_X8_addRosette_100]
      refine ⟨fun h => absurd ((n_le (a := 20) rfl e6).mp h) (by omega), fun _ => s8_put h2 h5 (q := i) e6 (by omega) fun J3 h3 _ x ex => ih (i + 1) (by omega) J3 x (by rw [ex]; exact n_add e6 rfl) (h3.cg fun o ho => ?_)⟩
      by_cases e : o = 10 + 20 * m + i
      · subst e
        rw [upd_s, if_neg (by omega), if_pos (by omega)]
      · rw [upd_n e]
        by_cases c0 : o = 0
        · rw [if_pos c0, if_pos c0]
        rw [if_neg c0, if_neg c0]
        by_cases c1 : 10 + 20 * m ≤ o ∧ o < 10 + 20 * m + i
        · rw [if_pos c1, if_pos (by omega)]
        · rw [if_neg c1, if_neg (by omega)]
  refine ⟨20 + 1, zero 20 0 rfl J 0 rfl (hm.cg fun o ho => ?_)⟩
  by_cases c0 : o = 0
  · rw [if_pos c0, c0, upd_s]
  · rw [if_neg c0, if_neg (by omega), upd_n c0]
end AX
theorem st_addRosette : ∀ (I : gx_M) (J : gx_MM) (p0 p1 p2 p3 : Int32), gv_Inv I J → (p1 = 0 ∨ p1 = 1) → wp_X7_addRosette 0 p0 p1 p2 p3 I (fun r I1 => wp_X8_addRosette 0 p0 p1 p2 p3 J (fun r2 J1 => r = r2 ∧ gv_Inv I1 J1)) := by
  intro I J p0 p1 p2 p3 hI h01
  obtain ⟨f, hs, n, sn, ha, tx, tl, re, hx, hm, gf, gh, gs⟩ := id hI
  obtain ⟨m, w, k, hg⟩ := id gf
  have hm8 := hg.2.1
  have hpp : p1 &&& 1 = p1 := by rcases h01 with h | h <;> rw [h] <;> rfl
  have b0 : J.1 (0 + 1) (0 : Int32).toNatClampNeg = nI m := hm.mo hg
  -- the place is bad
  have badp : ¬ ((0 : Int32) ≤ p0 ∧ p0 ≤ 1000) → wp_X8_addRosette 0 p0 p1 p2 p3 J (fun r2 J1 => (-1000002 : Int32) = r2 ∧ gv_Inv I J1) := by
    intro h
    unfold wp_X8_addRosette
    exact s8_w (fun q1 q2 => absurd ⟨q1, q2⟩ h) (fun _ => ⟨fun _ => ⟨rfl, hI⟩, fun h => absurd rfl h⟩)
  -- what the reference does when the place and the resistance are good
  have good2 : (0 : Int32) ≤ p0 → p0 ≤ 1000 → (p2 = 120 ∨ p2 = 350) → ∀ Q : Int32 → gx_MM → Prop, wj_X8_addRosette_24 Q 0 p0 p1 p2 p3 J → wp_X8_addRosette 0 p0 p1 p2 p3 J Q := by
    intro c1 c2 h2 Q h
    unfold wp_X8_addRosette
    exact s8_w (fun _ _ => ⟨fun h => absurd h (by decide), fun _ => ⟨fun _ => h, fun e => ⟨fun _ => h, fun e2 => absurd (h2.resolve_left e) e2⟩⟩⟩) (fun d => absurd ⟨c1, c2⟩ d)
  have main : (p2 = 120 ∨ p2 = 350) → wj_X7_addRosette_13 (fun r I1 => wp_X8_addRosette 0 p0 p1 p2 p3 J (fun r2 J1 => r = r2 ∧ gv_Inv I1 J1)) 0 p0 p1 p2 p3 I := by
    intro h2
    unfold wj_X7_addRosette_13 wj_X7_addRosette_18
    refine s7_w (fun c1 c2 => ⟨fun h => absurd h (by decide), fun _ => ⟨fun h => absurd h (by decide), fun _ => ?_⟩⟩) (fun c => ⟨fun _ => badp c, fun h => absurd rfl h⟩)
    refine s7_w (fun d1 d2 => ⟨fun h => absurd h (by decide), fun _ x ex => ?_⟩) (fun d => ⟨fun _ => good2 c1 c2 h2 _ ?_, fun h => absurd rfl h⟩)
    · have ex : x = nI m := by rw [ex]; exact hx.mo hg
      obtain ⟨a, ha1, ea⟩ := n_ofle (m := 1000) (n := 1000) (x := p0) rfl (by decide) (i_nlt.mpr c1) c2
      obtain ⟨c, hc1, ec⟩ := n_ofle (m := 240) (n := 240) (x := p3) rfl (by decide) (fun q => absurd (Int32.lt_of_le_of_lt d1 q) (by decide)) d2
      have hc180 : 180 ≤ c := (n_le (a := 180) rfl ec).mp d1
      refine ⟨fun h => absurd h (n_neg ex), fun _ => ⟨fun h8 => ?_, fun h8 I1 e1 => good2 c1 c2 h2 _ ?_⟩⟩
      · have hmlt : m < 8 := (n_lt (b := 8) ex rfl).mp h8
        have hne8 : ¬ J.1 (0 + 1) (0 : Int32).toNatClampNeg = 8 := fun q => by
          have := (n_eq (b := 8) b0 rfl).mp q
          omega
        refine s6_has hx hg (fun r hr he => ⟨fun h => absurd h (by decide), fun _ I1 e1 => good2 c1 c2 h2 _ ?_⟩) (fun hno => ⟨fun _ => s0_add hx fun I1 hx1 z1 => ⟨ix_of (N := 8) ex hmlt, ?_⟩, fun h => absurd rfl h⟩)
        · refine s8_w (fun _ _ => ⟨fun h => absurd h (by decide), fun _ => ⟨ix_of (n := 0) (N := 298) rfl (by decide), fun h => absurd h hne8, fun _ => s8_isAt hm hg (fun r2 hr2 _ => ⟨fun q => ?_, fun _ J1 f1 => ?_⟩) (fun hno => absurd he (hno r hr))⟩⟩) (fun d => absurd ⟨d1, d2⟩ d)
          · exact absurd (by rw [q]; decide : nI r2 < 0) (n_neg rfl (by omega))
          · exact ⟨rfl, f, hs, n, sn, ha, tx, tl, 6, by rw [e1]; exact hx.re, by rw [f1]; exact hm.re, gf, gh, gs⟩
        · rw [cl_of ex, show 0 + 1 + 1 + 5 + 4 * m = 1 + (6 + 4 * m) by omega]
          refine s4_begin hmlt hpp fun I2 y1 y2 y3 I3 e3 => ?_
          have e23 : I2 (0 + 1) 3 = nI m := by show I2 1 3 = _; rw [y1 1 (by omega)]; exact hx1.mo hg
          have hx3 : vx I3 (adr f m p0 p1 p2 p3) (psh hs n f) (psn n) sn ha tx tl re := by
            refine vx_adr hx1 hmlt hpp (fun a h1 h => by rw [e3, up_ne h1, y1 a h]) (fun q hq => ?_) ?_ (fun q hq => ?_) (fun u hu i hi => ?_)
            · rw [e3, up_eq, upd_n hq, y1 1 (by omega)]
            · rw [e3, up_eq, upd_s]; exact n_add e23 rfl
            · rw [e3, up_ne (by omega)]; exact y2 q hq
            · rw [e3, up_ne (by omega)]; exact y3 u hu i hi
          refine good2 c1 c2 h2 _ ?_
          refine s8_w (fun _ _ => ⟨fun h => absurd h (by decide), fun _ => ⟨ix_of (n := 0) (N := 298) rfl (by decide), fun h => absurd h hne8, fun _ => s8_isAt hm hg (fun r2 hr2 he => absurd he (hno r2 hr2)) (fun _ => ⟨fun _ => s8_save hm fun J1 hm1 _ => ⟨ix_of (n := 0) (N := 298) rfl (by decide), fun y ey => ⟨ix_of (n := 0) (N := 298) rfl (by decide), ix_of (n := 0) (N := 298) rfl (by decide), fun J2 f2 => ?_⟩⟩, fun h => absurd rfl h⟩)⟩⟩) (fun d => absurd ⟨d1, d2⟩ d)
          have b1 : J1.1 (0 + 1) (0 : Int32).toNatClampNeg = nI m := hm1.mo hg
          rw [b1] at ey f2
          have f2 : J2 = um J1 1 0 (nI (m + 1)) := by rw [f2, show nI m + (1 : Int32) = nI (m + 1) from n_add rfl rfl]; rfl
          refine s8_adr (f := f) (m := m) (by rw [f2]; exact hm1.put) hmlt ey h01 fun J3 hm3 => ⟨ex, _, _, _, sn, ha, tx, tl, re, hx3, hm3, ⟨m + 1, w, k, gd_adr hg hmlt ⟨a, ea, ha1⟩ h01 h2 ⟨c, ec, hc180, hc1⟩⟩, psh_good hx.2.2.1 gh gf, gs⟩
      · have hm88 : m = 8 := by
          have : ¬ m < 8 := fun q => h8 ((n_lt (b := 8) ex rfl).mpr q)
          omega
        refine s8_w (fun _ _ => ⟨fun h => absurd h (by decide), fun _ => ⟨ix_of (n := 0) (N := 298) rfl (by decide), fun _ J1 f1 => ?_, fun h => absurd (by rw [b0, hm88]; rfl) h⟩⟩) (fun d => absurd ⟨d1, d2⟩ d)
        exact ⟨rfl, f, hs, n, sn, ha, tx, tl, 1, by rw [e1]; exact hx.re, by rw [f1]; exact hm.re, gf, gh, gs⟩
    · exact s8_w (fun q1 q2 => absurd ⟨q1, q2⟩ d) (fun _ => ⟨fun _ => ⟨rfl, hI⟩, fun h => absurd rfl h⟩)
  unfold wp_X7_addRosette
  refine ⟨fun e => main (Or.inl e), fun e => ⟨fun e2 => main (Or.inr e2), fun e2 => ?_⟩⟩
  unfold wj_X7_addRosette_18
  refine s7_w (fun c1 c2 => ⟨fun h => absurd h (by decide), fun _ => ⟨fun _ => ?_, fun h => absurd rfl h⟩⟩) (fun c => ⟨fun _ => badp c, fun h => absurd rfl h⟩)
  unfold wp_X8_addRosette
  exact s8_w (fun _ _ => ⟨fun h => absurd h (by decide), fun _ => ⟨fun h => absurd h e, fun _ => ⟨fun h => absurd h e2, fun _ => ⟨rfl, hI⟩⟩⟩⟩) (fun d => absurd ⟨c1, c2⟩ d)
