/-! a rosette is added -/
def ngv (p0 p1 p2 p3 : Int32) (q : Nat) : Int32 := if q = 0 then p0 else if q = 1 then p1 else if q = 2 then p2 else if q = 3 then p3 else if q = 11 ∨ q = 14 ∨ q = 17 then 1000 else 0
def adr (f : Nat → Int32) (m : Nat) (p0 p1 p2 p3 : Int32) : Nat → Int32 := fun o => if o = 0 then nI (m + 1) else if 10 + 20 * m ≤ o ∧ o < 30 + 20 * m then ngv p0 p1 p2 p3 (o - (10 + 20 * m)) else f o
theorem adr_in {f : Nat → Int32} {m q : Nat} {p0 p1 p2 p3 : Int32} (hq : q < 20) : adr f m p0 p1 p2 p3 (10 + 20 * m + q) = ngv p0 p1 p2 p3 q := by
  unfold adr
  rw [if_neg (by omega), if_pos (by omega), show 10 + 20 * m + q - (10 + 20 * m) = q by omega]
theorem adr_out {f : Nat → Int32} {m o : Nat} {p0 p1 p2 p3 : Int32} (h0 : o ≠ 0) (h : ¬ (10 + 20 * m ≤ o ∧ o < 30 + 20 * m)) : adr f m p0 p1 p2 p3 o = f o := by
  unfold adr
  rw [if_neg h0, if_neg h]
section AX
variable {I : gx_M} {f g : Nat → Int32} {hs : Nat → Nat → Int32} {n : Nat} {sn : Nat → Int32} {ha : Nat} {tx : Nat → Int32} {tl : Nat} {re : Int32} {m w k : Nat} {p p0 p1 p2 p3 : Int32}
theorem s6_has {Q : Int32 → gx_M → Prop} (hx : vx I f hs n sn ha tx tl re) (hg : gd f m w k) (h1 : ∀ r, r < m → f (10 + 20 * r + 0) = p → Q 1 I) (h2 : (∀ r, r < m → ¬ f (10 + 20 * r + 0) = p) → Q 0 I) : wp_X6_hasRosetteAt 1 p I Q := by
  have hm8 := hg.2.1
  have key : ∀ (d i : Nat), i + d = m → ∀ v : Int32, v = nI i → (∀ r, r < i → ¬ f (10 + 20 * r + 0) = p) → wl_X6_hasRosetteAt_2 Q (d + 1) 1 p v I := by
    intro d
    induction d with
    | zero =>
      intro i hi v hv g
      rw [wl_X6_hasRosetteAt_2]
      refine ⟨fun _ => h2 fun r hr => g r (by omega), fun h => absurd ((n_le (hx.mo hg) hv).mpr (by omega)) h⟩
    | succ d ih =>
      intro i hi v hv g
      rw [wl_X6_hasRosetteAt_2]
      refine ⟨fun h => absurd ((n_le (hx.mo hg) hv).mp h) (by omega), fun _ => s6_place hx hg (by omega) hv ⟨fun c => h1 i (by omega) c, fun c x ex => ih (i + 1) (by omega) x (by rw [ex]; exact n_add hv rfl) fun r hr => ?_⟩⟩
      by_cases e : r = i
      · rw [e]; exact c
      · exact g r (by omega)
  exact ⟨m + 1, key m 0 (by omega) 0 rfl (fun r hr => absurd hr (by omega))⟩
theorem gd_adr (hg : gd f m w k) (hm : m < 8) (h0 : ∃ a, p0 = nI a ∧ a ≤ 1000) (h1 : p1 = 0 ∨ p1 = 1) (h2 : p2 = 120 ∨ p2 = 350) (h3 : ∃ c, p3 = nI c ∧ 180 ≤ c ∧ c ≤ 240) : gd (adr f m p0 p1 p2 p3) (m + 1) w k := by
  obtain ⟨a1, a2, a3, a4, a5, a6, a7, a8, a9, a10⟩ := hg
  have lo : ∀ o, o ≠ 0 → o < 10 → adr f m p0 p1 p2 p3 o = f o := fun o h h2 => adr_out h (by omega)
  have hi : ∀ o, 170 ≤ o → adr f m p0 p1 p2 p3 o = f o := fun o h => adr_out (by omega) (by omega)
  refine ⟨rfl, by omega, by rw [lo 4 (by decide) (by decide)]; exact a3, a4, by rw [lo 8 (by decide) (by decide)]; exact a5, a6, by rw [lo 3 (by decide) (by decide)]; exact a7, by rw [lo 1 (by decide) (by decide)]; exact a8, fun r hr => ?_, fun j hj => ?_⟩
  · by_cases e : r = m
    · subst e
      refine ⟨by rw [adr_in (by decide)]; exact h0, ?_, ?_, by rw [adr_in (by decide)]; exact h3, by rw [adr_in (by decide)]; exact ⟨0, rfl, by decide⟩, fun q hq => ?_, by rw [adr_in (by decide)]; exact ⟨0, rfl, by decide⟩, fun k hk => ?_⟩
      · rw [adr_in (by decide)]
        rcases h1 with h | h
        · exact ⟨0, h, by decide⟩
        · exact ⟨1, h, by decide⟩
      · rw [adr_in (by decide)]
        exact h2
      · rw [adr_in (by omega)]
        have : q = 0 ∨ q = 1 ∨ q = 2 := by omega
        rcases this with h | h | h <;> subst h <;> exact (⟨by decide, by decide⟩ : -5000 ≤ (0 : Int32).toInt ∧ (0 : Int32).toInt ≤ 5000)
      · rw [adr_in (by omega), adr_in (by omega), adr_in (by omega)]
        have : k = 0 ∨ k = 1 ∨ k = 2 := by omega
        rcases this with h | h | h <;> subst h <;> exact (⟨⟨by decide, by decide⟩, ⟨by decide, by decide⟩, by decide, by decide⟩ : (-9999 ≤ (0 : Int32).toInt ∧ (0 : Int32).toInt ≤ 9999) ∧ (-15000 ≤ (0 : Int32).toInt ∧ (0 : Int32).toInt ≤ 15000) ∧ (-17199000 ≤ (1000 : Int32).toInt ∧ (1000 : Int32).toInt ≤ 17199000))
    · obtain ⟨g1, g2, g3, g4, g5, g6, g7, g8⟩ := a9 r (by omega)
      have ee : ∀ q, q < 18 → adr f m p0 p1 p2 p3 (10 + 20 * r + q) = f (10 + 20 * r + q) := fun q hq => adr_out (by omega) (by omega)
      refine ⟨by rw [ee 0 (by decide)]; exact g1, by rw [ee 1 (by decide)]; exact g2, by rw [ee 2 (by decide)]; exact g3, by rw [ee 3 (by decide)]; exact g4, by rw [ee 4 (by decide)]; exact g5, fun q hq => by rw [ee (5 + q) (by omega)]; exact g6 q hq, by rw [ee 8 (by decide)]; exact g7, fun k hk => ?_⟩
      rw [ee (9 + 3 * k + 0) (by omega), ee (9 + 3 * k + 1) (by omega), ee (9 + 3 * k + 2) (by omega)]
      exact g8 k hk
  · unfold gj
    rw [hi _ (by omega), hi _ (by omega), hi _ (by omega)]
    obtain ⟨c1, ⟨r, c2, c3⟩, c4⟩ := a10 j hj
    exact ⟨c1, ⟨r, c2, by omega⟩, c4⟩
theorem s4_begin {Q : gx_M → Prop} (hm : m < 8) (h1 : p1 &&& 1 = p1) (hQ : ∀ I' : gx_M, (∀ a, (a < 1 + (6 + 4 * m) ∨ 1 + (6 + 4 * m) + 4 ≤ a) → I' a = I a) → (∀ q, q < 9 → I' (1 + (6 + 4 * m)) q = ngv p0 p1 p2 p3 q) → (∀ u, u < 3 → ∀ i, i < 3 → I' (1 + (6 + 4 * m) + (1 + u)) i = ngv p0 p1 p2 p3 (9 + 3 * i + u)) → Q I') : wp_X4_begin (1 + (6 + 4 * m)) p0 p1 p2 p3 I Q := by
  obtain ⟨n1, n2, n3⟩ := nX_ros hm
  unfold wp_X4_begin
  intro I1 e1
  refine ⟨h1, fun I2 e2 I3 e3 I4 e4 I5 e5 I6 e6 I7 e7 I8 e8 I9 e9 => ⟨3 + 1, ?_⟩⟩
  have z9 : ∀ a, a ≠ 1 + (6 + 4 * m) → I9 a = I a := fun a h => by rw [e9, up_ne h, e8, up_ne h, e7, up_ne h, e6, up_ne h, e5, up_ne h, e4, up_ne h, e3, up_ne h, e2, up_ne h, e1, up_ne h]
  have v9 : ∀ q, q < 9 → I9 (1 + (6 + 4 * m)) q = ngv p0 p1 p2 p3 q := by
    intro q hq
    have : q = 0 ∨ q = 1 ∨ q = 2 ∨ q = 3 ∨ q = 4 ∨ q = 5 ∨ q = 6 ∨ q = 7 ∨ q = 8 := by omega
    rw [e9, up_eq, e8, up_eq, e7, up_eq, e6, up_eq, e5, up_eq, e4, up_eq, e3, up_eq, e2, up_eq, e1, up_eq]
    rcases this with h | h | h | h | h | h | h | h | h <;> subst h <;> rfl
  have key : ∀ (d i : Nat), i + d = 3 → ∀ (I2 : gx_M) (v : Int32), v = nI i → (∀ a, (a ≤ 1 + (6 + 4 * m) ∨ 1 + (6 + 4 * m) + 4 ≤ a) → I2 a = I9 a) → (∀ u, u < 3 → ∀ j, j < i → I2 (1 + (6 + 4 * m) + (1 + u)) j = ngv p0 p1 p2 p3 (9 + 3 * j + u)) → wl_X4_begin_49 Q (d + 1) (1 + (6 + 4 * m)) v I2 := by
    intro d
    induction d with
    | zero =>
      intro i hi I2 v hv g1 g2
      have hi : i = 3 := by omega
      subst hi
      rw [wl_X4_begin_49]
      refine ⟨fun _ => hQ I2 (fun a ha => by rw [g1 a (by omega), z9 a (by omega)]) (fun q hq => by rw [g1 _ (by omega)]; exact v9 q hq) g2, fun h => absurd ((n_le (a := 3) rfl hv).mpr (by omega)) h⟩
    | succ d ih =>
      intro i hi I2 v hv g1 g2
      have hin : vp_in v 3 := ix_of hv (by omega)
      rw [wl_X4_begin_49]
      rw [n1, n2, n3, cl_of hv]
      refine ⟨fun h => absurd ((n_le (a := 3) rfl hv).mp h) (by omega), fun _ => ⟨hin, fun J1 f1 => ⟨hin, fun J2 f2 => ⟨hin, fun J3 f3 x ex => ih (i + 1) (by omega) J3 x (by rw [ex]; exact n_add hv rfl) (fun a ha => ?_) (fun u hu j hj => ?_)⟩⟩⟩⟩
      · rw [f3, up_ne (by omega), f2, up_ne (by omega), f1, up_ne (by omega), g1 a ha]
      · have hi3 : i = 0 ∨ i = 1 ∨ i = 2 := by omega
        have hu3 : u = 0 ∨ u = 1 ∨ u = 2 := by omega
        by_cases ej : j = i
        · subst ej
          rcases hu3 with h | h | h <;> subst h
          · rw [f3, up_ne (by omega), f2, up_ne (by omega), f1, show 1 + (6 + 4 * m) + (1 + 0) = 1 + (6 + 4 * m) + 1 from rfl, up_eq, upd_s]
            rcases hi3 with h | h | h <;> subst h <;> rfl
          · rw [f3, up_ne (by omega), f2, show 1 + (6 + 4 * m) + (1 + 1) = 1 + (6 + 4 * m) + 2 from rfl, up_eq, upd_s]
            rcases hi3 with h | h | h <;> subst h <;> rfl
          · rw [f3, show 1 + (6 + 4 * m) + (1 + 2) = 1 + (6 + 4 * m) + 3 from rfl, up_eq, upd_s]
            rcases hi3 with h | h | h <;> subst h <;> rfl
        · rw [← g2 u hu j (by omega)]
          rcases hu3 with h | h | h <;> subst h
          · rw [f3, up_ne (by omega), f2, up_ne (by omega), f1, show 1 + (6 + 4 * m) + (1 + 0) = 1 + (6 + 4 * m) + 1 from rfl, up_eq, upd_n ej]
          · rw [f3, up_ne (by omega), f2, show 1 + (6 + 4 * m) + (1 + 1) = 1 + (6 + 4 * m) + 2 from rfl, up_eq, upd_n ej, f1, up_ne (by omega)]
          · rw [f3, show 1 + (6 + 4 * m) + (1 + 2) = 1 + (6 + 4 * m) + 3 from rfl, up_eq, upd_n ej, f2, up_ne (by omega), f1, up_ne (by omega)]
  exact key 3 0 rfl I9 0 rfl (fun _ _ => rfl) (fun u hu j hj => absurd hj (by omega))
theorem vx_adr {I' : gx_M} (hx : vx I f hs n sn ha tx tl re) (hm : m < 8) (h1 : p1 &&& 1 = p1) (z : ∀ a, a ≠ 1 → (a < 1 + (6 + 4 * m) ∨ 1 + (6 + 4 * m) + 4 ≤ a) → I' a = I a) (z1 : ∀ q, q ≠ 3 → I' 1 q = I 1 q) (z3 : I' 1 3 = nI (m + 1)) (b1 : ∀ q, q < 9 → I' (1 + (6 + 4 * m)) q = ngv p0 p1 p2 p3 q) (b2 : ∀ u, u < 3 → ∀ i, i < 3 → I' (1 + (6 + 4 * m) + (1 + u)) i = ngv p0 p1 p2 p3 (9 + 3 * i + u)) : vx I' (adr f m p0 p1 p2 p3) hs n sn ha tx tl re := by
  refine ⟨fl_all (fun o ho => ?_) ?_ (fun r hr q hq => ?_) (fun r hr k hk u hu => ?_) (fun r hr q hq => ?_) (fun j hj => ?_) (fun j hj => ?_), hx.2.fr (fun a ha => z a (by omega) (by omega)) (by rw [z 269 (by decide) (by omega)])⟩
  · by_cases h0 : o = 0
    · subst h0; exact z3
    · rw [adr_out h0 (by omega), ← hx.1 o (by omega)]
      have : o = 1 ∨ o = 2 ∨ o = 3 ∨ o = 4 ∨ o = 5 ∨ o = 6 ∨ o = 7 ∨ o = 8 := by omega
      rcases this with h | h | h | h | h | h | h | h <;> subst h
      · exact z1 5 (by decide)
      · exact z1 6 (by decide)
      · exact z1 4 (by decide)
      · show I' 3 1 = I 3 1
        rw [z 3 (by decide) (by omega)]
      · exact z1 7 (by decide)
      · exact z1 8 (by decide)
      · exact z1 9 (by decide)
      · show I' 5 1 = I 5 1
        rw [z 5 (by decide) (by omega)]
  · rw [adr_out (by decide) (by omega), ← hx.1 9 (by decide)]; rfl
  · by_cases e : r = m
    · subst e
      rw [fl_r hr hq, adr_in (by omega), b1 q hq]
      split
      · rename_i h
        rcases h with h | h
        · subst h; exact h1
        · subst h
          show (0 : Int32) &&& 1 = 0
          rfl
      · rfl
    · rw [adr_out (by omega) (by omega), ← hx.1 _ (by omega), fl_r hr hq, fl_r hr hq, z _ (by omega) (by omega)]
  · by_cases e : r = m
    · subst e
      rw [fl_g hr hk hu, adr_in (by omega), ← b2 u hu k hk, show 1 + (7 + 4 * r + u) = 1 + (6 + 4 * r) + (1 + u) by omega]
    · rw [adr_out (by omega) (by omega), ← hx.1 _ (by omega), fl_g hr hk hu, fl_g hr hk hu, z _ (by omega) (by omega)]
  · rw [fl_d hr hq]
    by_cases e : r = m
    · subst e
      rw [adr_in (by omega)]
      have : q = 0 ∨ q = 1 := by omega
      rcases this with h | h <;> subst h <;> rfl
    · rw [adr_out (by omega) (by omega), ← hx.1 _ (by omega), fl_d hr hq]
  · rw [adr_out (by omega) (by omega), ← hx.1 _ (by omega), fl_j hj, fl_j hj, z _ (by decide) (by omega)]
  · rw [adr_out (by omega) (by omega), ← hx.1 _ (by omega), fl_c hj, fl_c hj, z _ (by decide) (by omega)]
end AX
