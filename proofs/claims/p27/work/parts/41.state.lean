/-! What the two stores hold: f a row of 298 numbers, hs n the history, sn ha the snapshot, tx tl the text, re the reason. -/
def vh (I : gx_M) (hs : Nat → Nat → Int32) (n : Nat) (sn : Nat → Int32) (ha : Nat) (tx : Nat → Int32) (tl : Nat) (re : Int32) : Prop :=
  I 77 1 = nI n ∧ n ≤ 5 ∧ (∀ i, i < 5 → ∃ c, c < 5 ∧ I 78 i = nI c) ∧ (∀ i j, i < 5 → j < 5 → I 78 i = I 78 j → i = j) ∧
  (∀ i, i < n → ∀ o, o < 298 → fl I (sd (I 78 i)) o = hs i o) ∧
  I 0 2 &&& 1 = nI ha ∧ ha ≤ 1 ∧ (ha = 1 → ∀ o, o < 298 → fl I 39 o = sn o) ∧ I 0 5 = re ∧ I 269 2 = nI tl ∧ tl ≤ 60 ∧ ∀ i, i < tl → I 270 i = tx i
def vx (I : gx_M) (f : Nat → Int32) (hs : Nat → Nat → Int32) (n : Nat) (sn : Nat → Int32) (ha : Nat) (tx : Nat → Int32) (tl : Nat) (re : Int32) : Prop :=
  (∀ o, o < 298 → fl I 1 o = f o) ∧ vh I hs n sn ha tx tl re
def gr (f : Nat → Int32) (r : Nat) : Prop :=
  (∃ p, f (10 + 20 * r + 0) = nI p ∧ p ≤ 1000) ∧ (∃ d, f (10 + 20 * r + 1) = nI d ∧ d ≤ 1) ∧ (f (10 + 20 * r + 2) = nI 120 ∨ f (10 + 20 * r + 2) = nI 350) ∧ (∃ c, f (10 + 20 * r + 3) = nI c ∧ 180 ≤ c ∧ c ≤ 240) ∧ (∃ l, f (10 + 20 * r + 4) = nI l ∧ l ≤ 20000) ∧
  (∀ q, q < 3 → -5000 ≤ (f (10 + 20 * r + (5 + q))).toInt ∧ (f (10 + 20 * r + (5 + q))).toInt ≤ 5000) ∧ (∃ s, f (10 + 20 * r + 8) = nI s ∧ s ≤ 1) ∧
  ∀ k, k < 3 → (-9999 ≤ (f (10 + 20 * r + (9 + 3 * k + 0))).toInt ∧ (f (10 + 20 * r + (9 + 3 * k + 0))).toInt ≤ 9999) ∧ (-15000 ≤ (f (10 + 20 * r + (9 + 3 * k + 1))).toInt ∧ (f (10 + 20 * r + (9 + 3 * k + 1))).toInt ≤ 15000) ∧ (-17199000 ≤ (f (10 + 20 * r + (9 + 3 * k + 2))).toInt ∧ (f (10 + 20 * r + (9 + 3 * k + 2))).toInt ≤ 17199000)
def gj (f : Nat → Int32) (m j : Nat) : Prop :=
  (∃ d, f (170 + (4 * j + 1)) = nI d ∧ d ≤ 2) ∧ (∃ r, f (170 + (4 * j + 2)) = nI r ∧ r < m) ∧ ∃ u, f (170 + (4 * j + 3)) = nI u ∧ u ≤ 9
def gd (f : Nat → Int32) (m w k : Nat) : Prop :=
  f 0 = nI m ∧ m ≤ 8 ∧ f 4 = nI w ∧ w ≤ 20 ∧ f 8 = nI k ∧ k ≤ 12 ∧ (∃ z, f 3 = nI z ∧ 20 ≤ z ∧ z ≤ 500) ∧ (∃ p, f 1 = nI p ∧ p ≤ 1000) ∧ (∀ r, r < m → gr f r) ∧ ∀ j, j < w → gj f m j
def good (f : Nat → Int32) : Prop := ∃ m w k, gd f m w k
/-- at the beginning -/
theorem fl_I0 : ∀ o, o < 298 → fl gx_I0 1 o = upd (fun _ => 0) 3 100 o := by
  refine fl_all (fun o ho => ?_) rfl (fun r hr q hq => ?_) (fun r hr k hk w hw => ?_) (fun r hr q hq => ?_) (fun j hj => ?_) (fun j hj => ?_)
  · have : o = 0 ∨ o = 1 ∨ o = 2 ∨ o = 3 ∨ o = 4 ∨ o = 5 ∨ o = 6 ∨ o = 7 ∨ o = 8 := by omega
    rcases this with rfl | rfl | rfl | rfl | rfl | rfl | rfl | rfl | rfl <;> decide +kernel
  · rw [fl_r hr hq, upd_n (by omega)]
    have hk : kX (1 + (6 + 4 * r)) = 4 := (show ∀ r, r < 8 → kX (1 + (6 + 4 * r)) = 4 by decide +kernel) r hr
    have e : gx_I0 (1 + (6 + 4 * r)) q = 0 := by unfold gx_I0; rw [hk]; rfl
    rw [e]
    split <;> rfl
  · rw [fl_g hr hk hw, upd_n (by omega)]
    have hk : kX (1 + (7 + 4 * r + w)) = 20 := (show ∀ r, r < 8 → ∀ w, w < 3 → kX (1 + (7 + 4 * r + w)) = 20 by decide +kernel) r hr w hw
    unfold gx_I0; rw [hk]; rfl
  · rw [fl_d hr hq, upd_n (by omega)]
  · rw [fl_j hj, upd_n (by omega)]
    unfold gx_I0; rw [show kX (1 + 3) = 20 by decide +kernel]; rfl
  · rw [fl_c hj, upd_n (by omega)]
    unfold gx_I0; rw [show kX (1 + 5) = 20 by decide +kernel]; rfl
/-! frames -/
theorem sd_nI {c : Nat} (h : c < 5) : sd (nI c) = 79 + 38 * c := by
  unfold sd
  rw [nI_clamp (by omega), Nat.min_eq_left (by omega)]
theorem sd_in (x : Int32) : 79 ≤ sd x ∧ sd x + 38 ≤ 269 := by
  unfold sd
  have := Nat.min_le_right x.toNatClampNeg 4
  omega
theorem vh.fr {I I' : gx_M} {hs : Nat → Nat → Int32} {n : Nat} {sn : Nat → Int32} {ha : Nat} {tx : Nat → Int32} {tl : Nat} {re : Int32} (h : vh I hs n sn ha tx tl re) (h0 : ∀ a, (a = 0 ∨ (39 ≤ a ∧ a ≤ 270 ∧ a ≠ 269)) → I' a = I a) (h1 : I' 269 2 = I 269 2) : vh I' hs n sn ha tx tl re := by
  obtain ⟨a1, a2, a3, a4, a5, a6, a7, a8, a9, a10, a11, a12⟩ := h
  have e78 : I' 78 = I 78 := h0 78 (by omega)
  refine ⟨by rw [h0 77 (by omega)]; exact a1, a2, by rw [e78]; exact a3, by rw [e78]; exact a4, fun i hi o ho => ?_, by rw [h0 0 (by omega)]; exact a6, a7, fun q o ho => ?_, by rw [h0 0 (by omega)]; exact a9, by rw [h1]; exact a10, a11, by rw [h0 270 (by omega)]; exact a12⟩
  · rw [e78, fl_same (fun a g1 g2 => h0 a ?_) ho]
    · exact a5 i hi o ho
    · have := sd_in (I 78 i)
      omega
  · rw [fl_same (fun a g1 g2 => h0 a (by omega)) ho]
    exact a8 q o ho
/-- a cell of the state is written -/
theorem vx.put {I : gx_M} {f : Nat → Int32} {hs : Nat → Nat → Int32} {n : Nat} {sn : Nat → Int32} {ha : Nat} {tx : Nat → Int32} {tl : Nat} {re : Int32} (h : vx I f hs n sn ha tx tl re) {a k o0 : Nat} {v : Int32} (h0 : o0 < 298) (hl : fl_lo o0 = (a, k)) (hd : fl_de o0 = false) : vx (up I (1 + a) k v) (upd f o0 (fl_nz o0 v)) hs n sn ha tx tl re := by
  have ha : a < 38 := by have := fl_lo_lt o0 h0; rw [hl] at this; exact this
  refine ⟨fun o ho => ?_, h.2.fr (fun b hb => up_ne (by omega)) (by rw [up_ne (by omega)])⟩
  rw [fl_up h0 hl hd ho]
  by_cases e : o = o0
  · rw [e, upd_s, upd_s]
  · rw [upd_n e, upd_n e, h.1 o ho]
/-- scratch is written -/
theorem vx.fr {I I' : gx_M} {f : Nat → Int32} {hs : Nat → Nat → Int32} {n : Nat} {sn : Nat → Int32} {ha : Nat} {tx : Nat → Int32} {tl : Nat} {re : Int32} (h : vx I f hs n sn ha tx tl re) (h0 : ∀ a, a ≤ 270 → a ≠ 269 → I' a = I a) (h1 : I' 269 2 = I 269 2) : vx I' f hs n sn ha tx tl re :=
  ⟨fun o ho => by rw [fl_same (fun a g1 g2 => h0 a (by omega) (by omega)) ho]; exact h.1 o ho, h.2.fr (fun a ha => h0 a (by omega) (by omega)) h1⟩
/-- the reason -/
theorem vx.re {I : gx_M} {f : Nat → Int32} {hs : Nat → Nat → Int32} {n : Nat} {sn : Nat → Int32} {ha : Nat} {tx : Nat → Int32} {tl : Nat} {re v : Int32} (h : vx I f hs n sn ha tx tl re) : vx (up I 0 5 v) f hs n sn ha tx tl v := by
  obtain ⟨a0, a1, a2, a3, a4, a5, a6, a7, a8, a9, a10, a11, a12⟩ := h
  have e : ∀ b, b ≠ 0 → (up I 0 5 v) b = I b := fun b hb => up_ne hb
  have e5 : (up I 0 5 v) 0 5 = v := by rw [up_eq, upd_s]
  have e2 : (up I 0 5 v) 0 2 = I 0 2 := by rw [up_eq, upd_n (by decide)]
  refine ⟨fun o ho => by rw [fl_same (fun a g1 g2 => e a (by omega)) ho]; exact a0 o ho, by rw [e 77 (by decide)]; exact a1, a2, by rw [e 78 (by decide)]; exact a3, by rw [e 78 (by decide)]; exact a4, fun i hi o ho => ?_, by rw [e2]; exact a6, a7, fun q o ho => ?_, e5, by rw [e 269 (by decide)]; exact a10, a11, by rw [e 270 (by decide)]; exact a12⟩
  · rw [e 78 (by decide), fl_same (fun a g1 g2 => e a (by have := sd_in (I 78 i); omega)) ho]
    exact a5 i hi o ho
  · rw [fl_same (fun a g1 g2 => e a (by omega)) ho]
    exact a8 q o ho
