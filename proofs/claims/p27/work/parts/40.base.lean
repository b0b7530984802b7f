/-! PHASE B: pure proofs about the statements wp_. Numbers first. -/
theorem ix_of {x : Int32} {n N : Nat} (hx : x = nI n) (h : n < N) (hN : N < 2 ^ 31 := by decide) : vp_in x N := by rw [hx]; exact vp_in_nI h hN
theorem cl_of {x : Int32} {n : Nat} (hx : x = nI n) (hn : n < 2 ^ 31 := by omega) : x.toNatClampNeg = n := by rw [hx]; exact nI_clamp hn
theorem n_add {x y : Int32} {a b : Nat} (hx : x = nI a) (hy : y = nI b) : x + y = nI (a + b) := by rw [hx, hy, nI_add]
theorem n_mul {x y : Int32} {a b : Nat} (hx : x = nI a) (hy : y = nI b) : x * y = nI (a * b) := by rw [hx, hy, pk_mul]
theorem n_sub {x y : Int32} {a b : Nat} (hx : x = nI a) (hy : y = nI b) (h : b ≤ a := by omega) : x - y = nI (a - b) := by rw [hx, hy, pk_sub h]
theorem n_re {x : Int32} {a b : Nat} (hx : x = nI a) (h : a = b := by omega) : x = nI b := by rw [hx, h]
theorem n_le {x y : Int32} {a b : Nat} (hx : x = nI a) (hy : y = nI b) (ha : a < 2 ^ 31 := by omega) (hb : b < 2 ^ 31 := by omega) : x ≤ y ↔ a ≤ b := by rw [hx, hy]; exact nI_leI ha hb
theorem n_lt {x y : Int32} {a b : Nat} (hx : x = nI a) (hy : y = nI b) (ha : a < 2 ^ 31 := by omega) (hb : b < 2 ^ 31 := by omega) : x < y ↔ a < b := by rw [hx, hy]; exact nI_ltI ha hb
theorem n_eq {x y : Int32} {a b : Nat} (hx : x = nI a) (hy : y = nI b) (ha : a < 2 ^ 31 := by omega) (hb : b < 2 ^ 31 := by omega) : x = y ↔ a = b := by rw [hx, hy]; exact nI_eq ha hb
theorem n_neg {x : Int32} {a : Nat} (hx : x = nI a) (ha : a < 2 ^ 31 := by omega) : ¬ x < 0 := by rw [hx]; exact nI_pos ha
theorem i_nlt {a b : Int32} : ¬ a < b ↔ b ≤ a := Int32.not_lt
theorem i_nle {a b : Int32} : ¬ a ≤ b ↔ b < a := Int32.not_le
/-- 0 ≤ x < n, as a number -/
theorem n_of {x m : Int32} {n : Nat} (hm : m = nI n) (hn : n < 2 ^ 31) (h0 : ¬ x < 0) (h : x < m) : ∃ j, j < n ∧ x = nI j := by
  obtain ⟨j, hj, e⟩ := nI_of h0
  refine ⟨j, ?_, e⟩
  rw [e, hm] at h
  exact (nI_ltI hj hn).mp h
theorem n_ofle {x m : Int32} {n : Nat} (hm : m = nI n) (hn : n < 2 ^ 31) (h0 : ¬ x < 0) (h : x ≤ m) : ∃ j, j ≤ n ∧ x = nI j := by
  obtain ⟨j, hj, e⟩ := nI_of h0
  refine ⟨j, ?_, e⟩
  rw [e, hm] at h
  exact (nI_leI hj hn).mp h
theorem upd_s {f : Nat → Int32} {k : Nat} {v : Int32} : upd f k v k = v := if_pos rfl
theorem upd_n {f : Nat → Int32} {k j : Nat} {v : Int32} (h : j ≠ k) : upd f k v j = f j := if_neg h
/-! the flat view of a State's 38 cells: the layout of the reference's row -/
def fl_de (o : Nat) : Bool := decide (o = 9) || (decide (10 ≤ o) && decide (o < 170) && decide (18 ≤ (o - 10) % 20))
def fl_lo (o : Nat) : Nat × Nat :=
  if o = 0 then (0, 3) else if o = 1 then (0, 5) else if o = 2 then (0, 6) else if o = 3 then (0, 4) else if o = 4 then (2, 1) else if o = 5 then (0, 7) else if o = 6 then (0, 8) else if o = 7 then (0, 9) else if o = 8 then (4, 1)
  else if o < 10 then (0, 100) else if o < 170 then (if (o - 10) % 20 < 9 then (6 + 4 * ((o - 10) / 20), (o - 10) % 20) else (7 + 4 * ((o - 10) / 20) + ((o - 10) % 20 - 9) % 3, ((o - 10) % 20 - 9) / 3)) else if o < 250 then (3, o - 170) else (5, o - 250)
def fl_un (a k : Nat) : Nat :=
  if a = 0 then (if k = 3 then 0 else if k = 5 then 1 else if k = 6 then 2 else if k = 4 then 3 else if k = 7 then 5 else if k = 8 then 6 else 7) else if a = 2 then 4 else if a = 4 then 8 else if a = 3 then 170 + k else if a = 5 then 250 + k
  else if (a - 6) % 4 = 0 then 10 + 20 * ((a - 6) / 4) + k else 10 + 20 * ((a - 6) / 4) + 9 + 3 * k + ((a - 6) % 4 - 1)
def fl_bo (o : Nat) : Bool := decide (10 ≤ o) && decide (o < 170) && (decide ((o - 10) % 20 = 1) || decide ((o - 10) % 20 = 8))
def fl_nz (o : Nat) (v : Int32) : Int32 := if fl_bo o = true then v &&& 1 else v
def fl (I : gx_M) (b o : Nat) : Int32 := if fl_de o = true then 0 else fl_nz o (I (b + (fl_lo o).1) (fl_lo o).2)
theorem fl_lo_un : ∀ o, o < 298 → fl_de o = false → fl_un (fl_lo o).1 (fl_lo o).2 = o := by decide +kernel
theorem fl_lo_lt : ∀ o, o < 298 → (fl_lo o).1 < 38 := by decide +kernel
theorem fl_same {I I' : gx_M} {b : Nat} (h : ∀ a, b ≤ a → a < b + 38 → I' a = I a) {o : Nat} (ho : o < 298) : fl I' b o = fl I b o := by
  have h1 := fl_lo_lt o ho
  unfold fl
  rw [h _ (Nat.le_add_right _ _) (by omega)]
/-- one cell is written -/
theorem fl_up {I : gx_M} {b a k o0 : Nat} {v : Int32} (h0 : o0 < 298) (hl : fl_lo o0 = (a, k)) (hd : fl_de o0 = false) {o : Nat} (ho : o < 298) : fl (up I (b + a) k v) b o = upd (fl I b) o0 (fl_nz o0 v) o := by
  by_cases h : o = o0
  · subst h
    rw [upd_s]
    unfold fl
    rw [hd, hl]
    simp [up, upd]
  · rw [upd_n h]
    unfold fl
    by_cases hdo : fl_de o = true
    · rw [if_pos hdo, if_pos hdo]
    · rw [if_neg hdo, if_neg hdo]
      congr 1
      by_cases h2 : b + (fl_lo o).1 = b + a
      · rw [h2, up_eq, upd_n]
        intro h3
        have h4 : fl_lo o = fl_lo o0 := by
          rw [hl]
          exact Prod.ext (by omega) h3
        have e1 := fl_lo_un o ho (by simpa using hdo)
        have e2 := fl_lo_un o0 h0 hd
        rw [h4] at e1
        exact h (e1.symm.trans e2)
      · rw [up_ne h2]
/-- where things lie -/
theorem lo_r : ∀ r, r < 8 → ∀ q, q < 9 → fl_lo (10 + 20 * r + q) = (6 + 4 * r, q) ∧ fl_de (10 + 20 * r + q) = false ∧ fl_bo (10 + 20 * r + q) = (decide (q = 1) || decide (q = 8)) := by decide +kernel
theorem lo_g : ∀ r, r < 8 → ∀ k, k < 3 → ∀ w, w < 3 → fl_lo (10 + 20 * r + (9 + 3 * k + w)) = (7 + 4 * r + w, k) ∧ fl_de (10 + 20 * r + (9 + 3 * k + w)) = false ∧ fl_bo (10 + 20 * r + (9 + 3 * k + w)) = false := by decide +kernel
theorem lo_d : ∀ r, r < 8 → ∀ q, q < 2 → fl_de (10 + 20 * r + (18 + q)) = true := by decide +kernel
theorem lo_j : ∀ j, j < 80 → fl_lo (170 + j) = (3, j) ∧ fl_de (170 + j) = false ∧ fl_bo (170 + j) = false := by decide +kernel
theorem lo_c : ∀ j, j < 48 → fl_lo (250 + j) = (5, j) ∧ fl_de (250 + j) = false ∧ fl_bo (250 + j) = false := by decide +kernel
theorem fl_r {I : gx_M} {b r q : Nat} (hr : r < 8) (hq : q < 9) : fl I b (10 + 20 * r + q) = if q = 1 ∨ q = 8 then I (b + (6 + 4 * r)) q &&& 1 else I (b + (6 + 4 * r)) q := by
  obtain ⟨h1, h2, h3⟩ := lo_r r hr q hq
  unfold fl fl_nz
  rw [h1, h2, h3]
  simp
theorem fl_g {I : gx_M} {b r k w : Nat} (hr : r < 8) (hk : k < 3) (hw : w < 3) : fl I b (10 + 20 * r + (9 + 3 * k + w)) = I (b + (7 + 4 * r + w)) k := by
  obtain ⟨h1, h2, h3⟩ := lo_g r hr k hk w hw
  unfold fl fl_nz
  rw [h1, h2, h3]
  simp
theorem fl_d {I : gx_M} {b r q : Nat} (hr : r < 8) (hq : q < 2) : fl I b (10 + 20 * r + (18 + q)) = 0 := by
  unfold fl
  rw [lo_d r hr q hq]
  simp
theorem fl_j {I : gx_M} {b j : Nat} (hj : j < 80) : fl I b (170 + j) = I (b + 3) j := by
  obtain ⟨h1, h2, h3⟩ := lo_j j hj
  unfold fl fl_nz
  rw [h1, h2, h3]
  simp
theorem fl_c {I : gx_M} {b j : Nat} (hj : j < 48) : fl I b (250 + j) = I (b + 5) j := by
  obtain ⟨h1, h2, h3⟩ := lo_c j hj
  unfold fl fl_nz
  rw [h1, h2, h3]
  simp
theorem fl_0 {I : gx_M} {b : Nat} : fl I b 0 = I b 3 := rfl
theorem fl_1 {I : gx_M} {b : Nat} : fl I b 1 = I b 5 := rfl
theorem fl_2 {I : gx_M} {b : Nat} : fl I b 2 = I b 6 := rfl
theorem fl_3 {I : gx_M} {b : Nat} : fl I b 3 = I b 4 := rfl
theorem fl_4 {I : gx_M} {b : Nat} : fl I b 4 = I (b + 2) 1 := rfl
theorem fl_5 {I : gx_M} {b : Nat} : fl I b 5 = I b 7 := rfl
theorem fl_6 {I : gx_M} {b : Nat} : fl I b 6 = I b 8 := rfl
theorem fl_7 {I : gx_M} {b : Nat} : fl I b 7 = I b 9 := rfl
theorem fl_8 {I : gx_M} {b : Nat} : fl I b 8 = I (b + 4) 1 := rfl
theorem fl_9 {I : gx_M} {b : Nat} : fl I b 9 = 0 := rfl
/-- all places of a row -/
theorem fl_all {P : Nat → Prop} (h0 : ∀ o, o < 9 → P o) (h9 : P 9) (hr : ∀ r, r < 8 → ∀ q, q < 9 → P (10 + 20 * r + q)) (hg : ∀ r, r < 8 → ∀ k, k < 3 → ∀ w, w < 3 → P (10 + 20 * r + (9 + 3 * k + w))) (hd : ∀ r, r < 8 → ∀ q, q < 2 → P (10 + 20 * r + (18 + q))) (hj : ∀ j, j < 80 → P (170 + j)) (hc : ∀ j, j < 48 → P (250 + j)) : ∀ o, o < 298 → P o := by
  intro o ho
  by_cases h1 : o < 9
  · exact h0 o h1
  by_cases h2 : o = 9
  · rw [h2]; exact h9
  by_cases h3 : o < 170
  · have e1 : o = 10 + 20 * ((o - 10) / 20) + (o - 10) % 20 := by omega
    have hr8 : (o - 10) / 20 < 8 := by omega
    by_cases h4 : (o - 10) % 20 < 9
    · rw [e1]; exact hr _ hr8 _ h4
    · by_cases h5 : (o - 10) % 20 < 18
      · have h6 := hg _ hr8 (((o - 10) % 20 - 9) / 3) (by omega) (((o - 10) % 20 - 9) % 3) (by omega)
        have e2 : 9 + 3 * (((o - 10) % 20 - 9) / 3) + ((o - 10) % 20 - 9) % 3 = (o - 10) % 20 := by omega
        rw [e2, ← e1] at h6
        exact h6
      · have h6 := hd _ hr8 ((o - 10) % 20 - 18) (by omega)
        have e2 : 18 + ((o - 10) % 20 - 18) = (o - 10) % 20 := by omega
        rw [e2, ← e1] at h6
        exact h6
  by_cases h4 : o < 250
  · have h6 := hj (o - 170) (by omega)
    rw [show 170 + (o - 170) = o by omega] at h6
    exact h6
  · have h6 := hc (o - 250) (by omega)
    rw [show 250 + (o - 250) = o by omega] at h6
    exact h6
