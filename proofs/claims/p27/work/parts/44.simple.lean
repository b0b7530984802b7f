/-! reads of both sides -/
section RX
variable {I : gx_M} {f : Nat → Int32} {hs : Nat → Nat → Int32} {n : Nat} {sn : Nat → Int32} {ha : Nat} {tx : Nat → Int32} {tl : Nat} {re : Int32} {m w k : Nat} {p p0 p1 p2 : Int32} {r q : Nat}
theorem vx.ro (h : vx I f hs n sn ha tx tl re) (hr : r < 8) (hq : q < 9) (h1 : q ≠ 1 := by decide) (h8 : q ≠ 8 := by decide) : I (1 + (6 + 4 * r)) q = f (10 + 20 * r + q) := by
  rw [← h.1 _ (by omega), fl_r hr hq, if_neg (by omega)]
theorem vx.rb (h : vx I f hs n sn ha tx tl re) (hr : r < 8) (hq : q = 1 ∨ q = 8) : I (1 + (6 + 4 * r)) q &&& 1 = f (10 + 20 * r + q) := by
  rw [← h.1 _ (by omega), fl_r hr (by omega), if_pos hq]
theorem vx.go (h : vx I f hs n sn ha tx tl re) (hr : r < 8) {k w : Nat} (hk : k < 3) (hw : w < 3) : I (1 + (6 + 4 * r) + (1 + w)) k = f (10 + 20 * r + (9 + 3 * k + w)) := by
  rw [← h.1 _ (by omega), fl_g hr hk hw, show 1 + (6 + 4 * r) + (1 + w) = 1 + (7 + 4 * r + w) by omega]
theorem vx.jo (h : vx I f hs n sn ha tx tl re) {j : Nat} (hj : j < 80) : I 4 j = f (170 + j) := by rw [← h.1 _ (by omega), fl_j hj]
theorem vx.co (h : vx I f hs n sn ha tx tl re) {j : Nat} (hj : j < 48) : I 6 j = f (250 + j) := by rw [← h.1 _ (by omega), fl_c hj]
theorem vx.mo (h : vx I f hs n sn ha tx tl re) (hg : gd f m w k) : I 1 3 = nI m := by rw [← hg.1, ← h.1 0 (by decide)]; rfl
theorem vx.wo (h : vx I f hs n sn ha tx tl re) (hg : gd f m w k) : I 3 1 = nI w := by rw [← hg.2.2.1, ← h.1 4 (by decide)]; rfl
theorem vx.ko (h : vx I f hs n sn ha tx tl re) (hg : gd f m w k) : I 5 1 = nI k := by rw [← hg.2.2.2.2.1, ← h.1 8 (by decide)]; rfl
theorem s6_find {Q : Option Nat → gx_M → Prop} (h0 : I 1 3 = nI m) (hm : m ≤ 8) (h1 : ∀ r, r < m → p = nI r → Q (some (1 + (6 + 4 * r))) I) (h2 : (∀ r, r < m → ¬ p = nI r) → Q none I) : wp_X6_find 1 p I Q := by
  unfold wp_X6_find
  refine ⟨fun c => h2 fun r hr e => absurd c (n_neg e), fun c => ⟨fun c2 => h2 fun r hr e => ?_, fun c2 => ?_⟩⟩
  · have := (n_le h0 e).mp c2
    omega
  · obtain ⟨r, hr, e⟩ := n_of (n := m) h0 (by omega) c (i_nle.mp c2)
    have hc : p.toNatClampNeg = r := cl_of e
    rw [hc]
    refine ⟨fun _ => ⟨ix_of (N := 8) e (by omega), ?_⟩, fun c3 => absurd ((n_lt (b := 8) e rfl).mpr (by omega)) c3⟩
    have h3 := h1 r hr e
    rw [show 1 + (6 + 4 * r) = 1 + 1 + 5 + 4 * r by omega] at h3
    exact h3
theorem s6_find_t {Q : Option Nat → gx_M → Prop} (h0 : I 1 3 = nI m) (hm : m ≤ 8) (hr : r < m) (hp : p = nI r) (h1 : Q (some (1 + (6 + 4 * r))) I) : wp_X6_find 1 p I Q :=
  s6_find h0 hm (fun r2 hr2 e => by rw [hp] at e; rw [← (nI_eq (by omega) (by omega)).mp e]; exact h1) (fun h => absurd hp (h r hr))
theorem s6_place {Q : Int32 → gx_M → Prop} (hx : vx I f hs n sn ha tx tl re) (hg : gd f m w k) (hr : r < m) (hp : p = nI r) (h1 : Q (f (10 + 20 * r + 0)) I) : wp_X6_placeOf 1 p I Q := by
  have hm := hg.2.1
  unfold wp_X6_placeOf
  refine s6_find_t (hx.mo hg) hm hr hp ⟨fun h => (by cases h), fun b hb _ => ?_⟩
  cases hb
  rw [hx.ro (by omega) (by omega)]
  exact h1
theorem s5_jobs {Q : Int32 → gx_M → Prop} (hx : vx I f hs n sn ha tx tl re) (hg : gd f m w k) {j : Nat} (hp : p0 = nI j) (hj : j < w) (hc : p1 = nI q) (hq : q < 4) (h : Q (f (170 + (4 * j + q))) I) : wp_X5_at 3 p0 p1 I Q := by
  have hw := hg.2.2.2.1
  refine s5_at (hx.wo hg) (by show 4 * w ≤ 80; omega) hp hj hc hq ?_
  have e : I (3 + 1) (4 * j + q) = f (170 + (4 * j + q)) := hx.jo (by omega)
  rw [e]
  exact h
end RX
/-! changes of a good row that keep it good -/
theorem gr_upd {f : Nat → Int32} {r o : Nat} {v : Int32} (h : gr f r) (ho : o < 10 + 20 * r ∨ 10 + 20 * r + 18 ≤ o) : gr (upd f o v) r := by
  unfold gr
  have e : ∀ q, q < 18 → upd f o v (10 + 20 * r + q) = f (10 + 20 * r + q) := fun q hq => upd_n (by omega)
  obtain ⟨a1, a2, a3, a4, a5, a6, a7, a8⟩ := h
  rw [e 0 (by omega), e 1 (by omega), e 2 (by omega), e 3 (by omega), e 4 (by omega), e 8 (by omega)]
  refine ⟨a1, a2, a3, a4, a5, fun q hq => by rw [e (5 + q) (by omega)]; exact a6 q hq, a7, fun k hk => ?_⟩
  rw [e (9 + 3 * k + 0) (by omega), e (9 + 3 * k + 1) (by omega), e (9 + 3 * k + 2) (by omega)]
  exact a8 k hk
theorem gj_upd {f : Nat → Int32} {m j o : Nat} {v : Int32} (h : gj f m j) (ho : o < 170 + 4 * j ∨ 170 + 4 * j + 4 ≤ o) : gj (upd f o v) m j := by
  unfold gj
  rw [upd_n (by omega), upd_n (by omega), upd_n (by omega)]
  exact h
/-- a rosette's number is written -/
theorem gd_ros {f : Nat → Int32} {m w k r q : Nat} {v : Int32} (h : gd f m w k) (hr : r < m) (hq : q < 18) (hv : gr (upd f (10 + 20 * r + q) v) r) : gd (upd f (10 + 20 * r + q) v) m w k := by
  obtain ⟨a1, a2, a3, a4, a5, a6, a7, a8, a9, a10⟩ := h
  refine ⟨by rw [upd_n (by omega)]; exact a1, a2, by rw [upd_n (by omega)]; exact a3, a4, by rw [upd_n (by omega)]; exact a5, a6, by rw [upd_n (by omega)]; exact a7, by rw [upd_n (by omega)]; exact a8, fun r2 hr2 => ?_, fun j hj => gj_upd (a10 j hj) (by omega)⟩
  by_cases e : r2 = r
  · rw [e]; exact hv
  · exact gr_upd (a9 r2 hr2) (by omega)
theorem up_at {f : Nat → Int32} {o o2 : Nat} {v : Int32} : upd f o v o2 = if o2 = o then v else f o2 := rfl
/-! the first steps -/
