/-! WHAT EACH CALL TELLS: functions of the row -/
def cnv (f : Nat → Int32) (n : Nat) (re : Int32) (tl : Nat) : Nat → Int32
  | 0 => f 0 | 1 => f 4 | 2 => f 5 | 3 => f 6 | 4 => f 7 | 5 => f 1 | 6 => f 2 | 7 => f 3 | 8 => f 8 | 9 => re | 10 => nI n | 11 => nI tl | _ => -1000002
def rov (f : Nat → Int32) (w r : Nat) : Nat → Int32
  | 9 => sv f r | 10 => ovc f r 3 | 11 => nI (cw f (nI r) w) | q => qr f r q
def gav (f : Nat → Int32) (r i : Nat) : Nat → Int32
  | 0 => qg f r i 0 | 1 => stn f r i | 2 => sgn f r i | 3 => rdg f r i | 4 => qg f r i 1 | 5 => qg f r i 2 | 6 => crr f r i | 7 => stp f r i | _ => -1000002
def prq (f : Nat → Int32) (r q : Nat) (v : Int32) : Prop := (q = 0 → v = mm f r + rad f r) ∧ (q = 1 → v = mm f r - rad f r) ∧ (q = 2 → v = (bst f r 23).1) ∧ (q = 3 → v = rad f r) ∧ (q = 4 → v = mx f r) ∧ (q = 5 → v = my f r) ∧ (q = 6 → v = mg f r) ∧ (q = 7 → v = mm f r) ∧ (q = 8 → v = -1000002)
def puv (f : Nat → Int32) (r t : Nat) : Int32 := Int64.toInt32 (pul f r t / 20000)
def jov (f : Nat → Int32) (w j q : Nat) : Int32 := if q = 4 then (js f w (j + 1)).2.2.1 else f (170 + (4 * (js f w (j + 1)).2.2.2 + q))
def rcv (f : Nat → Int32) (k e q : Nat) : Int32 := f (250 + (4 * (k - 1 - e) + q))
section CALLS
variable {I : gx_M} {f : Nat → Int32} {hs : Nat → Nat → Int32} {n : Nat} {sn : Nat → Int32} {ha : Nat} {tx : Nat → Int32} {tl : Nat} {re : Int32} {m w k r q : Nat} {p p0 p1 p2 p3 : Int32} {Q : Int32 → gx_M → Prop}
theorem x7_count (hx : vx I f hs n sn ha tx tl re) (hp : p = nI q) (hq : q < 13) (h : Q (cnv f n re tl q) I) : wp_X7_count 0 p I Q := by
  have ne : ∀ a, a < 13 → p = nI a → q = a := fun a ha e => (nI_eq (by omega) (by omega)).mp (hp.symm.trans e)
  unfold wp_X7_count
  refine ⟨fun c => ?_, fun c => ?_, fun c => ?_, fun c => ?_, fun c => ?_, fun c => ?_, fun c => ?_, fun c => ?_, fun c => ?_, fun c => ?_, fun c => ?_, fun c => ?_, fun c0 c1 c2 c3 c4 c5 c6 c7 c8 c9 c10 c11 => ?_⟩
  · have e := ne 0 (by decide) c
    subst e
    have e1 : I (0 + 1) 3 = f 0 := hx.1 0 (by decide)
    rw [e1]; exact h
  · have e := ne 1 (by decide) c
    subst e
    have e1 : I ((0 + 1) + 2) 1 = f 4 := hx.1 4 (by decide)
    rw [e1]; exact h
  · have e := ne 2 (by decide) c
    subst e
    have e1 : I (0 + 1) 7 = f 5 := hx.1 5 (by decide)
    rw [e1]; exact h
  · have e := ne 3 (by decide) c
    subst e
    have e1 : I (0 + 1) 8 = f 6 := hx.1 6 (by decide)
    rw [e1]; exact h
  · have e := ne 4 (by decide) c
    subst e
    have e1 : I (0 + 1) 9 = f 7 := hx.1 7 (by decide)
    rw [e1]; exact h
  · have e := ne 5 (by decide) c
    subst e
    have e1 : I (0 + 1) 5 = f 1 := hx.1 1 (by decide)
    rw [e1]; exact h
  · have e := ne 6 (by decide) c
    subst e
    have e1 : I (0 + 1) 6 = f 2 := hx.1 2 (by decide)
    rw [e1]; exact h
  · have e := ne 7 (by decide) c
    subst e
    have e1 : I (0 + 1) 4 = f 3 := hx.1 3 (by decide)
    rw [e1]; exact h
  · have e := ne 8 (by decide) c
    subst e
    have e1 : I ((0 + 1) + 4) 1 = f 8 := hx.1 8 (by decide)
    rw [e1]; exact h
  · have e := ne 9 (by decide) c
    subst e
    have e1 : I 0 5 = re := hx.2.2.2.2.2.2.2.2.2.1
    rw [e1]; exact h
  · have e := ne 10 (by decide) c
    subst e
    have e1 : I (0 + 77) 1 = nI n := hx.2.1
    rw [e1]; exact h
  · have e := ne 11 (by decide) c
    subst e
    have e1 : I (0 + 269) 2 = nI tl := hx.2.2.2.2.2.2.2.2.2.2.1
    rw [e1]; exact h
  · have d0 : q ≠ 0 := fun e => c0 (by rw [hp, e]; rfl)
    have d1 : q ≠ 1 := fun e => c1 (by rw [hp, e]; rfl)
    have d2 : q ≠ 2 := fun e => c2 (by rw [hp, e]; rfl)
    have d3 : q ≠ 3 := fun e => c3 (by rw [hp, e]; rfl)
    have d4 : q ≠ 4 := fun e => c4 (by rw [hp, e]; rfl)
    have d5 : q ≠ 5 := fun e => c5 (by rw [hp, e]; rfl)
    have d6 : q ≠ 6 := fun e => c6 (by rw [hp, e]; rfl)
    have d7 : q ≠ 7 := fun e => c7 (by rw [hp, e]; rfl)
    have d8 : q ≠ 8 := fun e => c8 (by rw [hp, e]; rfl)
    have d9 : q ≠ 9 := fun e => c9 (by rw [hp, e]; rfl)
    have d10 : q ≠ 10 := fun e => c10 (by rw [hp, e]; rfl)
    have d11 : q ≠ 11 := fun e => c11 (by rw [hp, e]; rfl)
    have e : q = 12 := by omega
    subst e; exact h
theorem q01 (hg : gr f r) : (qr f r 1 = 0 ∨ qr f r 1 = 1) ∧ (qr f r 8 = 0 ∨ qr f r 8 = 1) := by
  obtain ⟨g1, ⟨d, d1, d2⟩, g3, g4, g5, g6, ⟨s, s1, s2⟩, g8⟩ := hg
  refine ⟨?_, ?_⟩
  · have : d = 0 ∨ d = 1 := by omega
    rcases this with h | h
    · left; show f (10 + 20 * r + 1) = 0; rw [d1, h]; rfl
    · right; show f (10 + 20 * r + 1) = 1; rw [d1, h]; rfl
  · have : s = 0 ∨ s = 1 := by omega
    rcases this with h | h
    · left; show f (10 + 20 * r + 8) = 0; rw [s1, h]; rfl
    · right; show f (10 + 20 * r + 8) = 1; rw [s1, h]; rfl
theorem x7_rosette (hx : vx I f hs n sn ha tx tl re) (hg : gd f m w k) (hr : r < m) (hp0 : p0 = nI r) (hp : p = nI q) (hq : q < 12) (h : ∀ I2 : gx_M, vx I2 f hs n sn ha tx tl re → Q (rov f w r q) I2) : wp_X7_rosette 0 p0 p I Q := by
  have hm8 := hg.2.1
  have hr8 : r < 8 := by omega
  have ne : ∀ a, a < 12 → p = nI a → q = a := fun a ha e => (nI_eq (by omega) (by omega)).mp (hp.symm.trans e)
  have hgr := (gd_gm hg hr).2.1
  unfold wp_X7_rosette
  refine s6_find_t (hx.mo hg) hm8 hr hp0 ⟨fun h => (by cases h), fun b hb hkb => ?_⟩
  cases hb
  have hp3 : I (0 + 1) 4 = f 3 := hx.1 3 (by decide)
  refine s2_take hx hg hr hp3 fun I2 hx2 z2 z9 hme => ?_
  replace h := h I2 hx2
  obtain ⟨⟨b1, b2, b3, b4, b5⟩, _⟩ := hme
  have bool : ∀ q, (q = 1 ∨ q = 8) → I2 (1 + (6 + 4 * r)) q &&& 1 = qr f r q := fun q hq => hx2.rb hr8 hq
  refine ⟨fun c => ?_, fun c => ?_, fun c => ?_, fun c => ?_, fun c => ?_, fun c => ?_, fun c => ?_, fun c => ?_, fun c => ?_, fun c => ?_, fun c => ?_, fun c => ?_, fun c0 c1 c2 c3 c4 c5 c6 c7 c8 c9 c10 c11 => ?_⟩
  · have e := ne 0 (by decide) c
    subst e
    have e1 : I2 (1 + (6 + 4 * r)) 0 = qr f r 0 := hx2.ro hr8 (by decide)
    rw [e1]; exact h
  · have e := ne 1 (by decide) c
    subst e
    rw [bool 1 (by decide)]
    have h : Q (qr f r 1) I2 := h
    have h01 := (q01 hgr).1
    refine ⟨fun e => by rw [e] at h; exact h, fun e => by rw [h01.resolve_left e] at h; exact h⟩
  · have e := ne 2 (by decide) c
    subst e
    have e1 : I2 (1 + (6 + 4 * r)) 2 = qr f r 2 := hx2.ro hr8 (by decide)
    rw [e1]; exact h
  · have e := ne 3 (by decide) c
    subst e
    have e1 : I2 (1 + (6 + 4 * r)) 3 = qr f r 3 := hx2.ro hr8 (by decide)
    rw [e1]; exact h
  · have e := ne 4 (by decide) c
    subst e
    have e1 : I2 (1 + (6 + 4 * r)) 4 = qr f r 4 := hx2.ro hr8 (by decide)
    rw [e1]; exact h
  · have e := ne 5 (by decide) c
    subst e
    have e1 : I2 (1 + (6 + 4 * r)) 5 = qr f r 5 := hx2.ro hr8 (by decide)
    rw [e1]; exact h
  · have e := ne 6 (by decide) c
    subst e
    have e1 : I2 (1 + (6 + 4 * r)) 6 = qr f r 6 := hx2.ro hr8 (by decide)
    rw [e1]; exact h
  · have e := ne 7 (by decide) c
    subst e
    have e1 : I2 (1 + (6 + 4 * r)) 7 = qr f r 7 := hx2.ro hr8 (by decide)
    rw [e1]; exact h
  · have e := ne 8 (by decide) c
    subst e
    rw [bool 8 (by decide)]
    have h : Q (qr f r 8) I2 := h
    have h01 := (q01 hgr).2
    refine ⟨fun e => by rw [e] at h; exact h, fun e => by rw [h01.resolve_left e] at h; exact h⟩
  · have e := ne 9 (by decide) c
    subst e
    have e1 : I2 (0 + 275) 6 = sv f r := b2
    rw [e1]; exact h
  · have e := ne 10 (by decide) c
    subst e
    have e1 : I2 (0 + 275) 7 = ovc f r 3 := b3
    rw [e1]; exact h
  · have e := ne 11 (by decide) c
    subst e
    refine s6_jobsFor hx2 hg ?_
    rw [hp0]; exact h
  · exfalso
    have d0 : q ≠ 0 := fun e => c0 (by rw [hp, e]; rfl)
    have d1 : q ≠ 1 := fun e => c1 (by rw [hp, e]; rfl)
    have d2 : q ≠ 2 := fun e => c2 (by rw [hp, e]; rfl)
    have d3 : q ≠ 3 := fun e => c3 (by rw [hp, e]; rfl)
    have d4 : q ≠ 4 := fun e => c4 (by rw [hp, e]; rfl)
    have d5 : q ≠ 5 := fun e => c5 (by rw [hp, e]; rfl)
    have d6 : q ≠ 6 := fun e => c6 (by rw [hp, e]; rfl)
    have d7 : q ≠ 7 := fun e => c7 (by rw [hp, e]; rfl)
    have d8 : q ≠ 8 := fun e => c8 (by rw [hp, e]; rfl)
    have d9 : q ≠ 9 := fun e => c9 (by rw [hp, e]; rfl)
    have d10 : q ≠ 10 := fun e => c10 (by rw [hp, e]; rfl)
    have d11 : q ≠ 11 := fun e => c11 (by rw [hp, e]; rfl)
    omega
theorem x7_gauge {i : Nat} (hx : vx I f hs n sn ha tx tl re) (hg : gd f m w k) (hr : r < m) (hp0 : p0 = nI r) (hp1 : p1 = nI i) (hi : i < 3) (hp : p = nI q) (hq : q < 9) (h : ∀ I2 : gx_M, vx I2 f hs n sn ha tx tl re → Q (gav f r i q) I2) : wp_X7_gauge 0 p0 p1 p I Q := by
  have hm8 := hg.2.1
  have hr8 : r < 8 := by omega
  have ne : ∀ a, a < 9 → p = nI a → q = a := fun a ha e => (nI_eq (by omega) (by omega)).mp (hp.symm.trans e)
  obtain ⟨n1, n2, n3⟩ := nX_ros hr8
  have hin : vp_in p1 3 := ix_of hp1 hi
  unfold wp_X7_gauge
  refine s6_find_t (hx.mo hg) hm8 hr hp0 ⟨fun h => (by cases h), fun b hb hkb => ?_⟩
  cases hb
  have hp3 : I (0 + 1) 4 = f 3 := hx.1 3 (by decide)
  refine s7_w (fun _ _ => ⟨fun h => absurd h (by decide), fun _ => ?_⟩) (fun c => absurd ⟨(n_le (a := 0) rfl hp1).mpr (by omega), (n_le (b := 2) hp1 rfl).mpr (by omega)⟩ c)
  rw [n1, n2, n3, cl_of hp1]
  refine s2_take hx hg hr hp3 fun I2 hx2 z2 z9 hme => ?_
  replace h := h I2 hx2
  obtain ⟨⟨b1, b2, b3, b4, b5⟩, d1, _⟩ := hme
  refine ⟨fun c => ⟨hin, ?_⟩, fun c => ⟨hin, ?_⟩, fun c => ⟨hin, ?_⟩, fun c => ⟨hin, ?_⟩, fun c => ⟨hin, ?_⟩, fun c => ⟨hin, ?_⟩, fun c => ⟨hin, ?_⟩, fun c => ⟨hin, ?_⟩, fun c0 c1 c2 c3 c4 c5 c6 c7 => ?_⟩
  · have e := ne 0 (by decide) c
    subst e
    have e1 : I2 (1 + (6 + 4 * r) + 1) i = qg f r i 0 := hx2.go hr8 hi (w := 0) (by decide)
    rw [e1]; exact h
  · have e := ne 1 (by decide) c
    subst e
    have e1 : I2 (0 + 275 + 1) i = stn f r i := b1 i hi
    rw [e1]; exact h
  · have e := ne 2 (by decide) c
    subst e
    have e1 : I2 (0 + 275 + 2) i = sgn f r i := (b5 i hi).1
    rw [e1]; exact h
  · have e := ne 3 (by decide) c
    subst e
    have e1 : I2 (0 + 275 + 3) i = rdg f r i := (b5 i hi).2.1
    rw [e1]; exact h
  · have e := ne 4 (by decide) c
    subst e
    have e1 : I2 (1 + (6 + 4 * r) + 2) i = qg f r i 1 := hx2.go hr8 hi (w := 1) (by decide)
    rw [e1]; exact h
  · have e := ne 5 (by decide) c
    subst e
    have e1 : I2 (1 + (6 + 4 * r) + 3) i = qg f r i 2 := hx2.go hr8 hi (w := 2) (by decide)
    rw [e1]; exact h
  · have e := ne 6 (by decide) c
    subst e
    have e1 : I2 (0 + 275 + 6) i = crr f r i := d1 i hi
    rw [e1]; exact h
  · have e := ne 7 (by decide) c
    subst e
    have e1 : I2 (0 + 275 + 5) i = stp f r i := (b5 i hi).2.2
    rw [e1]; exact h
  · have d0 : q ≠ 0 := fun e => c0 (by rw [hp, e]; rfl)
    have d1 : q ≠ 1 := fun e => c1 (by rw [hp, e]; rfl)
    have d2 : q ≠ 2 := fun e => c2 (by rw [hp, e]; rfl)
    have d3 : q ≠ 3 := fun e => c3 (by rw [hp, e]; rfl)
    have d4 : q ≠ 4 := fun e => c4 (by rw [hp, e]; rfl)
    have d5 : q ≠ 5 := fun e => c5 (by rw [hp, e]; rfl)
    have d6 : q ≠ 6 := fun e => c6 (by rw [hp, e]; rfl)
    have d7 : q ≠ 7 := fun e => c7 (by rw [hp, e]; rfl)
    have e : q = 8 := by omega
    subst e; exact h
theorem x7_gaugeU (hx : vx I f hs n sn ha tx tl re) (hg : gd f m w k) (hr : r < m) (hp0 : p0 = nI r) (h : Q (-1000001) I) : wp_X7_gauge 0 p0 (3 : Int32) p I Q := by
  unfold wp_X7_gauge
  refine s6_find_t (hx.mo hg) hg.2.1 hr hp0 ⟨fun h => (by cases h), fun b hb hkb => ?_⟩
  exact s7_w (fun _ c => absurd c (by decide)) (fun c => ⟨fun _ => h, fun e => absurd rfl e⟩)
theorem x7_prin (hx : vx I f hs n sn ha tx tl re) (hg : gd f m w k) (hr : r < m) (hp0 : p0 = nI r) (hp : p = nI q) (hq : q < 9) (h : ∀ (v : Int32) (I2 : gx_M), prq f r q v → vx I2 f hs n sn ha tx tl re → Q v I2) : wp_X7_principal 0 p0 p I Q := by
  have hm8 := hg.2.1
  have hr8 : r < 8 := by omega
  have ne : ∀ a, a < 9 → p = nI a → q = a := fun a ha e => (nI_eq (by omega) (by omega)).mp (hp.symm.trans e)
  unfold wp_X7_principal
  refine s6_find_t (hx.mo hg) hm8 hr hp0 ⟨fun h => (by cases h), fun b hb hkb => ?_⟩
  cases hb
  have hp3 : I (0 + 1) 4 = f 3 := hx.1 3 (by decide)
  refine s2_take hx hg hr hp3 fun I2 hx2 z2 z9 hme => ?_
  obtain ⟨_, d1, d2, d3, d4, d5, d6, d7⟩ := hme
  have w12 : I2 (0 + 275) 12 = mm f r := d5
  have w14 : I2 (0 + 275) 14 = rad f r := d7
  have w13 : I2 (0 + 275) 13 = (bst f r 23).1 := d6
  have w9 : I2 (0 + 275) 9 = mx f r := d2
  have w10 : I2 (0 + 275) 10 = my f r := d3
  have w11 : I2 (0 + 275) 11 = mg f r := d4
  generalize I2 (0 + 275) 12 = u12 at w12 ⊢
  generalize I2 (0 + 275) 14 = u14 at w14 ⊢
  generalize I2 (0 + 275) 13 = u13 at w13 ⊢
  generalize I2 (0 + 275) 9 = u9 at w9 ⊢
  generalize I2 (0 + 275) 10 = u10 at w10 ⊢
  generalize I2 (0 + 275) 11 = u11 at w11 ⊢
  refine ⟨fun c => ?_, fun c => ?_, fun c => ?_, fun c => ?_, fun c => ?_, fun c => ?_, fun c => ?_, fun c => ?_, fun c0 c1 c2 c3 c4 c5 c6 c7 => ?_⟩
  · have e := ne 0 (by decide) c
    subst e
    exact h _ I2 ⟨fun _ => by rw [w12, w14], fun e => absurd e (by decide), fun e => absurd e (by decide), fun e => absurd e (by decide), fun e => absurd e (by decide), fun e => absurd e (by decide), fun e => absurd e (by decide), fun e => absurd e (by decide), fun e => absurd e (by decide)⟩ hx2
  · have e := ne 1 (by decide) c
    subst e
    exact h _ I2 ⟨fun e => absurd e (by decide), fun _ => by rw [w12, w14], fun e => absurd e (by decide), fun e => absurd e (by decide), fun e => absurd e (by decide), fun e => absurd e (by decide), fun e => absurd e (by decide), fun e => absurd e (by decide), fun e => absurd e (by decide)⟩ hx2
  · have e := ne 2 (by decide) c
    subst e
    exact h _ I2 ⟨fun e => absurd e (by decide), fun e => absurd e (by decide), fun _ => w13, fun e => absurd e (by decide), fun e => absurd e (by decide), fun e => absurd e (by decide), fun e => absurd e (by decide), fun e => absurd e (by decide), fun e => absurd e (by decide)⟩ hx2
  · have e := ne 3 (by decide) c
    subst e
    exact h _ I2 ⟨fun e => absurd e (by decide), fun e => absurd e (by decide), fun e => absurd e (by decide), fun _ => w14, fun e => absurd e (by decide), fun e => absurd e (by decide), fun e => absurd e (by decide), fun e => absurd e (by decide), fun e => absurd e (by decide)⟩ hx2
  · have e := ne 4 (by decide) c
    subst e
    exact h _ I2 ⟨fun e => absurd e (by decide), fun e => absurd e (by decide), fun e => absurd e (by decide), fun e => absurd e (by decide), fun _ => w9, fun e => absurd e (by decide), fun e => absurd e (by decide), fun e => absurd e (by decide), fun e => absurd e (by decide)⟩ hx2
  · have e := ne 5 (by decide) c
    subst e
    exact h _ I2 ⟨fun e => absurd e (by decide), fun e => absurd e (by decide), fun e => absurd e (by decide), fun e => absurd e (by decide), fun e => absurd e (by decide), fun _ => w10, fun e => absurd e (by decide), fun e => absurd e (by decide), fun e => absurd e (by decide)⟩ hx2
  · have e := ne 6 (by decide) c
    subst e
    exact h _ I2 ⟨fun e => absurd e (by decide), fun e => absurd e (by decide), fun e => absurd e (by decide), fun e => absurd e (by decide), fun e => absurd e (by decide), fun e => absurd e (by decide), fun _ => w11, fun e => absurd e (by decide), fun e => absurd e (by decide)⟩ hx2
  · have e := ne 7 (by decide) c
    subst e
    exact h _ I2 ⟨fun e => absurd e (by decide), fun e => absurd e (by decide), fun e => absurd e (by decide), fun e => absurd e (by decide), fun e => absurd e (by decide), fun e => absurd e (by decide), fun e => absurd e (by decide), fun _ => w12, fun e => absurd e (by decide)⟩ hx2
  · have d0 : q ≠ 0 := fun e => c0 (by rw [hp, e]; rfl)
    have d1 : q ≠ 1 := fun e => c1 (by rw [hp, e]; rfl)
    have d2 : q ≠ 2 := fun e => c2 (by rw [hp, e]; rfl)
    have d3 : q ≠ 3 := fun e => c3 (by rw [hp, e]; rfl)
    have d4 : q ≠ 4 := fun e => c4 (by rw [hp, e]; rfl)
    have d5 : q ≠ 5 := fun e => c5 (by rw [hp, e]; rfl)
    have d6 : q ≠ 6 := fun e => c6 (by rw [hp, e]; rfl)
    have d7 : q ≠ 7 := fun e => c7 (by rw [hp, e]; rfl)
    have e : q = 8 := by omega
    subst e; exact h _ I2 ⟨fun e => absurd e (by decide), fun e => absurd e (by decide), fun e => absurd e (by decide), fun e => absurd e (by decide), fun e => absurd e (by decide), fun e => absurd e (by decide), fun e => absurd e (by decide), fun e => absurd e (by decide), fun _ => rfl⟩ hx2
theorem x7_pull {t : Nat} (hx : vx I f hs n sn ha tx tl re) (hg : gd f m w k) (hr : r < m) (hp0 : p0 = nI r) (hp : p = nI t) (ht : t < 24) (h : ∀ I2 : gx_M, vx I2 f hs n sn ha tx tl re → Q (puv f r t) I2) : wp_X7_pull 0 p0 p I Q := by
  unfold wp_X7_pull
  refine s6_find_t (hx.mo hg) hg.2.1 hr hp0 ⟨fun h => (by cases h), fun b hb hkb => ?_⟩
  cases hb
  have hp3 : I (0 + 1) 4 = f 3 := hx.1 3 (by decide)
  refine s7_w (fun _ _ => ⟨fun h => absurd h (by decide), fun _ => ?_⟩) (fun c => absurd ⟨(n_le (a := 0) rfl hp).mpr (by omega), (n_le (b := 23) hp rfl).mpr (by omega)⟩ c)
  refine s2_take hx hg hr hp3 fun I2 hx2 z2 z9 hme => ?_
  obtain ⟨_, d1, d2, d3, d4, d5, d6, d7⟩ := hme
  exact s2_pull (f := f) (r := r) (t := t) ht hp d2 d3 d4 (h I2 hx2)
theorem x7_pullB (hx : vx I f hs n sn ha tx tl re) (hg : gd f m w k) (hr : r < m) (hp0 : p0 = nI r) (h : Q (-1000002) I) : wp_X7_pull 0 p0 (24 : Int32) I Q := by
  unfold wp_X7_pull
  refine s6_find_t (hx.mo hg) hg.2.1 hr hp0 ⟨fun h => (by cases h), fun b hb hkb => ?_⟩
  exact s7_w (fun _ c => absurd c (by decide)) (fun c => ⟨fun _ => h, fun e => absurd rfl e⟩)
theorem x7_job {j : Nat} (hx : vx I f hs n sn ha tx tl re) (hg : gd f m w k) (hj : j < w) (hp0 : p0 = nI j) (hp : p = nI q) (hq : q ≤ 4) (h : ∀ I2 : gx_M, vx I2 f hs n sn ha tx tl re → Q (jov f w j q) I2) : wp_X7_job 0 p0 p I Q := by
  have hw := hg.2.2.2.1
  have aw : I (0 + 1 + 2) 1 = nI w := hx.wo hg
  unfold wp_X7_job
  refine ⟨fun c => absurd c (n_neg hp0), fun c => s7_w (fun _ _ => ⟨fun h => absurd h (by decide), fun _ => ⟨fun _ => ?_, fun c3 => absurd ((n_lt hp0 aw).mpr hj) c3⟩⟩) (fun d => absurd ⟨(n_le (a := 0) rfl hp).mpr (by omega), (n_le (b := 4) hp rfl).mpr (by omega)⟩ d)⟩
  exact s3_begin hx fun I1 hx1 _ k2 k3 k4 => ⟨j + 1 + 1, s7_jloop hg hp0 hj hp hq (fun I2 hx2 => h I2 hx2) (j + 1) 0 (by omega) I1 0 rfl hx1 (fun h => absurd h (by omega)) k2 k3 k4⟩
theorem x7_jobN (hx : vx I f hs n sn ha tx tl re) (hg : gd f m w k) (hp0 : p0 = nI w) (h : Q (-1000004) I) : wp_X7_job 0 p0 (0 : Int32) I Q := by
  have hw := hg.2.2.2.1
  have aw : I (0 + 1 + 2) 1 = nI w := hx.wo hg
  unfold wp_X7_job
  exact ⟨fun c => absurd c (n_neg hp0), fun c => s7_w (fun _ _ => ⟨fun h => absurd h (by decide), fun _ => ⟨fun c3 => absurd ((n_lt hp0 aw).mp c3) (Nat.lt_irrefl _), fun _ => h⟩⟩) (fun d => absurd ⟨by decide, by decide⟩ d)⟩
theorem x7_jobB (h : Q (-1000002) I) : wp_X7_job 0 (-1 : Int32) (0 : Int32) I Q := by
  unfold wp_X7_job
  exact ⟨fun _ => h, fun c => absurd (by decide) c⟩
theorem x7_jobB5 (h : Q (-1000002) I) : wp_X7_job 0 (0 : Int32) (5 : Int32) I Q := by
  unfold wp_X7_job
  exact ⟨fun c => absurd c (by decide), fun _ => s7_w (fun _ c => absurd c (by decide)) (fun _ => ⟨fun _ => h, fun e => absurd rfl e⟩)⟩
theorem x7_record {e : Nat} (hx : vx I f hs n sn ha tx tl re) (hg : gd f m w k) (he : e < k) (hp0 : p0 = nI e) (hp : p = nI q) (hq : q < 4) (h : Q (rcv f k e q) I) : wp_X7_record 0 p0 p I Q := by
  have hk := hg.2.2.2.2.2.1
  have ak : I (0 + 1 + 4) 1 = nI k := hx.ko hg
  unfold wp_X7_record
  refine ⟨fun c => absurd c (n_neg hp0), fun c => s7_w (fun _ _ => ⟨fun h => absurd h (by decide), fun _ x ex => ?_⟩) (fun d => absurd ⟨(n_le (a := 0) rfl hp).mpr (by omega), (n_le (b := 3) hp rfl).mpr (by omega)⟩ d)⟩
  rw [ak] at ex
  have e1 : x - (1 : Int32) = nI (k - 1) := n_sub (b := 1) ex rfl (by omega)
  have e2 : x - (1 : Int32) - p0 = nI (k - 1 - e) := n_sub e1 hp0 (by omega)
  refine ⟨fun _ => s5_at (a := 5) (u := k) ak (by show 4 * k ≤ 48; omega) e2 (by omega) hp hq ?_, fun c2 => absurd ((n_lt hp0 ex).mpr he) c2⟩
  have e3 : I (5 + 1) (4 * (k - 1 - e) + q) = f (250 + (4 * (k - 1 - e) + q)) := hx.co (by omega)
  rw [e3]; exact h
theorem x7_recordN (hx : vx I f hs n sn ha tx tl re) (hg : gd f m w k) (hp0 : p0 = nI k) (h : Q (-1000004) I) : wp_X7_record 0 p0 (0 : Int32) I Q := by
  have hk := hg.2.2.2.2.2.1
  have ak : I (0 + 1 + 4) 1 = nI k := hx.ko hg
  unfold wp_X7_record
  refine ⟨fun c => absurd c (n_neg hp0), fun c => s7_w (fun _ _ => ⟨fun h => absurd h (by decide), fun _ x ex => ?_⟩) (fun d => absurd ⟨by decide, by decide⟩ d)⟩
  rw [ak] at ex
  exact ⟨fun c2 => absurd ((n_lt hp0 ex).mp c2) (Nat.lt_irrefl _), fun _ => h⟩
theorem x7_neigh {a : Nat} {u : Int32} (hx : vx I f hs n sn ha tx tl re) (hg : gd f m w k) (hp : p = nI a) (ha1 : a ≤ 1000) (h : Q (nbs f p u m).1 I) : wp_X7_neighbour 0 p u I Q := by
  unfold wp_X7_neighbour
  refine s7_w (fun c1 c2 => ⟨fun h => absurd h (by decide), fun _ => ⟨m + 1, ?_⟩⟩) (fun c => absurd ⟨(n_le (a := 0) rfl hp).mpr (by omega), (n_le (b := 1000) hp rfl).mpr (by omega)⟩ c)
  exact s7_neigh hx hg h m 0 (by omega) _ _ _ rfl rfl rfl
theorem x7_neighB {u : Int32} (h : Q (-1000002) I) : wp_X7_neighbour 0 (1001 : Int32) u I Q := by
  unfold wp_X7_neighbour
  exact s7_w (fun _ c => absurd c (by decide)) (fun _ => ⟨fun _ => h, fun e => absurd rfl e⟩)
end CALLS
