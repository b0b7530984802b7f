/-! reads of both sides -/
section RX
variable {I : gx_M} {J : gx_MM} {f : Nat → Int32} {hs : Nat → Nat → Int32} {n : Nat} {sn : Nat → Int32} {ha : Nat} {tx : Nat → Int32} {tl : Nat} {re : Int32} {m w k : Nat} {p p0 p1 p2 : Int32} {r q : Nat}
theorem vx.ro (h : vx I f hs n sn ha tx tl re) (hr : r < 8) (hq : q < 9) (h1 : q ≠ 1 := by decide) (h8 : q ≠ 8 := by decide) : I (1 + (6 + 4 * r)) q = f (10 + 20 * r + q) := by
  rw [← h.1 _ (by omega), fl_r hr hq, if_neg (by omega)]
theorem vx.rb (h : vx I f hs n sn ha tx tl re) (hr : r < 8) (hq : q = 1 ∨ q = 8) : I (1 + (6 + 4 * r)) q &&& 1 = f (10 + 20 * r + q) := by
  rw [← h.1 _ (by omega), fl_r hr (by omega), if_pos hq]
theorem vx.go (h : vx I f hs n sn ha tx tl re) (hr : r < 8) {k w : Nat} (hk : k < 3) (hw : w < 3) : I (1 + (6 + 4 * r) + (1 + w)) k = f (10 + 20 * r + (9 + 3 * k + w)) := by
  rw [← h.1 _ (by omega), fl_g hr hk hw, show 1 + (6 + 4 * r) + (1 + w) = 1 + (7 + 4 * r + w) by omega]
theorem vx.jo (h : vx I f hs n sn ha tx tl re) {j : Nat} (hj : j < 80) : I 4 j = f (170 + j) := by rw [← h.1 _ (by omega), fl_j hj]
theorem vx.co (h : vx I f hs n sn ha tx tl re) {j : Nat} (hj : j < 48) : I 6 j = f (250 + j) := by rw [← h.1 _ (by omega), fl_c hj]
theorem vx.mo (h : vx I f hs n sn ha tx tl re) (hg : gd f m w k) : I 1 3 = nI m := by rw [← hg.1, ← h.1 0 (by decide)]; rfl
theorem vx.wo (h : vx I f hs n sn ha tx tl re) (hg : gd f m w k) : I 3 1 = nI w := by rw [← hg.2.2.1, ← h.1 4 (by decide)]; rfl
theorem vx.ko (h : vx I f hs n sn ha tx tl re) (hg : gd f m w k) : I 5 1 = nI k := by rw [← hg.2.2.2.2.1, ← h.1 8 (by decide)]; rfl
theorem vm.mo (h : vm J f hs n sn ha tx tl re) (hg : gd f m w k) : J.1 1 0 = nI m := by rw [h.1 0 (by decide)]; exact hg.1
theorem vm.wo (h : vm J f hs n sn ha tx tl re) (hg : gd f m w k) : J.1 1 4 = nI w := by rw [h.1 4 (by decide)]; exact hg.2.2.1
theorem vm.ko (h : vm J f hs n sn ha tx tl re) (hg : gd f m w k) : J.1 1 8 = nI k := by rw [h.1 8 (by decide)]; exact hg.2.2.2.2.1
theorem s6_find {Q : Option Nat → gx_M → Prop} (h0 : I 1 3 = nI m) (hm : m ≤ 8) (h1 : ∀ r, r < m → p = nI r → Q (some (1 + (6 + 4 * r))) I) (h2 : (∀ r, r < m → ¬ p = nI r) → Q none I) : wp_X6_find 1 p I Q := by
  unfold wp_X6_find
  refine ⟨fun c => h2 fun r hr e => absurd c (n_neg e), fun c => ⟨fun c2 => h2 fun r hr e => ?_, fun c2 => ?_⟩⟩
  · have := (n_le h0 e).mp c2
    omega
  · obtain ⟨r, hr, e⟩ := n_of (n := m) h0 (by omega) c (i_nle.mp c2)
    have hc : p.toNatClampNeg = r := cl_of e
    rw [hc]
    refine ⟨fun _ => ⟨ix_of (N := 8) e (by omega), ?_⟩, fun c3 => absurd ((n_lt (b := 8) e rfl).mpr (by omega)) c3⟩
    have h3 := h1 r hr e
    rw [show 1 + (6 + 4 * r) = 1 + 1 + 5 + 4 * r by omega] at h3
    exact h3
theorem s6_find_t {Q : Option Nat → gx_M → Prop} (h0 : I 1 3 = nI m) (hm : m ≤ 8) (hr : r < m) (hp : p = nI r) (h1 : Q (some (1 + (6 + 4 * r))) I) : wp_X6_find 1 p I Q :=
  s6_find h0 hm (fun r2 hr2 e => by rw [hp] at e; rw [← (nI_eq (by omega) (by omega)).mp e]; exact h1) (fun h => absurd hp (h r hr))
theorem s6_place {Q : Int32 → gx_M → Prop} (hx : vx I f hs n sn ha tx tl re) (hg : gd f m w k) (hr : r < m) (hp : p = nI r) (h1 : Q (f (10 + 20 * r + 0)) I) : wp_X6_placeOf 1 p I Q := by
  have hm := hg.2.1
  unfold wp_X6_placeOf
  refine s6_find_t (hx.mo hg) hm hr hp ⟨fun h => (by cases h), fun b hb _ => ?_⟩
  cases hb
  rw [hx.ro (by omega) (by omega)]
  exact h1
theorem s8_of {Q : Int32 → gx_MM → Prop} (hm : vm J f hs n sn ha tx tl re) (hr : p0 = nI r) (hq : p1 = nI q) (hb : 10 + 20 * r + q < 298) (h : Q (f (10 + 20 * r + q)) J) : wp_X8_of 0 p0 p1 J Q := by
  have e : (10 : Int32) + (20 : Int32) * p0 + p1 = nI (10 + 20 * r + q) := by rw [hr, hq, show (10 : Int32) = nI 10 from rfl, show (20 : Int32) = nI 20 from rfl, pk_mul, nI_add, nI_add]
  unfold wp_X8_of
  refine ⟨ix_of (N := 298) e hb, ?_⟩
  rw [cl_of e, hm.1 _ hb]
  exact h
theorem s8_put {Q : gx_MM → Prop} (hm : vm J f hs n sn ha tx tl re) (hr : p0 = nI r) (hq : p1 = nI q) (hb : 10 + 20 * r + q < 298) (h : ∀ J', vm J' (upd f (10 + 20 * r + q) p2) hs n sn ha tx tl re → (∀ a, a ≠ 1 → J'.1 a = J.1 a) → Q J') : wp_X8_put 0 p0 p1 p2 J Q := by
  have e : (10 : Int32) + (20 : Int32) * p0 + p1 = nI (10 + 20 * r + q) := by rw [hr, hq, show (10 : Int32) = nI 10 from rfl, show (20 : Int32) = nI 20 from rfl, pk_mul, nI_add, nI_add]
  unfold wp_X8_put
  refine ⟨ix_of (N := 298) e hb, fun J1 e1 => ?_⟩
  rw [cl_of e] at e1
  rw [e1]
  exact h _ hm.put (fun a ha => um_ne ha)
theorem s8_ofG {Q : Int32 → gx_MM → Prop} (hm : vm J f hs n sn ha tx tl re) (hr : p0 = nI r) {k w : Nat} (hk : p1 = nI k) (hw : p2 = nI w) (hb : 10 + 20 * r + (9 + 3 * k + w) < 298) (h : Q (f (10 + 20 * r + (9 + 3 * k + w))) J) : wp_X8_ofGauge 0 p0 p1 p2 J Q := by
  unfold wp_X8_ofGauge
  exact s8_of hm hr (q := 9 + 3 * k + w) (by rw [hk, hw, show (9 : Int32) = nI 9 from rfl, show (3 : Int32) = nI 3 from rfl, pk_mul, nI_add, nI_add]) hb h
theorem s8_putG {Q : gx_MM → Prop} (hm : vm J f hs n sn ha tx tl re) (hr : p0 = nI r) {k w : Nat} {v : Int32} (hk : p1 = nI k) (hw : p2 = nI w) (hb : 10 + 20 * r + (9 + 3 * k + w) < 298) (h : ∀ J', vm J' (upd f (10 + 20 * r + (9 + 3 * k + w)) v) hs n sn ha tx tl re → (∀ a, a ≠ 1 → J'.1 a = J.1 a) → Q J') : wp_X8_putGauge 0 p0 p1 p2 v J Q := by
  unfold wp_X8_putGauge
  exact s8_put hm hr (q := 9 + 3 * k + w) (by rw [hk, hw, show (9 : Int32) = nI 9 from rfl, show (3 : Int32) = nI 3 from rfl, pk_mul, nI_add, nI_add]) hb h
theorem s8_no {Q : Int32 → gx_MM → Prop} (h0 : J.1 1 0 = nI m) (hm : m ≤ 8) (h1 : ∀ r, r < m → p = nI r → Q 0 J) (h2 : (∀ r, r < m → ¬ p = nI r) → Q 1 J) : wp_X8_noRosette 0 p J Q := by
  unfold wp_X8_noRosette
  refine ⟨ix_of (n := 0) (N := 298) rfl (by decide), ?_⟩
  have e0 : J.1 (0 + 1) (0 : Int32).toNatClampNeg = nI m := h0
  rw [e0]
  have e1 : (nI m - nI 1).toInt = (m : Int) - (1 : Nat) := pk_sub_toInt (by omega) (by omega)
  refine s8_w (fun c1 c2 => ⟨fun h => absurd h (by decide), fun _ => ?_⟩) (fun c => ⟨fun _ => h2 fun r hr e => c ⟨?_, ?_⟩, fun h => absurd rfl h⟩)
  · obtain ⟨r, hr, e⟩ := nI_of (i_nlt.mpr c1)
    refine h1 r ?_ e
    have c3 : p.toInt ≤ (nI m - nI 1).toInt := Int32.le_iff_toInt_le.mp c2
    rw [e1, e, nI_toInt hr] at c3
    omega
  · rw [e]; exact nI_pos' (by omega)
  · refine Int32.le_iff_toInt_le.mpr ?_
    show p.toInt ≤ (nI m - nI 1).toInt
    rw [e1, e, nI_toInt (by omega)]
    omega
theorem s8_no_t {Q : Int32 → gx_MM → Prop} (h0 : J.1 1 0 = nI m) (hm : m ≤ 8) (hr : r < m) (hp : p = nI r) (h1 : Q 0 J) : wp_X8_noRosette 0 p J Q := s8_no h0 hm (fun _ _ _ => h1) (fun h => absurd hp (h r hr))
theorem s8_no_f {Q : Int32 → gx_MM → Prop} (h0 : J.1 1 0 = nI m) (hm : m ≤ 8) (hp : ∀ r, r < m → ¬ p = nI r) (h1 : Q 1 J) : wp_X8_noRosette 0 p J Q := s8_no h0 hm (fun r hr e => absurd e (hp r hr)) (fun _ => h1)
theorem s8_job {Q : Int32 → gx_MM → Prop} (hm : vm J f hs n sn ha tx tl re) {j : Nat} (hr : p0 = nI j) (hq : p1 = nI q) (hb : 4 * j + q < 80) (h : Q (f (170 + (4 * j + q))) J) : wp_X8_ofJob 0 p0 p1 J Q := by
  have e : (170 : Int32) + (4 : Int32) * p0 + p1 = nI (170 + (4 * j + q)) := by rw [hr, hq, show (170 : Int32) = nI 170 from rfl, show (4 : Int32) = nI 4 from rfl, pk_mul, nI_add, nI_add, Nat.add_assoc]
  unfold wp_X8_ofJob
  refine ⟨ix_of (N := 298) e (by omega), ?_⟩
  rw [cl_of e, hm.1 _ (by omega)]
  exact h
theorem s5_jobs {Q : Int32 → gx_M → Prop} (hx : vx I f hs n sn ha tx tl re) (hg : gd f m w k) {j : Nat} (hp : p0 = nI j) (hj : j < w) (hc : p1 = nI q) (hq : q < 4) (h : Q (f (170 + (4 * j + q))) I) : wp_X5_at 3 p0 p1 I Q := by
  have hw := hg.2.2.2.1
  refine s5_at (hx.wo hg) (by show 4 * w ≤ 80; omega) hp hj hc hq ?_
  have e : I (3 + 1) (4 * j + q) = f (170 + (4 * j + q)) := hx.jo (by omega)
  rw [e]
  exact h
end RX
/-! changes of a good row that keep it good -/
theorem gr_upd {f : Nat → Int32} {r o : Nat} {v : Int32} (h : gr f r) (ho : o < 10 + 20 * r ∨ 10 + 20 * r + 18 ≤ o) : gr (upd f o v) r := by
  unfold gr
  have e : ∀ q, q < 18 → upd f o v (10 + 20 * r + q) = f (10 + 20 * r + q) := fun q hq => upd_n (by omega)
  obtain ⟨a1, a2, a3, a4, a5, a6, a7, a8⟩ := h
  rw [e 0 (by omega), e 1 (by omega), e 2 (by omega), e 3 (by omega), e 4 (by omega), e 8 (by omega)]
  refine ⟨a1, a2, a3, a4, a5, fun q hq => by rw [e (5 + q) (by omega)]; exact a6 q hq, a7, fun k hk => ?_⟩
  rw [e (9 + 3 * k + 0) (by omega), e (9 + 3 * k + 1) (by omega), e (9 + 3 * k + 2) (by omega)]
  exact a8 k hk
theorem gj_upd {f : Nat → Int32} {m j o : Nat} {v : Int32} (h : gj f m j) (ho : o < 170 + 4 * j ∨ 170 + 4 * j + 4 ≤ o) : gj (upd f o v) m j := by
  unfold gj
  rw [upd_n (by omega), upd_n (by omega), upd_n (by omega)]
  exact h
/-- a rosette's number is written -/
theorem gd_ros {f : Nat → Int32} {m w k r q : Nat} {v : Int32} (h : gd f m w k) (hr : r < m) (hq : q < 18) (hv : gr (upd f (10 + 20 * r + q) v) r) : gd (upd f (10 + 20 * r + q) v) m w k := by
  obtain ⟨a1, a2, a3, a4, a5, a6, a7, a8, a9, a10⟩ := h
  refine ⟨by rw [upd_n (by omega)]; exact a1, a2, by rw [upd_n (by omega)]; exact a3, a4, by rw [upd_n (by omega)]; exact a5, a6, by rw [upd_n (by omega)]; exact a7, by rw [upd_n (by omega)]; exact a8, fun r2 hr2 => ?_, fun j hj => gj_upd (a10 j hj) (by omega)⟩
  by_cases e : r2 = r
  · rw [e]; exact hv
  · exact gr_upd (a9 r2 hr2) (by omega)
theorem up_at {f : Nat → Int32} {o o2 : Nat} {v : Int32} : upd f o v o2 = if o2 = o then v else f o2 := rfl
/-! the first steps -/
theorem st_undo : ∀ (I : gx_M) (J : gx_MM), gv_Inv I J → wp_X7_undo 0 I (fun r I1 => wp_X8_undo 0 J (fun r2 J1 => r = r2 ∧ gv_Inv I1 J1)) := by
  intro I J hI
  obtain ⟨f, hs, n, sn, ha, tx, tl, re, hx, hm, gf, gh, gs⟩ := id hI
  have a1 : I 77 1 = nI n := hx.2.1
  have b1 : J.1 0 2 = nI n := hm.2.1
  have hn : n ≤ 5 := hx.2.2.1
  unfold wp_X7_undo wp_X0_takeLatest wp_X8_undo
  refine ⟨fun c => ?_, fun c => ⟨fun _ I1 e1 => ?_, fun c5 => absurd ((n_le (b := 5) a1 rfl).mpr hn) c5⟩⟩
  · have hn0 : n = 0 := by
      have := (n_le (b := 0) a1 rfl).mp c
      omega
    refine ⟨fun _ => ⟨fun _ => ⟨rfl, hI⟩, fun h => absurd (by rw [b1, hn0]; rfl) h⟩, fun b hb => by cases hb⟩
  · have hn0 : 0 < n := Nat.pos_of_ne_zero fun q => c ((n_le (b := 0) a1 rfl).mpr (by omega))
    have e1 : I1 = up I 77 1 (I 77 1 - 1) := e1
    have v1 : I1 77 1 = nI (n - 1) := by rw [e1, up_eq, upd_s]; exact n_sub (b := 1) a1 rfl
    have z : ∀ a, a ≠ 77 → I1 a = I a := fun a h => by rw [e1, up_ne h]
    have hc : (I1 77 1).toNatClampNeg = n - 1 := cl_of v1
    refine ⟨ix_of (N := 5) v1 (by omega), ?_⟩
    refine ⟨fun h => (by cases h), fun b hb hk => ?_⟩
    have hb : some (sd (I1 78 (I1 77 1).toNatClampNeg)) = some b := hb
    rw [hc, z 78 (by decide)] at hb
    have hb : sd (I 78 (n - 1)) = b := Option.some.inj hb
    obtain ⟨x0, x1, x2, x3, x4, x5, x6, x7, x8, x9, x10, x11, x12⟩ := hx
    have hsd := sd_in (I 78 (n - 1))
    have hx1 : vx I1 f hs (n - 1) sn ha tx tl re := by
      refine ⟨fun o ho => ?_, v1, by omega, by rw [z 78 (by decide)]; exact x3, by rw [z 78 (by decide)]; exact x4, fun i hi o ho => ?_, by rw [z 0 (by decide)]; exact x6, x7, fun q o ho => ?_, by rw [z 0 (by decide)]; exact x9, by rw [z 269 (by decide)]; exact x10, x11, by rw [z 270 (by decide)]; exact x12⟩
      · rw [fl_same (fun a h1 h2 => z a (by omega)) ho]; exact x0 o ho
      · rw [z 78 (by decide)]
        have := sd_in (I 78 i)
        rw [fl_same (fun a h1 h2 => z a (by omega)) ho]; exact x5 i (by omega) o ho
      · rw [fl_same (fun a h1 h2 => z a (by omega)) ho]; exact x8 q o ho
    refine s6_into (b := b) (g := hs (n - 1)) hk (by omega) hx1 (fun o ho => ?_) fun I2 hx2 => ?_
    · rw [← hb, fl_same (fun a h1 h2 => z a (by omega)) ho]
      exact x5 (n - 1) (by omega) o ho
    · refine ⟨fun h => ?_, fun _ J1 f1 => ?_⟩
      · have := (n_eq (b := 0) b1 rfl).mp h
        omega
      · obtain ⟨y1, y2, y3, y4, y5, y6, y7, y8, y9, y10⟩ := hm
        have w1 : J1.1 0 2 = nI (n - 1) := by rw [f1, um_eq, upd_s]; exact n_sub (b := 1) b1 rfl
        have w0 : ∀ k, k ≠ 2 → J1.1 0 k = J.1 0 k := fun k hk => by rw [f1, um_eq, upd_n hk]
        have wa : ∀ a, a ≠ 0 → J1.1 a = J.1 a := fun a h => by rw [f1, um_ne h]
        refine ⟨298 + 1, ?_⟩
        have key : ∀ (d i : Nat), i + d = 298 → ∀ (J2 : gx_MM) (v : Int32), v = nI i → (∀ a, a ≠ 1 → J2.1 a = J1.1 a) → (∀ o, o < i → J2.1 1 o = hs (n - 1) o) → wl_X8_undo_22 (fun r2 J1 => I2 77 1 = r2 ∧ gv_Inv I2 J1) (d + 1) 0 v J2 := by
          intro d
          induction d with
          | zero =>
            intro i hi J2 v hv g1 g2
            have hi5 : i = 298 := by omega
            subst hi5
            rw [wl_X8_undo_22]
            refine ⟨fun _ => ⟨?_, hs (n - 1), hs, n - 1, sn, ha, tx, tl, re, hx2, ⟨g2, ?_, by omega, fun i hi o ho => ?_, ?_, ?_, ?_, ?_, y9, ?_⟩, gh _ (by omega), fun i hi => gh i (by omega), gs⟩, fun h => absurd ((n_le (a := 298) rfl hv).mpr (by omega)) h⟩
            · rw [hx2.2.1, g1 0 (by decide), w1]
            · rw [g1 0 (by decide), w1]
            · rw [g1 2 (by decide), wa 2 (by decide)]; exact y4 i (by omega) o ho
            · rw [g1 0 (by decide), w0 4 (by decide)]; exact y5
            · rw [g1 3 (by decide), wa 3 (by decide)]; exact y6
            · rw [g1 0 (by decide), w0 5 (by decide)]; exact y7
            · rw [g1 0 (by decide), w0 12 (by decide)]; exact y8
            · rw [g1 5 (by decide), wa 5 (by decide)]; exact y10
          | succ d ih =>
            intro i hi J2 v hv g1 g2
            rw [wl_X8_undo_22]
            have e0 : J2.1 0 2 = nI (n - 1) := by rw [g1 0 (by decide)]; exact w1
            have ei : (298 : Int32) * (J2.1 0 2) + v = nI (298 * (n - 1) + i) := by rw [e0, hv, show (298 : Int32) = nI 298 from rfl, pk_mul, nI_add]
            have hc : v.toNatClampNeg = i := cl_of hv
            have hc2 : ((298 : Int32) * (J2.1 0 2) + v).toNatClampNeg = 298 * (n - 1) + i := cl_of ei
            refine ⟨fun h => absurd ((n_le (a := 298) rfl hv).mp h) (by omega), fun _ => ⟨ix_of (N := 1490) ei (by omega), ix_of (N := 298) hv (by omega), fun J3 e3 x ex => ?_⟩⟩
            rw [hc, hc2] at e3
            have e3 : J3 = um J2 1 i (J2.1 2 (298 * (n - 1) + i)) := e3
            refine ih (i + 1) (by omega) J3 x (by rw [ex]; exact n_add hv rfl) (fun a h => by rw [e3, um_ne h, g1 a h]) (fun o ho => ?_)
            rw [e3, um_eq]
            by_cases e : o = i
            · rw [e, upd_s, g1 2 (by decide), wa 2 (by decide)]; exact y4 _ (by omega) i (by omega)
            · rw [upd_n e]; exact g2 o (by omega)
        exact key 298 0 rfl J1 0 rfl (fun _ _ => rfl) (fun o ho => absurd ho (by omega))
