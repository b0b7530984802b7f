/-! the reference's numbers -/
def fo (p : Int32) : Int32 := if p = 0 then 10000 else if p = 1 then 9659 else if p = 2 then 8660 else if p = 3 then 7071 else if p = 4 then 5000 else if p = 5 then 2588 else 0
theorem s8_fo {p : Int32} {J : gx_MM} {Q : Int32 → gx_MM → Prop} (h : Q (fo p) J) : wp_X8_firstOf p J Q := by
  unfold fo at h
  refine ⟨fun c => ?_, fun c => ?_, fun c => ?_, fun c => ?_, fun c => ?_, fun c => ?_, fun c0 c1 c2 c3 c4 c5 => ?_⟩
  · rw [if_pos c] at h; exact h
  · subst c; exact h
  · subst c; exact h
  · subst c; exact h
  · subst c; exact h
  · subst c; exact h
  · rw [if_neg c0, if_neg c1, if_neg c2, if_neg c3, if_neg c4, if_neg c5] at h; exact h
def co2 (u : Int32) : Int32 := if 6 < u then -fo (12 - u) else fo u
def co (p : Int32) : Int32 := if p ≤ 12 then co2 p else co2 (24 - p)
theorem s8_co2 {p : Int32} {J : gx_MM} {Q : Int32 → gx_MM → Prop} (h : Q (co2 p) J) : wj_X8_cos_14 Q p J := by
  unfold co2 at h
  refine ⟨fun c => ?_, fun c => ?_⟩
  · rw [if_pos c] at h; exact s8_fo h
  · rw [if_neg c] at h; exact s8_fo h
theorem s8_co {p : Int32} {J : gx_MM} {Q : Int32 → gx_MM → Prop} (h : Q (co p) J) : wp_X8_cos p J Q := by
  unfold co at h
  refine ⟨fun c => ?_, fun c => ?_⟩
  · rw [if_pos c] at h; exact s8_co2 h
  · rw [if_neg c] at h; exact s8_co2 h
def si (p : Int32) : Int32 := if p < 6 then co (6 - p) else co (p - 6)
theorem s8_si {p : Int32} {J : gx_MM} {Q : Int32 → gx_MM → Prop} (h : Q (si p) J) : wp_X8_sin p J Q := by
  unfold si at h
  refine ⟨fun c => ?_, fun c => ?_⟩
  · rw [if_pos c] at h; exact s8_co h
  · rw [if_neg c] at h; exact s8_co h
theorem co_t : ∀ t, t < 24 → co (nI t) = gx_cos t := by decide +kernel
theorem si_t : ∀ t, t < 24 → si (nI t) = gx_sin t := by decide +kernel
section MY
variable {J : gx_MM} {f : Nat → Int32} {hs : Nat → Nat → Int32} {n : Nat} {sn : Nat → Int32} {ha : Nat} {tx : Nat → Int32} {tl : Nat} {re : Int32} {m w k r i : Nat} {p p0 p1 p2 : Int32}
theorem s8_q {q : Nat} {Q : Int32 → gx_MM → Prop} (hm : vm J f hs n sn ha tx tl re) (hr : p0 = nI r) (hr8 : r < 8) (hq : p1 = nI q) (hq9 : q < 9) (h : Q (qr f r q) J) : wp_X8_of 0 p0 p1 J Q := s8_of hm hr hq (by omega) h
theorem s8_g {w : Nat} {Q : Int32 → gx_MM → Prop} (hm : vm J f hs n sn ha tx tl re) (hr : p0 = nI r) (hr8 : r < 8) (hi : p1 = nI i) (hi3 : i < 3) (hw : p2 = nI w) (hw3 : w < 3) (h : Q (qg f r i w) J) : wp_X8_ofGauge 0 p0 p1 p2 J Q := s8_ofG hm hr hi hw (by omega) h
theorem s8_led {Q : Int32 → gx_MM → Prop} (hm : vm J f hs n sn ha tx tl re) (hr : p0 = nI r) (hr8 : r < 8) (hg : gr f r) (h : Q (ld f r p) J) : wp_X8_led 0 p0 p J Q := by
  obtain ⟨l, l1, l2⟩ := qr_L hg
  have hd := led_nz (qr_R hg) l1 l2
  unfold wp_X8_led
  refine s8_q hm hr hr8 (q := 2) rfl (by decide) fun x1 e1 => s8_q hm hr hr8 (q := 4) rfl (by decide) ?_
  rw [e1]
  exact ⟨hd, h⟩
theorem s8_sv {Q : Int32 → gx_MM → Prop} (hm : vm J f hs n sn ha tx tl re) (hr : p0 = nI r) (hr8 : r < 8) (hg : gr f r) (hz : ∃ z : Nat, f 3 = nI z ∧ 20 ≤ z ∧ z ≤ 500) (h : Q (sv f r) J) : wp_X8_shuntValue 0 p0 J Q := by
  obtain ⟨z, z1, z2, z3⟩ := hz
  obtain ⟨s1, s2, s3, s4⟩ := sv_x z z3 z2 _ (qr_R hg)
  have e3 : J.1 (0 + 1) (3 : Int32).toNatClampNeg = f 3 := hm.1 3 (by decide)
  unfold wp_X8_shuntValue
  refine s8_q hm hr hr8 (q := 2) rfl (by decide) (s8_q hm hr hr8 (q := 2) rfl (by decide) ⟨ix_of (n := 3) (N := 298) rfl (by decide), ?_⟩)
  rw [e3]
  exact ⟨by rw [z1]; exact s2, h⟩
theorem s8_stn {Q : Int32 → gx_MM → Prop} (hm : vm J f hs n sn ha tx tl re) (hr : p0 = nI r) (hr8 : r < 8) (hi : p1 = nI i) (hi3 : i < 3) (h : Q (stn f r i) J) : wp_X8_strainOf 0 p0 p1 J Q := by
  unfold wp_X8_strainOf
  unfold stn at h
  refine s8_q hm hr hr8 (q := 5) rfl (by decide) (s8_q hm hr hr8 (q := 6) rfl (by decide) (s8_q hm hr hr8 (q := 7) rfl (by decide) ⟨fun c => ?_, fun c => s8_q hm hr hr8 (q := 1) rfl (by decide) ⟨fun c2 => ⟨fun c3 => ?_, fun c3 => ?_⟩, fun c2 x1 e1 x2 e2 => ⟨fun c3 => ?_, fun c3 => ?_⟩⟩⟩))
  · rw [if_pos ((n_eq (b := 0) hi rfl).mp c)] at h; exact h
  · rw [if_neg (fun q => c ((n_eq (b := 0) hi rfl).mpr q)), if_pos c2, if_pos ((n_eq (b := 1) hi rfl).mp c3)] at h; exact h
  · rw [if_neg (fun q => c ((n_eq (b := 0) hi rfl).mpr q)), if_pos c2, if_neg (fun q => c3 ((n_eq (b := 1) hi rfl).mpr q))] at h; exact h
  · rw [if_neg (fun q => c ((n_eq (b := 0) hi rfl).mpr q)), if_neg c2, if_pos ((n_eq (b := 1) hi rfl).mp c3)] at h; rw [e1, e2]; exact h
  · rw [if_neg (fun q => c ((n_eq (b := 0) hi rfl).mpr q)), if_neg c2, if_neg (fun q => c3 ((n_eq (b := 1) hi rfl).mpr q))] at h; rw [e1, e2]; exact h
/-- what all these need -/
def gm (f : Nat → Int32) (r : Nat) : Prop := r < 8 ∧ gr f r ∧ ∃ z : Nat, f 3 = nI z ∧ 20 ≤ z ∧ z ≤ 500
theorem gd_gm (hg : gd f m w k) (hr : r < m) : gm f r := ⟨by have := hg.2.1; omega, hg.2.2.2.2.2.2.2.2.1 r hr, hg.2.2.2.2.2.2.1⟩
def sby (f : Nat → Int32) (r i : Nat) (p : Int32) : Int32 := if p = 1 then onn f r i else off f r i
theorem s8_sig {Q : Int32 → gx_MM → Prop} (hm : vm J f hs n sn ha tx tl re) (hr : p0 = nI r) (hg : gm f r) (hi : p1 = nI i) (hi3 : i < 3) (h : Q (sby f r i p2) J) : wp_X8_signalOf 0 p0 p1 p2 J Q := by
  obtain ⟨hr8, hg, hz⟩ := hg
  unfold sby at h
  unfold wp_X8_signalOf
  refine s8_g hm hr hr8 hi hi3 (w := 0) rfl (by decide) (s8_led hm hr hr8 hg (s8_stn hm hr hr8 hi hi3 (s8_q hm hr hr8 (q := 3) rfl (by decide) (s8_led hm hr hr8 hg fun x1 e1 => ⟨fun c => s8_sv hm hr hr8 hg hz (s8_led hm hr hr8 hg fun x2 e2 => s8_g hm hr hr8 hi hi3 (w := 1) rfl (by decide) ?_), fun c x2 e2 => s8_g hm hr hr8 hi hi3 (w := 1) rfl (by decide) ?_⟩))))
  · rw [if_pos c] at h
    have e : x2 - qg f r i 1 = onn f r i := by
      rw [e2, e1]
      unfold onn off
      rw [Int32.sub_eq_add_neg, Int32.sub_eq_add_neg, Int32.add_assoc, Int32.add_assoc _ (-_), Int32.add_comm (-_)]
    rw [e]; exact h
  · rw [if_neg c] at h
    have e : x2 - qg f r i 1 = off f r i := by
      rw [e2, e1, Int32.add_zero]; rfl
    rw [e]; exact h
theorem s8_rby {Q : Int32 → gx_MM → Prop} (hm : vm J f hs n sn ha tx tl re) (hr : p0 = nI r) (hg : gm f r) (hi : p1 = nI i) (hi3 : i < 3) (h : Q (lim (sby f r i p2)) J) : wp_X8_readingBy 0 p0 p1 p2 J Q := by
  unfold wp_X8_readingBy
  refine s8_sig hm hr hg hi hi3 ⟨fun c => ⟨fun c2 => ?_, fun c2 => ?_⟩, fun c => ?_⟩
  · rw [lim_le c c2] at h; exact h
  · rw [lim_hi c2] at h; exact h
  · rw [lim_lo c] at h; exact h
theorem sby_su (hg : gm f r) : sby f r i (qr f r 8) = sgn f r i := by
  obtain ⟨s, s1, s2⟩ := hg.2.1.2.2.2.2.2.2.1
  have s1 : qr f r 8 = nI s := s1
  have : s = 0 ∨ s = 1 := by omega
  unfold sby sgn
  rcases this with h | h
  · rw [s1, h, if_neg (by decide), if_pos (by decide)]
  · rw [s1, h, if_pos (by decide), if_neg (by decide)]
theorem s8_rdg {Q : Int32 → gx_MM → Prop} (hm : vm J f hs n sn ha tx tl re) (hr : p0 = nI r) (hg : gm f r) (hi : p1 = nI i) (hi3 : i < 3) (h : Q (rdg f r i) J) : wp_X8_readingOf 0 p0 p1 J Q := by
  unfold wp_X8_readingOf
  refine s8_q hm hr hg.1 (q := 8) rfl (by decide) (s8_rby hm hr hg hi hi3 ?_)
  rw [sby_su hg]
  exact h
theorem s8_stp {Q : Int32 → gx_MM → Prop} (hm : vm J f hs n sn ha tx tl re) (hr : p0 = nI r) (hg : gm f r) (hi : p1 = nI i) (hi3 : i < 3) (h : Q (stp f r i) J) : wp_X8_stepOf 0 p0 p1 J Q := by
  unfold wp_X8_stepOf
  refine s8_rby hm hr hg hi hi3 (s8_rby hm hr hg hi hi3 ?_)
  exact h
theorem sby_bd (hg : gm f r) (hi : i < 3) : -100000 ≤ (sby f r i p).toInt ∧ (sby f r i p).toInt ≤ 100000 := by
  have h1 := off_bd hg.2.1 hi
  have h2 := onn_bd hg.2.1 hg.2.2 hi
  unfold sby
  split <;> omega
theorem s8_over {Q : Int32 → gx_MM → Prop} (hm : vm J f hs n sn ha tx tl re) (hr : p0 = nI r) (hg : gm f r) (hi : p1 = nI i) (hi3 : i < 3) (h : Q (if bey (sby f r i p2) = true then 1 else 0) J) : wp_X8_isOver 0 p0 p1 p2 J Q := by
  have hb := bey_abi (sby_bd hg hi3 (p := p2))
  unfold wp_X8_isOver
  refine s8_sig hm hr hg hi hi3 (s8_size ?_)
  refine ⟨fun c => ?_, fun c => ?_⟩
  · have c := hb.mp c
    rw [c, if_neg (by decide)] at h; exact h
  · have c : bey (sby f r i p2) = true := by
      cases hq : bey (sby f r i p2) with
      | true => rfl
      | false => exact absurd (hb.mpr hq) c
    rw [c, if_pos rfl] at h; exact h
theorem s8_ovs {Q : Int32 → gx_MM → Prop} (hm : vm J f hs n sn ha tx tl re) (hr : p0 = nI r) (hg : gm f r) (h : Q (ovc f r 3) J) : wp_X8_overloaded 0 p0 J Q := by
  have key : ∀ (d i : Nat), i + d = 3 → ∀ (v2 v3 : Int32), v2 = ovc f r i → v3 = nI i → wl_X8_overloaded_4 Q (d + 1) 0 p0 v2 v3 J := by
    intro d
    induction d with
    | zero =>
      intro i hi v2 v3 e2 e3
      rw [wl_X8_overloaded_4]
      exact ⟨fun _ => by rw [e2, show i = 3 by omega]; exact h, fun h => absurd ((n_le (a := 3) rfl e3).mpr (by omega)) h⟩
    | succ d ih =>
      intro i hi v2 v3 e2 e3
      rw [wl_X8_overloaded_4]
      refine ⟨fun h => absurd ((n_le (a := 3) rfl e3).mp h) (by omega), fun _ => s8_q hm hr hg.1 (q := 8) rfl (by decide) (s8_over hm hr hg e3 (by omega) ?_)⟩
      rw [sby_su hg]
      refine ⟨fun c x1 ex1 x2 ex2 => ih (i + 1) (by omega) x1 x2 ?_ (by rw [ex2]; exact n_add e3 rfl), fun c x1 ex1 x2 ex2 => ih (i + 1) (by omega) x1 x2 ?_ (by rw [ex2]; exact n_add e3 rfl)⟩
      · conv => rhs; unfold ovc
        rw [if_neg (fun q => by rw [if_pos q] at c; exact absurd c (by decide)), ex1, e2, Int32.add_zero]
      · conv => rhs; unfold ovc
        rw [if_pos (Classical.byContradiction fun q => by rw [if_neg q] at c; exact c rfl), ex1, e2]
  exact ⟨3 + 1, key 3 0 rfl 0 0 rfl rfl⟩
theorem s8_zd {Q : Int32 → gx_MM → Prop} (hm : vm J f hs n sn ha tx tl re) (hr : p0 = nI r) (hg : gm f r) (hi : p1 = nI i) (hi3 : i < 3) (h : Q (qg f r i 1 + sgn f r i) J) : wp_X8_zeroDue 0 p0 p1 J Q := by
  unfold wp_X8_zeroDue
  refine s8_q hm hr hg.1 (q := 8) rfl (by decide) (s8_sig hm hr hg hi hi3 (s8_g hm hr hg.1 hi hi3 (w := 1) rfl (by decide) ?_))
  rw [sby_su hg, Int32.add_comm]
  exact h
theorem s8_crr {Q : Int32 → gx_MM → Prop} (hm : vm J f hs n sn ha tx tl re) (hr : p0 = nI r) (hg : gm f r) (hi : p1 = nI i) (hi3 : i < 3) (h : Q (crr f r i) J) : wp_X8_correctedOf 0 p0 p1 J Q := by
  obtain ⟨c, cc1, cc2, cc3⟩ := qr_f hg.2.1
  have hnz : ¬ Int32.toInt64 (qr f r 3) = 0 := by
    intro q
    have : (Int32.toInt64 (qr f r 3)).toInt = c := by rw [Int32.toInt_toInt64, cc1, nI_toInt (by omega)]
    rw [q] at this
    have : (0 : Int64).toInt = 0 := rfl
    omega
  unfold wp_X8_correctedOf
  refine s8_rdg hm hr hg hi hi3 (s8_g hm hr hg.1 hi hi3 (w := 2) rfl (by decide) fun x1 e1 => s8_q hm hr hg.1 (q := 3) rfl (by decide) ⟨hnz, ?_⟩)
  rw [e1]
  exact h
def lon (f : Nat → Int32) (r : Nat) (J : gx_MM) : Prop := J.2 6 = Int32.toInt64 (mx f r) ∧ J.2 7 = Int32.toInt64 (my f r) ∧ J.2 8 = Int32.toInt64 (mg f r)
theorem s8_pul {Q : Int64 → gx_MM → Prop} {t : Nat} (hg : gm f r) (hl : lon f r J) (ht : t < 24) (hp : p = nI t) (h : Q (pul f r t) J) : wp_X8_pullOf 0 p J Q := by
  obtain ⟨l1, l2, l3⟩ := hl
  unfold wp_X8_pullOf
  refine s8_co (s8_si ?_)
  rw [hp, co_t t ht, si_t t ht, l1, l2, l3, ← mxy_l hg.2.1]
  exact h
theorem ul_s {J : gx_MM} {q : Nat} {v : Int64} : (ul J q v).2 q = v := if_pos rfl
theorem ul_n {J : gx_MM} {q q2 : Nat} {v : Int64} (h : q2 ≠ q) : (ul J q v).2 q2 = J.2 q2 := if_neg h
theorem s8_find {Q : gx_MM → Prop} (hm : vm J f hs n sn ha tx tl re) (hr : p0 = nI r) (hg : gm f r) (hQ : ∀ J' : gx_MM, vm J' f hs n sn ha tx tl re → lon f r J' → J'.1 0 9 = (bst f r 23).1 → J'.2 10 = (bst f r 23).2 → Q J') : wp_X8_find 0 p0 J Q := by
  have key : ∀ (d i : Nat), i + d = 23 → ∀ (J3 : gx_MM) (v3 : Int32), v3 = nI (i + 1) → vm J3 f hs n sn ha tx tl re → lon f r J3 → J3.1 0 9 = (bst f r i).1 → J3.2 10 = (bst f r i).2 → wl_X8_find_121 Q (d + 1) 0 v3 J3 := by
    intro d
    induction d with
    | zero =>
      intro i hi J3 v3 hv g1 g2 g3 g4
      have hi : i = 23 := by omega
      subst hi
      rw [wl_X8_find_121]
      exact ⟨fun _ => hQ J3 g1 g2 g3 g4, fun h => absurd ((n_le (a := 24) rfl hv).mpr (by omega)) h⟩
    | succ d ih =>
      intro i hi J3 v3 hv g1 g2 g3 g4
      rw [wl_X8_find_121]
      refine ⟨fun h => absurd ((n_le (a := 24) rfl hv).mp h) (by omega), fun _ => s8_pul (t := i + 1) hg g2 (by omega) hv ?_⟩
      rw [g4]
      refine ⟨fun c x ex => ?_, fun c => s8_pul (t := i + 1) hg g2 (by omega) hv fun J4 e4 J5 e5 x ex => ?_⟩
      · have eb : bst f r (i + 1) = bst f r i := by
          conv => lhs; unfold bst
          rw [if_pos c]
        exact ih (i + 1) (by omega) J3 x (by rw [ex]; exact n_add hv rfl) g1 g2 (by rw [eb]; exact g3) (by rw [eb]; exact g4)
      · have eb : bst f r (i + 1) = (nI (i + 1), pul f r (i + 1)) := by
          conv => lhs; unfold bst
          rw [if_neg c]
        have u1 : J4.1 = J3.1 := by rw [e4]; rfl
        have u2 : J5.2 = J4.2 := by rw [e5]; rfl
        refine ih (i + 1) (by omega) J5 x (by rw [ex]; exact n_add hv rfl) (g1.fr (fun a ha => by rw [e5, um_ne (by omega), u1]) (fun q hq => ?_)) ?_ ?_ ?_
        · rw [e5, um_eq, upd_n (by omega), u1]
        · unfold lon
          rw [u2, e4, ul_n (by decide), ul_n (by decide), ul_n (by decide)]
          exact g2
        · rw [eb, e5, um_eq, upd_s]; exact hv
        · rw [eb, u2, e4, ul_s]
  have fin : ∀ J9 : gx_MM, J9.1 = J.1 → lon f r J9 → wj_X8_find_104 Q 0 J9 := by
    intro J9 g1 g2 J10 e10
    have u2 : J10.2 = J9.2 := by rw [e10]; rfl
    have hl : lon f r J10 := by unfold lon; rw [u2]; exact g2
    refine s8_pul (t := 0) hg hl (by decide) rfl fun J11 e11 => ⟨23 + 1, key 23 0 rfl J11 1 rfl (hm.fr (fun a ha => ?_) (fun q hq => ?_)) ?_ ?_ ?_⟩
    · have u1 : J11.1 = J10.1 := by rw [e11]; rfl
      rw [u1, e10, um_ne (by omega), g1]
    · have u1 : J11.1 = J10.1 := by rw [e11]; rfl
      rw [u1, e10, um_eq, upd_n (by omega), g1]
    · unfold lon
      rw [e11, ul_n (by decide), ul_n (by decide), ul_n (by decide)]
      exact hl
    · have u1 : J11.1 = J10.1 := by rw [e11]; rfl
      rw [u1, e10, um_eq, upd_s]; rfl
    · rw [e11, ul_s]; rfl
  unfold wp_X8_find
  refine s8_crr hm hr hg (i := 0) rfl (by decide) fun x1 e1 => s8_crr hm hr hg (i := 1) rfl (by decide) fun x2 e2 => s8_crr hm hr hg (i := 2) rfl (by decide) fun x3 e3 J4 e4 => ?_
  have u4 : J4.1 = J.1 := by rw [e4]; rfl
  have hm4 : vm J4 f hs n sn ha tx tl re := hm.fr (fun a _ => by rw [u4]) (fun q _ => by rw [u4])
  refine s8_q hm4 hr hg.1 (q := 1) rfl (by decide) ⟨fun c J5 e5 J6 e6 => fin J6 (by rw [e6, e5, e4]; rfl) ?_, fun c J5 e5 J6 e6 => fin J6 (by rw [e6, e5, e4]; rfl) ?_⟩
  · unfold lon
    rw [mg_l hg.2.1, my_l hg.2.1, if_pos c, if_pos c, e6, ul_s, ul_n (by decide), ul_n (by decide), e5, ul_s, ul_n (by decide), e4, ul_s, e1, e2, e3]
    exact ⟨rfl, rfl, rfl⟩
  · unfold lon
    rw [mg_l hg.2.1, my_l hg.2.1, if_neg c, if_neg c, e6, ul_s, ul_n (by decide), ul_n (by decide), e5, ul_s, ul_n (by decide), e4, ul_s, e1, e2, e3]
    exact ⟨rfl, rfl, rfl⟩
end MY
