/-! the save again: also the other numbers stand -/
section H2
variable {J : gx_MM} {f : Nat → Int32} {hs : Nat → Nat → Int32} {n : Nat} {sn : Nat → Int32} {ha : Nat} {tx : Nat → Int32} {tl : Nat} {re : Int32} {Q : gx_MM → Prop}
theorem s8_push2 (h : vm J f hs n sn ha tx tl re) (hn : n < 5) (hQ : ∀ J' : gx_MM, vm J' f (fun i => if i = n then f else hs i) (n + 1) sn ha tx tl re → (∀ a, a ≠ 0 → a ≠ 2 → J'.1 a = J.1 a) → (∀ k, k ≠ 2 → J'.1 0 k = J.1 0 k) → Q J') : wj_X8_save_49 Q 0 J := by
  obtain ⟨a1, a2, a3, a4, a5, a6, a7, a8, a9, a10⟩ := h
  refine ⟨298 + 1, s8_push1 hn (J0 := J) a2 (fun J' g1 g2 g3 g4 g5 => hQ J' ⟨?_, g3, by omega, fun i hi o ho => ?_, ?_, ?_, ?_, ?_, a9, ?_⟩ g1 g2) 298 0 rfl J 0 rfl (fun _ _ => rfl) (fun _ _ => rfl) (fun o ho => absurd ho (by omega))⟩
  · rw [g1 1 (by decide) (by decide)]; exact a1
  · show _ = (if i = n then f else hs i) o
    by_cases e : i = n
    · rw [if_pos e, e, g5 o ho]; exact a1 o ho
    · rw [if_neg e, ← a4 i (by omega) o ho]
      exact g4 _ (by omega)
  · rw [g2 4 (by decide)]; exact a5
  · rw [g1 3 (by decide) (by decide)]; exact a6
  · rw [g2 5 (by decide)]; exact a7
  · rw [g2 12 (by decide)]; exact a8
  · rw [g1 5 (by decide) (by decide)]; exact a10
theorem s8_save2 (h : vm J f hs n sn ha tx tl re) (hQ : ∀ J' : gx_MM, vm J' f (psh hs n f) (psn n) sn ha tx tl re → (∀ a, a ≠ 0 → a ≠ 2 → J'.1 a = J.1 a) → (∀ k, k ≠ 2 → J'.1 0 k = J.1 0 k) → Q J') : wp_X8_save 0 J Q := by
  have a2 : J.1 0 2 = nI n := h.2.1
  have hn : n ≤ 5 := h.2.2.1
  unfold wp_X8_save
  refine ⟨fun c => ?_, fun c => ?_⟩
  · have e5 : n = 5 := (n_eq (b := 5) a2 rfl).mp c
    subst e5
    obtain ⟨a1, a2, a3, a4, a5, a6, a7, a8, a9, a10⟩ := h
    refine ⟨1192 + 1, s8_drop1 (J0 := J) a2 (fun J1 g1 g2 g3 g4 => ?_) 1192 0 rfl J 0 rfl (fun _ _ => rfl) (fun k hk => absurd hk (by omega)) (fun _ _ => rfl)⟩
    have h1 : vm J1 f (fun i => hs (i + 1)) 4 sn ha tx tl re := by
      refine ⟨?_, g3, by decide, fun i hi o ho => ?_, ?_, ?_, ?_, ?_, a9, ?_⟩
      · rw [g1 1 (by decide) (by decide)]; exact a1
      · show _ = hs (i + 1) o
        rw [g4 _ (by omega), ← a4 (i + 1) (by omega) o ho, show 298 * i + o + 298 = 298 * (i + 1) + o by omega]
      · rw [g2 4 (by decide)]; exact a5
      · rw [g1 3 (by decide) (by decide)]; exact a6
      · rw [g2 5 (by decide)]; exact a7
      · rw [g2 12 (by decide)]; exact a8
      · rw [g1 5 (by decide) (by decide)]; exact a10
    exact s8_push2 h1 (by decide) fun J' k1 k2 k3 => hQ J' k1 (fun a h0 h2 => by rw [k2 a h0 h2, g1 a h0 h2]) (fun k hk => by rw [k3 k hk, g2 k hk])
  · have hn5 : n < 5 := by
      refine Nat.lt_of_le_of_ne hn fun q => c ?_
      rw [a2, q]; rfl
    refine s8_push2 h hn5 fun J' k1 k2 k3 => hQ J' ?_ k2 k3
    unfold psh psn
    rw [if_pos hn5, if_pos hn5]
    exact k1
end H2
def rle (R : Option Nat × Nat × (Nat → Int32)) : Prop := ∀ b, R.1 = some b → b ≤ 60
theorem rd_rle {tx : Nat → Int32} {tl : Nat} (ht : tl ≤ 60) : ∀ (fu i c : Nat) (g : Nat → Int32), i ≤ tl → rle (rd tx tl fu i c g) := by
  intro fu
  induction fu with
  | zero =>
    intro i c g hi b hb
    have hb : some i = some b := hb
    cases hb
    omega
  | succ fu ih =>
    intro i c g hi
    have bad : ∀ j, j ≤ tl → rle (some j, c, g) := fun j hj b hb => by
      have hb : some j = some b := hb
      cases hb
      omega
    have fin : ∀ j g', rle (rfin tx tl (rd tx tl fu) j c g') := by
      intro j g'
      unfold rfin
      split
      · split
        · exact ih (j + 1) (c + 1) g' (by omega)
        · exact bad j (by omega)
      · exact fun b hb => (by cases hb)
    unfold rd
    split
    · split
      · exact bad _ (by omega)
      · split
        · split
          · split
            · split
              · split
                · split
                  · exact fin _ _
                  · exact bad _ (by omega)
                · exact bad _ (by omega)
              · exact fin _ _
            · exact fun b hb => (by cases hb)
          · exact bad _ (by omega)
        · exact bad _ (by omega)
    · exact bad _ (by omega)
/-! readJobs; all steps -/
def ajs (f : Nat → Int32) (w : Nat) (g : Nat → Int32) : Nat → Nat → Int32
  | 0 => f
  | j + 1 => aj (ajs f w g j) (w + j) (g (3 * j)) (g (3 * j + 1)) (g (3 * j + 2))
section QX
variable {I : gx_M} {J : gx_MM} {f : Nat → Int32} {hs : Nat → Nat → Int32} {n : Nat} {sn : Nat → Int32} {ha : Nat} {tx : Nat → Int32} {tl : Nat} {re : Int32} {m w k c : Nat} {g : Nat → Int32}
theorem gd_ajs (hg : gd f m w k) (hc : w + c ≤ 20) (ho : gok g c) (hr : ∀ j, j < c → ∃ r, r < m ∧ g (3 * j + 1) = nI r) : ∀ j, j ≤ c → gd (ajs f w g j) m (w + j) k := by
  intro j
  induction j with
  | zero => intro _; exact hg
  | succ j ih =>
    intro hj
    obtain ⟨h1, h2⟩ := ho j (by omega)
    obtain ⟨r, r1, r2⟩ := hr j (by omega)
    exact gd_aj (ih (by omega)) (by omega) h1 ⟨r, r2, r1⟩ h2
theorem s7_chk {Q : Int32 → gx_M → Prop} (hx : vx I f hs n sn ha tx tl re) (hg : gd f m w k) (hrx : rx I c g) (hc : c ≤ 20)
    (hend : (∀ j, j < c → ∃ r, r < m ∧ g (3 * j + 1) = nI r) → ((I (0 + 1 + 2) 1) + (I 271 1) ≤ (20 : Int32) → wp_X0_add 77 1 I (fun I1 => ∃ fu, wl_X7_readJobs_100 Q fu 0 271 (0 : Int32) I1)) ∧ (¬ ((I (0 + 1 + 2) 1) + (I 271 1)) ≤ (20 : Int32) → wp_X7_refuse 0 (1 : Int32) I (fun r1 I2 => Q r1 I2)))
    (hunk : (∃ j, j < c ∧ ∀ r, r < m → ¬ g (3 * j + 1) = nI r) → Q (-1000001) I) : ∃ fu, wl_X7_readJobs_28 Q fu 0 271 (0 : Int32) I := by
  have hm8 := hg.2.1
  have key : ∀ (d i : Nat), i + d = c → ∀ v : Int32, v = nI i → (∀ j, j < i → ∃ r, r < m ∧ g (3 * j + 1) = nI r) → wl_X7_readJobs_28 Q (d + 1) 0 271 v I := by
    intro d
    induction d with
    | zero =>
      intro i hi v hv h
      have hi : i = c := by omega
      subst hi
      rw [wl_X7_readJobs_28]
      exact ⟨fun _ => hend h, fun q => absurd ((n_le hrx.1 hv).mpr (Nat.le_refl _)) q⟩
    | succ d ih =>
      intro i hi v hv h
      have hic : i < c := by omega
      rw [wl_X7_readJobs_28]
      refine ⟨fun q => absurd ((n_le hrx.1 hv).mp q) (by omega), fun _ => s5_at (q := 2) hrx.1 (by show 4 * c ≤ 80; omega) hv hic rfl (by decide) ?_⟩
      have e : I (271 + 1) (4 * i + 2) = g (3 * i + 1) := (hrx.2 i hic).2.1
      rw [e]
      refine s6_find (hx.mo hg) hm8 (fun r hr hp => ⟨fun q => (by cases q), fun b _ _ x ex => ih (i + 1) (by omega) x (by rw [ex]; exact n_add hv rfl) fun j hj => ?_⟩) (fun hno => ⟨fun _ => hunk ⟨i, hic, hno⟩, fun b hb => (by cases hb)⟩)
      by_cases ej : j = i
      · rw [ej]; exact ⟨r, hr, hp⟩
      · exact h j (by omega)
  exact ⟨c + 1, key c 0 (by omega) 0 rfl (fun j hj => absurd hj (by omega))⟩
theorem s8_chk {Q : Int32 → gx_MM → Prop} (hm : vm J f hs n sn ha tx tl re) (hg : gd f m w k) (hrm : rm J c g) (hc : c ≤ 20)
    (hend : (∀ j, j < c → ∃ r, r < m ∧ g (3 * j + 1) = nI r) → ((J.1 1 4) + (J.1 0 15) ≤ (20 : Int32) → wp_X8_save 0 J (fun I1 => ∃ fu, wl_X8_readJobs_133 Q fu 0 (0 : Int32) I1)) ∧ (¬ ((J.1 1 4) + (J.1 0 15)) ≤ (20 : Int32) → wp_X8_refuse 0 (1 : Int32) J (fun r1 I2 => Q r1 I2)))
    (hunk : (∃ j, j < c ∧ ∀ r, r < m → ¬ g (3 * j + 1) = nI r) → Q (-1000001) J) : ∃ fu, wl_X8_readJobs_71 Q fu 0 (0 : Int32) J := by
  have hm8 := hg.2.1
  have key : ∀ (d i : Nat), i + d = c → ∀ v : Int32, v = nI i → (∀ j, j < i → ∃ r, r < m ∧ g (3 * j + 1) = nI r) → wl_X8_readJobs_71 Q (d + 1) 0 v J := by
    intro d
    induction d with
    | zero =>
      intro i hi v hv h
      have hi : i = c := by omega
      subst hi
      rw [wl_X8_readJobs_71]
      exact ⟨fun _ => ⟨ix_of (n := 4) (N := 298) rfl (by decide), hend h⟩, fun q => absurd ((n_le hrm.1 hv).mpr (Nat.le_refl _)) q⟩
    | succ d ih =>
      intro i hi v hv h
      have hic : i < c := by omega
      have e31 : (3 : Int32) * v + 1 = nI (3 * i + 1) := by rw [hv, show (3 : Int32) = nI 3 from rfl, pk_mul]; exact n_add rfl rfl
      rw [wl_X8_readJobs_71]
      refine ⟨fun q => absurd ((n_le hrm.1 hv).mp q) (by omega), fun _ => ⟨ix_of (N := 63) e31 (by omega), ?_⟩⟩
      have e : J.1 (0 + 6) (3 * i + 1) = g (3 * i + 1) := hrm.2 _ (by omega)
      rw [cl_of e31, e]
      refine s8_no (hm.mo hg) hm8 (fun r hr hp => ⟨fun _ x ex => ih (i + 1) (by omega) x (by rw [ex]; exact n_add hv rfl) fun j hj => ?_, fun q => absurd rfl q⟩) (fun hno => ⟨fun q => absurd q (by decide), fun _ => hunk ⟨i, hic, hno⟩⟩)
      by_cases ej : j = i
      · rw [ej]; exact ⟨r, hr, hp⟩
      · exact h j (by omega)
  exact ⟨c + 1, key c 0 (by omega) 0 rfl (fun j hj => absurd hj (by omega))⟩
theorem s7_ajs {Q : Int32 → gx_M → Prop} (hx : vx I f hs n sn ha tx tl re) (hrx : rx I c g) (hg : ∀ j, j ≤ c → gd (ajs f w g j) m (w + j) k) (hc : w + c ≤ 20) (hQ : ∀ I' : gx_M, vx I' (ajs f w g c) hs n sn ha tx tl re → Q (nI c) I') : ∃ fu, wl_X7_readJobs_100 Q fu 0 271 (0 : Int32) I := by
  have key : ∀ (d i : Nat), i + d = c → ∀ (I2 : gx_M) (v : Int32), v = nI i → vx I2 (ajs f w g i) hs n sn ha tx tl re → rx I2 c g → wl_X7_readJobs_100 Q (d + 1) 0 271 v I2 := by
    intro d
    induction d with
    | zero =>
      intro i hi I2 v hv h2 hr
      have hi : i = c := by omega
      subst hi
      rw [wl_X7_readJobs_100]
      refine ⟨fun _ => by rw [hr.1]; exact hQ I2 h2, fun q => absurd ((n_le hr.1 hv).mpr (Nat.le_refl _)) q⟩
    | succ d ih =>
      intro i hi I2 v hv h2 hr
      have hic : i < c := by omega
      obtain ⟨r1, r2, r3⟩ := hr.2 i hic
      rw [wl_X7_readJobs_100]
      refine ⟨fun q => absurd ((n_le hr.1 hv).mp q) (by omega), fun _ => s5_at (q := 1) hr.1 (by show 4 * c ≤ 80; omega) hv hic rfl (by decide) (s5_at (q := 2) hr.1 (by show 4 * c ≤ 80; omega) hv hic rfl (by decide) (s5_at (q := 3) hr.1 (by show 4 * c ≤ 80; omega) hv hic rfl (by decide) ?_))⟩
      have r1 : I2 (271 + 1) (4 * i + 1) = g (3 * i) := r1
      have r2 : I2 (271 + 1) (4 * i + 2) = g (3 * i + 1) := r2
      have r3 : I2 (271 + 1) (4 * i + 3) = g (3 * i + 2) := r3
      rw [r1, r2, r3]
      refine s6_addJob (w := w + i) h2 (hg i (by omega)).2.2.1 (by omega) fun I3 h3 z3 x ex => ih (i + 1) (by omega) I3 x (by rw [ex]; exact n_add hv rfl) h3 ?_
      unfold rx
      rw [z3 271 (by decide), z3 272 (by decide)]
      exact hr
  exact ⟨c + 1, key c 0 (by omega) I 0 rfl hx hrx⟩
theorem s8_ajs {Q : Int32 → gx_MM → Prop} (hm : vm J f hs n sn ha tx tl re) (hrm : rm J c g) (hg : ∀ j, j ≤ c → gd (ajs f w g j) m (w + j) k) (hc : w + c ≤ 20) (hQ : ∀ J' : gx_MM, vm J' (ajs f w g c) hs n sn ha tx tl re → Q (nI c) J') : ∃ fu, wl_X8_readJobs_133 Q fu 0 (0 : Int32) J := by
  have key : ∀ (d i : Nat), i + d = c → ∀ (J2 : gx_MM) (v : Int32), v = nI i → vm J2 (ajs f w g i) hs n sn ha tx tl re → rm J2 c g → wl_X8_readJobs_133 Q (d + 1) 0 v J2 := by
    intro d
    induction d with
    | zero =>
      intro i hi J2 v hv h2 hr
      have hi : i = c := by omega
      subst hi
      rw [wl_X8_readJobs_133]
      refine ⟨fun _ => by rw [hr.1]; exact hQ J2 h2, fun q => absurd ((n_le hr.1 hv).mpr (Nat.le_refl _)) q⟩
    | succ d ih =>
      intro i hi J2 v hv h2 hr
      have hic : i < c := by omega
      have e30 : (3 : Int32) * v = nI (3 * i) := by rw [hv, show (3 : Int32) = nI 3 from rfl, pk_mul]
      have e31 : (3 : Int32) * v + 1 = nI (3 * i + 1) := n_add e30 rfl
      have e32 : (3 : Int32) * v + 2 = nI (3 * i + 2) := n_add e30 rfl
      have r1 : J2.1 (0 + 6) (3 * i) = g (3 * i) := hr.2 _ (by omega)
      have r2 : J2.1 (0 + 6) (3 * i + 1) = g (3 * i + 1) := hr.2 _ (by omega)
      have r3 : J2.1 (0 + 6) (3 * i + 2) = g (3 * i + 2) := hr.2 _ (by omega)
      rw [wl_X8_readJobs_133]
      rw [cl_of e30, cl_of e31, cl_of e32, r1, r2, r3]
      refine ⟨fun q => absurd ((n_le hr.1 hv).mp q) (by omega), fun _ => ⟨ix_of (N := 63) e30 (by omega), ix_of (N := 63) e31 (by omega), ix_of (N := 63) e32 (by omega), ?_⟩⟩
      refine s8_ask (w := w + i) h2 (hg i (by omega)).2.2.1 (by omega) fun J3 h3 z3 x ex => ih (i + 1) (by omega) J3 x (by rw [ex]; exact n_add hv rfl) h3 ?_
      unfold rm
      rw [z3 0 (by decide), z3 6 (by decide)]
      exact hr
  exact ⟨c + 1, key c 0 (by omega) J 0 rfl hm hrm⟩
theorem s8_start {Q : Int32 → gx_MM → Prop} (hm : vm J f hs n sn ha tx tl re) (hQ : pm f hs n sn ha tx tl re Q (rd tx tl (tl + 1) 0 0 (fun _ => 0))) : wp_X8_readJobs 0 J Q := by
  unfold wp_X8_readJobs
  intro J1 f1 J2 f2
  have hm1 : vm J1 f hs n sn ha tx tl re := by rw [f1]; exact hm.f0 (Or.inl rfl)
  have hm2 : vm J2 f hs n sn ha tx tl re := by rw [f2]; exact hm1.f0 (Or.inr rfl)
  refine ⟨tl + 1 + 1, s8_read (tl + 1) 0 0 _ J2 (by omega) (by omega) (by omega) hm2 ⟨by rw [f2, um_eq, upd_s]; rfl, fun o ho => absurd ho (by omega)⟩ ?_ hQ⟩
  rw [f2, um_eq, upd_n (by decide), f1, um_eq, upd_s]; rfl
end QX
theorem st_readJobs : ∀ (I : gx_M) (J : gx_MM), gv_Inv I J → wp_X7_readJobs 0 I (fun r I1 => wp_X8_readJobs 0 J (fun r2 J1 => r = r2 ∧ gv_Inv I1 J1)) := by
  intro I J hI
  obtain ⟨f, hs, n, sn, ha, tx, tl, re, hx, hm, gf, gh, gs⟩ := id hI
  obtain ⟨m, w, k, hg⟩ := id gf
  have hm8 := hg.2.1
  have hw := hg.2.2.2.1
  have ht : tl ≤ 60 := hx.2.2.2.2.2.2.2.2.2.2.2.1
  have hok := rd_ok (tx := tx) ht (tl + 1) 0 0 (fun _ => 0) (by omega) (fun j hj => absurd hj (by omega))
  unfold wp_X7_readJobs wp_X1_findFault
  intro I1 e1
  have hx1 : vx I1 f hs n sn ha tx tl re := by rw [e1]; exact hx.fr (fun a h1 h2 => up_ne (by omega)) (by rw [up_ne (by decide)])
  have hr1 : rx I1 0 (fun _ => 0) := ⟨by rw [e1]; show up I 271 1 0 271 1 = _; rw [up_eq, upd_s]; rfl, fun j hj => absurd hj (by omega)⟩
  refine ⟨tl - 0 + 1, s1_find (tl + 1) 0 0 _ I1 0 (by omega) (by omega) (by omega) hx1 hr1 rfl fun I2 hx2 hrx => ?_⟩
  generalize hR : rd tx tl (tl + 1) 0 0 (fun _ => 0) = R at hok hrx ⊢
  obtain ⟨o, c, g⟩ := R
  cases o with
  | some b =>
    have fin : wp_X8_readJobs 0 J (fun r2 J1 => (-100 : Int32) - nI b = r2 ∧ gv_Inv I2 J1) := by
      refine s8_start hm ?_
      rw [hR]
      intro J' hm'
      refine ⟨fun h => (by cases h), fun b2 hb2 => ?_⟩
      cases hb2
      exact ⟨rfl, f, hs, n, sn, ha, tx, tl, re, hx2, hm', gf, gh, gs⟩
    have hne : ¬ enc (-1) (some b) = -1 := by
      intro h
      have hb : b ≤ 60 := rd_rle (tx := tx) ht (tl + 1) 0 0 (fun _ => 0) (by omega) b (by rw [hR])
      have h : nI b = -1 := h
      exact absurd (by rw [h]; decide : nI b < 0) (n_neg rfl (by omega))
    exact ⟨fun h => absurd h hne, fun _ => fin⟩
  | none =>
    have hrx : rx I2 c g := hrx rfl
    obtain ⟨hc, ho⟩ : c ≤ 20 ∧ gok g c := by
      rcases hok with h | h
      · exact h
      · exact absurd rfl h
    have ref : ∀ (v : Int32) (I3 : gx_M), (∀ J' : gx_MM, vm J' f hs n sn ha tx tl re → rm J' c g → ∃ fu, wl_X8_readJobs_71 (fun r2 J1 => v = r2 ∧ gv_Inv I3 J1) fu 0 (0 : Int32) J') → wp_X8_readJobs 0 J (fun r2 J1 => v = r2 ∧ gv_Inv I3 J1) := by
      intro v I3 h
      refine s8_start hm ?_
      rw [hR]
      exact fun J' hm' => ⟨fun _ hr => h J' hm' hr, fun b hb => (by cases hb)⟩
    refine ⟨fun _ => ?_, fun h => absurd rfl h⟩
    have aw : I2 (0 + 1 + 2) 1 = nI w := hx2.wo hg
    have sum : I2 (0 + 1 + 2) 1 + I2 271 1 = nI (w + c) := n_add aw hrx.1
    refine s7_chk hx2 hg hrx hc (fun hros => ?_) (fun hunk => ref _ _ fun J' hm' hr => ?_)
    · rw [sum]
      refine ⟨fun h20 => s0_add hx2 fun I3 hx3 z3 => ?_, fun h20 I3 e3 => ref _ _ fun J' hm' hr => ?_⟩
      · have hwc : w + c ≤ 20 := (n_le (b := 20) (x := nI (w + c)) rfl rfl).mp h20
        have hrx3 : rx I3 c g := by
          unfold rx
          rw [z3 271 (by omega), z3 272 (by omega)]
          exact hrx
        have hgj := gd_ajs hg hwc ho hros
        refine s7_ajs hx3 hrx3 hgj hwc fun I4 hx4 => ref _ _ fun J' hm' hr => ?_
        have bw : J'.1 1 4 = nI w := hm'.wo hg
        have bs : J'.1 1 4 + J'.1 0 15 = nI (w + c) := n_add bw hr.1
        refine s8_chk hm' hg hr hc (fun _ => ?_) (fun hunk => ?_)
        · rw [bs]
          refine ⟨fun _ => s8_save2 hm' fun J1 hm1 y1 y2 => ?_, fun h => absurd h20 h⟩
          have hrm1 : rm J1 c g := by
            refine ⟨?_, fun o ho => by rw [y1 6 (by decide) (by decide)]; exact hr.2 o ho⟩
            rw [y2 15 (by decide)]; exact hr.1
          exact s8_ajs hm1 hrm1 hgj hwc fun J2 hm2 => ⟨rfl, _, _, _, sn, ha, tx, tl, re, hx4, hm2, ⟨m, w + c, k, hgj c (Nat.le_refl _)⟩, psh_good hx.2.2.1 gh gf, gs⟩
        · obtain ⟨j, hj, hno⟩ := hunk
          obtain ⟨r, r1, r2⟩ := hros j hj
          exact absurd r2 (hno r r1)
      · have bw : J'.1 1 4 = nI w := hm'.wo hg
        have bs : J'.1 1 4 + J'.1 0 15 = nI (w + c) := n_add bw hr.1
        refine s8_chk hm' hg hr hc (fun _ => ?_) (fun hunk => ?_)
        · rw [bs]
          refine ⟨fun h => absurd h h20, fun _ J1 f1 => ⟨rfl, f, hs, n, sn, ha, tx, tl, 1, by rw [e3]; exact hx2.re, by rw [f1]; exact hm'.re, gf, gh, gs⟩⟩
        · obtain ⟨j, hj, hno⟩ := hunk
          obtain ⟨r, r1, r2⟩ := hros j hj
          exact absurd r2 (hno r r1)
    · refine s8_chk hm' hg hr hc (fun hros => ?_) (fun _ => ⟨rfl, f, hs, n, sn, ha, tx, tl, re, hx2, hm', gf, gh, gs⟩)
      obtain ⟨j, hj, hno⟩ := hunk
      obtain ⟨r, r1, r2⟩ := hros j hj
      exact absurd r2 (hno r r1)
theorem gv_step : lx_step gv_Inv :=
  ⟨st_addRosette, st_setStrain, st_setLeads, st_setOffset, st_setShunt, st_setSize, st_request, st_cancel, st_next, st_workOff, st_type, st_clearText, st_readJobs, st_undo, st_keep, st_restore, st_rosette, st_gauge, st_principal, st_pull, st_job, st_record, st_neighbour, st_count⟩
