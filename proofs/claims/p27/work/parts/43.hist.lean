/-! the history -/
def psh (hs : Nat → Nat → Int32) (n : Nat) (f : Nat → Int32) : Nat → Nat → Int32 := if n < 5 then (fun i => if i = n then f else hs i) else (fun i => if i = 4 then f else hs (i + 1))
def psn (n : Nat) : Nat := if n < 5 then n + 1 else 5
theorem psh_good {hs : Nat → Nat → Int32} {n : Nat} {f : Nat → Int32} (hn : n ≤ 5) (h : ∀ i, i < n → good (hs i)) (hf : good f) : ∀ i, i < psn n → good (psh hs n f i) := by
  intro i hi
  unfold psn at hi
  unfold psh
  by_cases h5 : n < 5
  · rw [if_pos h5] at hi ⊢
    by_cases e : i = n
    · simp only [e, if_pos]; exact hf
    · simp only [e, if_false]; exact h i (by omega)
  · rw [if_neg h5] at hi ⊢
    by_cases e : i = 4
    · simp only [e, if_pos]; exact hf
    · simp only [e, if_false]; exact h (i + 1) (by omega)
section HX
variable {I : gx_M} {f : Nat → Int32} {hs : Nat → Nat → Int32} {n : Nat} {sn : Nat → Int32} {ha : Nat} {tx : Nat → Int32} {tl : Nat} {re : Int32} {Q : gx_M → Prop}
theorem s0_push (h : vx I f hs n sn ha tx tl re) (hn : n < 5) (hQ : ∀ I' : gx_M, vx I' f (fun i => if i = n then f else hs i) (n + 1) sn ha tx tl re → (∀ a, (a < 77 ∨ 269 ≤ a) → I' a = I a) → Q I') : wj_X0_add_12 Q 77 1 I := by
  obtain ⟨a0, a1, a2, a3, a4, a5, a6, a7, a8, a9, a10, a11, a12⟩ := h
  obtain ⟨c, hc, ec⟩ := a3 n hn
  have eb : sd (I 78 n) = 79 + 38 * c := by rw [ec]; exact sd_nI hc
  unfold wj_X0_add_12
  refine ⟨fun c => absurd c (n_neg a1), fun _ => ⟨fun c => absurd ((n_le (a := 5) rfl a1).mp c) (by omega), fun _ => ⟨ix_of a1 hn, ?_⟩⟩⟩
  rw [show (I 77 1).toNatClampNeg = n from cl_of a1]
  refine s6_copy (kX_sd _) (by decide +kernel) (by show sd (I 78 n) + 38 ≤ 1 ∨ 1 + 38 ≤ sd (I 78 n); rw [eb]; omega) fun I1 g1 g2 I2 e2 => ?_
  replace g1 : ∀ a, (a < sd (I 78 n) ∨ sd (I 78 n) + 38 ≤ a) → I1 a = I a := g1
  replace g2 : ∀ o, o < 298 → fl I1 (sd (I 78 n)) o = fl I 1 o := g2
  rw [eb] at g1 g2
  have e77 : ∀ a, a ≠ 77 → I2 a = I1 a := fun a ha => by rw [e2, up_ne ha]
  have e78 : I2 78 = I 78 := by rw [e77 78 (by decide), g1 78 (by omega)]
  refine hQ I2 ⟨fun o ho => ?_, ?_, by omega, by rw [e78]; exact a3, by rw [e78]; exact a4, fun i hi o ho => ?_, ?_, a7, fun q o ho => ?_, ?_, ?_, a11, ?_⟩ (fun a ha => by rw [e77 a (by omega), g1 a (by omega)])
  · rw [fl_same (fun a h1 h2 => by rw [e77 a (by omega), g1 a (by omega)]) ho]
    exact a0 o ho
  · rw [e2, up_eq, upd_s, g1 77 (by omega)]
    exact n_add a1 rfl
  · rw [e78]
    show _ = (if i = n then f else hs i) o
    by_cases e : i = n
    · rw [if_pos e, e, eb, fl_same (I := I1) (fun a h1 h2 => e77 a (by omega)) ho, g2 o ho]
      exact a0 o ho
    · rw [if_neg e]
      obtain ⟨d, hd, ed⟩ := a3 i (by omega)
      have hdc : d ≠ c := fun q => e (a4 i n (by omega) hn (by rw [ed, ec, q]))
      have ebd : sd (I 78 i) = 79 + 38 * d := by rw [ed]; exact sd_nI hd
      rw [← a5 i (by omega) o ho, ebd]
      exact fl_same (fun a h1 h2 => by rw [e77 a (by omega), g1 a (by omega)]) ho
  · rw [e77 0 (by decide), g1 0 (by omega)]; exact a6
  · rw [fl_same (fun a h1 h2 => by rw [e77 a (by omega), g1 a (by omega)]) ho]
    exact a8 q o ho
  · rw [e77 0 (by decide), g1 0 (by omega)]; exact a9
  · rw [e77 269 (by decide), g1 269 (by omega)]; exact a10
  · rw [e77 270 (by decide), g1 270 (by omega)]; exact a12
theorem s0_dloop {I0 : gx_M} {w : Int32} (hw : w = I0 78 0) (hQ : ∀ I' : gx_M, (∀ a, a ≠ 77 → a ≠ 78 → I' a = I0 a) → I' 77 1 = nI 4 → (∀ i, i < 4 → I' 78 i = I0 78 (i + 1)) → I' 78 4 = I0 78 0 → Q I') :
    ∀ (d i : Nat), i + d = 5 → 1 ≤ i → ∀ (I : gx_M) (v : Int32), v = nI i → (∀ a, a ≠ 78 → I a = I0 a) → (∀ k, k + 1 < i → I 78 k = I0 78 (k + 1)) → (∀ k, i ≤ k + 1 → I 78 k = I0 78 k) → wl_X0_dropOldest_9 Q (d + 1) 77 w v I := by
  intro d
  induction d with
  | zero =>
    intro i hi h1 I v hv g1 g2 g3
    have hi5 : i = 5 := by omega
    subst hi5
    rw [wl_X0_dropOldest_9]
    refine ⟨fun _ => ⟨ix_of (n := 4) rfl (by decide) (by decide), fun I1 e1 I2 e2 => ?_⟩, fun h => absurd ((n_le (a := 5) rfl hv).mpr (by omega)) h⟩
    have e1 : I1 = up I 78 4 w := e1
    have e2 : I2 = up I1 77 1 4 := e2
    refine hQ I2 (fun a h7 h8 => by rw [e2, up_ne h7, e1, up_ne h8, g1 a h8]) (by rw [e2, up_eq, upd_s]; rfl) (fun k hk => ?_) ?_
    · rw [e2, up_ne (by decide), e1, up_eq, upd_n (by omega)]
      exact g2 k (by omega)
    · rw [e2, up_ne (by decide), e1, up_eq, upd_s, hw]
  | succ d ih =>
    intro i hi h1 I v hv g1 g2 g3
    rw [wl_X0_dropOldest_9]
    have hv1 : v - (1 : Int32) = nI (i - 1) := n_sub (b := 1) hv rfl h1
    have hc : v.toNatClampNeg = i := cl_of hv
    have hc1 : (v - (1 : Int32)).toNatClampNeg = i - 1 := cl_of hv1
    refine ⟨fun h => absurd ((n_le (a := 5) rfl hv).mp h) (by omega), fun _ => ⟨ix_of (N := 5) hv (by omega), ix_of (N := 5) hv1 (by omega), fun I3 e3 x ex => ?_⟩⟩
    rw [hc, hc1] at e3
    have e3 : I3 = up I 78 (i - 1) (I 78 i) := e3
    refine ih (i + 1) (by omega) (by omega) I3 x (by rw [ex]; exact n_add hv rfl) (fun a h8 => by rw [e3, up_ne h8, g1 a h8]) (fun k hk => ?_) (fun k hk => ?_)
    · rw [e3, up_eq]
      by_cases e : k = i - 1
      · rw [e, upd_s, g3 i (by omega), show i - 1 + 1 = i by omega]
      · rw [upd_n e]
        exact g2 k (by omega)
    · rw [e3, up_eq, upd_n (by omega)]
      exact g3 k (by omega)
theorem s0_drop (h : vx I f hs 5 sn ha tx tl re) (hQ : ∀ I' : gx_M, vx I' f (fun i => hs (i + 1)) 4 sn ha tx tl re → (∀ a, (a < 77 ∨ 269 ≤ a) → I' a = I a) → Q I') : wp_X0_dropOldest 77 I Q := by
  obtain ⟨a0, a1, a2, a3, a4, a5, a6, a7, a8, a9, a10, a11, a12⟩ := h
  unfold wp_X0_dropOldest
  refine ⟨ix_of (n := 0) (N := 5) rfl (by decide), 4 + 1, ?_⟩
  refine s0_dloop (I0 := I) rfl (fun I' g1 g2 g3 g4 => ?_) 4 1 rfl (by decide) I 1 rfl (fun _ _ => rfl) (fun k hk => absurd hk (by omega)) (fun _ _ => rfl)
  have hrot : ∀ i, i < 5 → ∃ j, j < 5 ∧ I' 78 i = I 78 j ∧ (i < 4 → j = i + 1) ∧ (i = 4 → j = 0) := by
    intro i hi
    by_cases e : i = 4
    · subst e; exact ⟨0, by decide, g4, fun q => absurd q (by decide), fun _ => rfl⟩
    · exact ⟨i + 1, by omega, g3 i (by omega), fun _ => rfl, fun q => absurd q e⟩
  refine hQ I' ⟨fun o ho => ?_, g2, by decide, fun i hi => ?_, fun i j hi hj e => ?_, fun i hi o ho => ?_, ?_, a7, fun q o ho => ?_, ?_, ?_, a11, ?_⟩ (fun a ha => g1 a (by omega) (by omega))
  · rw [fl_same (fun a h1 h2 => g1 a (by omega) (by omega)) ho]; exact a0 o ho
  · obtain ⟨j, hj, e, -, -⟩ := hrot i hi
    rw [e]; exact a3 j hj
  · obtain ⟨i1, h1, e1, b1, c1⟩ := hrot i hi
    obtain ⟨j1, h2, e2, b2, c2⟩ := hrot j hj
    have := a4 i1 j1 h1 h2 (by rw [← e1, ← e2]; exact e)
    omega
  · rw [g3 i hi]
    have := sd_in (I 78 (i + 1))
    rw [fl_same (fun a h1 h2 => g1 a (by omega) (by omega)) ho]
    exact a5 (i + 1) (by omega) o ho
  · rw [g1 0 (by decide) (by decide)]; exact a6
  · rw [fl_same (fun a h1 h2 => g1 a (by omega) (by omega)) ho]; exact a8 q o ho
  · rw [g1 0 (by decide) (by decide)]; exact a9
  · rw [g1 269 (by decide) (by decide)]; exact a10
  · rw [g1 270 (by decide) (by decide)]; exact a12
theorem s0_add (h : vx I f hs n sn ha tx tl re) (hQ : ∀ I' : gx_M, vx I' f (psh hs n f) (psn n) sn ha tx tl re → (∀ a, (a < 77 ∨ 269 ≤ a) → I' a = I a) → Q I') : wp_X0_add 77 1 I Q := by
  have a1 : I 77 1 = nI n := h.2.1
  have hn : n ≤ 5 := h.2.2.1
  unfold wp_X0_add
  refine ⟨fun c => ?_, fun c => ?_⟩
  · have hn5 : n < 5 := (n_lt (b := 5) a1 rfl).mp c
    refine s0_push h hn5 fun I' g1 g2 => hQ I' ?_ g2
    unfold psh psn
    rw [if_pos hn5, if_pos hn5]
    exact g1
  · have hn5 : ¬ n < 5 := fun q => c ((n_lt (b := 5) a1 rfl).mpr q)
    have e5 : n = 5 := by omega
    subst e5
    refine s0_drop h fun I1 g1 g2 => s0_push g1 (by decide) fun I' g3 g4 => hQ I' ?_ (fun a ha => by rw [g4 a ha, g2 a ha])
    exact g3
/-- the state is made another -/
theorem s6_into {b : Nat} (hb : kX b = 6) (hd : 39 ≤ b) (h : vx I f hs n sn ha tx tl re) {g : Nat → Int32} (hg : ∀ o, o < 298 → fl I b o = g o) (hQ : ∀ I' : gx_M, vx I' g hs n sn ha tx tl re → Q I') : wp_X6_copyFrom 1 b I Q := by
  refine s6_copy (by decide +kernel) hb (by omega) fun I' g1 g2 => hQ I' ⟨fun o ho => by rw [g2 o ho, hg o ho], h.2.fr (fun a ha => g1 a (by omega)) (by rw [g1 269 (by omega)])⟩
end HX
section HM
variable {f : Nat → Int32} {hs : Nat → Nat → Int32} {n : Nat} {sn : Nat → Int32} {ha : Nat} {tx : Nat → Int32} {tl : Nat} {re : Int32}
end HM
