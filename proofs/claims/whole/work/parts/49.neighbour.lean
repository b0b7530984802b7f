/-! neighbour -/
theorem s8_size {x : Int32} {I : gx_MM} {Q : Int32 → gx_MM → Prop} (h : Q (if 0 ≤ x then x else 0 - x) I) : wp_X8_size x I Q := by
  unfold wp_X8_size
  refine ⟨fun c => ?_, fun c => ?_⟩
  · rw [if_pos c] at h; exact h
  · rw [if_neg c, Int32.zero_sub] at h; exact h
def wyn (f : Nat → Int32) (p u : Int32) (i : Nat) : Int32 := if u = 0 then p - f (10 + 20 * i + 0) else f (10 + 20 * i + 0) - p
def nbs (f : Nat → Int32) (p u : Int32) : Nat → Int32 × Int32
  | 0 => (-1000004, 1001)
  | i + 1 => if wyn f p u i ≤ 0 then nbs f p u i else if (nbs f p u i).2 ≤ wyn f p u i then nbs f p u i else (nI i, wyn f p u i)
theorem nbs_inv {f : Nat → Int32} {p u : Int32} : ∀ i, nbs f p u i = (-1000004, 1001) ∨ ∃ b, b < i ∧ nbs f p u i = (nI b, wyn f p u b) ∧ ¬ wyn f p u b ≤ 0 := by
  intro i
  induction i with
  | zero => exact Or.inl rfl
  | succ i ih =>
    have h0 : nbs f p u i = (-1000004, 1001) ∨ ∃ b, b < i + 1 ∧ nbs f p u i = (nI b, wyn f p u b) ∧ ¬ wyn f p u b ≤ 0 := by
      rcases ih with h | ⟨b, h1, h2⟩
      · exact Or.inl h
      · exact Or.inr ⟨b, by omega, h2⟩
    unfold nbs
    split
    · exact h0
    · rename_i c
      split
      · exact h0
      · exact Or.inr ⟨i, by omega, rfl, c⟩
theorem wyn_abs {f : Nat → Int32} {p u : Int32} {a b i : Nat} (hp : p = nI a) (ha : a ≤ 1000) (hf : f (10 + 20 * i + 0) = nI b) (hb : b ≤ 1000) (h : ¬ wyn f p u i ≤ 0) : (if 0 ≤ f (10 + 20 * i + 0) - p then f (10 + 20 * i + 0) - p else 0 - (f (10 + 20 * i + 0) - p)) = wyn f p u i := by
  unfold wyn at h ⊢
  by_cases hu : u = 0
  · rw [if_pos hu] at h ⊢
    rw [if_neg, Int32.zero_sub, Int32.neg_sub]
    intro c
    apply h
    rw [hf, hp] at c ⊢
    have c1 := Int32.le_iff_toInt_le.mp c
    rw [pk_sub_toInt (by omega) (by omega)] at c1
    refine Int32.le_iff_toInt_le.mpr ?_
    rw [pk_sub_toInt (by omega) (by omega)]
    have : (0 : Int32).toInt = 0 := rfl
    omega
  · rw [if_neg hu] at h ⊢
    rw [if_pos]
    exact Int32.le_of_lt (i_nle.mp h)
theorem wyn_lt {f : Nat → Int32} {p u : Int32} {a b i : Nat} (hp : p = nI a) (ha : a ≤ 1000) (hf : f (10 + 20 * i + 0) = nI b) (hb : b ≤ 1000) : ¬ (1001 : Int32) ≤ wyn f p u i := by
  intro c
  have c := Int32.le_iff_toInt_le.mp c
  have e : (1001 : Int32).toInt = 1001 := rfl
  unfold wyn at c
  rw [hf, hp] at c
  split at c
  · rw [pk_sub_toInt (by omega) (by omega)] at c
    omega
  · rw [pk_sub_toInt (by omega) (by omega)] at c
    omega
section NX
variable {I : gx_M} {J : gx_MM} {f : Nat → Int32} {hs : Nat → Nat → Int32} {n : Nat} {sn : Nat → Int32} {ha : Nat} {tx : Nat → Int32} {tl : Nat} {re : Int32} {m w k : Nat} {p u : Int32}
theorem s7_neigh {Q : Int32 → gx_M → Prop} (hx : vx I f hs n sn ha tx tl re) (hg : gd f m w k) (hQ : Q (nbs f p u m).1 I) : ∀ (d i : Nat), i + d = m → ∀ (v3 v4 v5 : Int32), v3 = (nbs f p u i).1 → v4 = (nbs f p u i).2 → v5 = nI i → wl_X7_neighbour_25 Q (d + 1) 0 p u v3 v4 v5 I := by
  have hm8 := hg.2.1
  intro d
  induction d with
  | zero =>
    intro i hi v3 v4 v5 e3 e4 e5
    rw [wl_X7_neighbour_25]
    refine ⟨fun _ => by rw [e3, show i = m by omega]; exact hQ, fun h => absurd ((n_le (hx.mo hg) e5).mpr (by omega)) h⟩
  | succ d ih =>
    intro i hi v3 v4 v5 e3 e4 e5
    rw [wl_X7_neighbour_25]
    have key : wj_X7_neighbour_66 Q (wl_X7_neighbour_25 Q (d + 1)) 0 p u v3 v4 v5 (wyn f p u i) I := by
      refine ⟨fun c x ex => ?_, fun c => ⟨fun c2 x ex => ?_, fun c2 x ex => ?_⟩⟩
      · refine ih (i + 1) (by omega) v3 v4 x ?_ ?_ (by rw [ex]; exact n_add e5 rfl)
        · rw [e3]; conv => rhs; unfold nbs
          rw [if_pos c]
        · rw [e4]; conv => rhs; unfold nbs
          rw [if_pos c]
      · rw [e4] at c2
        refine ih (i + 1) (by omega) v3 v4 x ?_ ?_ (by rw [ex]; exact n_add e5 rfl)
        · rw [e3]; conv => rhs; unfold nbs
          rw [if_neg c, if_pos c2]
        · rw [e4]; conv => rhs; unfold nbs
          rw [if_neg c, if_pos c2]
      · rw [e4] at c2
        refine ih (i + 1) (by omega) v5 _ x ?_ ?_ (by rw [ex]; exact n_add e5 rfl)
        · rw [e5]; conv => rhs; unfold nbs
          rw [if_neg c, if_neg c2]
        · conv => rhs; unfold nbs
          rw [if_neg c, if_neg c2]
    refine ⟨fun h => absurd ((n_le (hx.mo hg) e5).mp h) (by omega), fun _ => ⟨fun hu => s6_place hx hg (by omega) e5 ?_, fun hu => s6_place hx hg (by omega) e5 ?_⟩⟩
    · unfold wyn at key
      rw [if_pos hu] at key
      exact key
    · unfold wyn at key
      rw [if_neg hu] at key
      exact key
theorem s8_neigh {Q : Int32 → gx_MM → Prop} {a : Nat} (hp : p = nI a) (ha1 : a ≤ 1000) (hm : vm J f hs n sn ha tx tl re) (hg : gd f m w k) (hQ : Q (nbs f p u m).1 J) : ∀ (d i : Nat), i + d = m → ∀ (v3 v4 : Int32), v3 = (nbs f p u i).1 → v4 = nI i → wl_X8_neighbour_20 Q (d + 1) 0 p u v3 v4 J := by
  have hm8 := hg.2.1
  have hro := hg.2.2.2.2.2.2.2.2.1
  intro d
  induction d with
  | zero =>
    intro i hi v3 v4 e3 e4
    rw [wl_X8_neighbour_20]
    refine ⟨ix_of (n := 0) (N := 298) rfl (by decide), fun _ => by rw [e3, show i = m by omega]; exact hQ, fun h => absurd ((n_le (hm.mo hg) e4).mpr (by omega)) h⟩
  | succ d ih =>
    intro i hi v3 v4 e3 e4
    rw [wl_X8_neighbour_20]
    have hup : ¬ wyn f p u i ≤ 0 → ¬ (nbs f p u i).2 ≤ wyn f p u i → wj_X8_neighbour_88 Q (wl_X8_neighbour_20 Q (d + 1)) 0 p u v4 v4 J := by
      intro c c2 x ex
      refine ih (i + 1) (by omega) v4 x ?_ (by rw [ex]; exact n_add e4 rfl)
      rw [e4]; conv => rhs; unfold nbs
      rw [if_neg c, if_neg c2]
    have hkeep : wyn f p u i ≤ 0 ∨ (nbs f p u i).2 ≤ wyn f p u i → wj_X8_neighbour_88 Q (wl_X8_neighbour_20 Q (d + 1)) 0 p u v3 v4 J := by
      intro c x ex
      refine ih (i + 1) (by omega) v3 x ?_ (by rw [ex]; exact n_add e4 rfl)
      rw [e3]; conv => rhs; unfold nbs
      by_cases c1 : wyn f p u i ≤ 0
      · rw [if_pos c1]
      · rw [if_neg c1, if_pos (c.resolve_left c1)]
    obtain ⟨b0, hb0, hb1⟩ := (hro i (by omega)).1
    have key : wj_X8_neighbour_56 Q (wl_X8_neighbour_20 Q (d + 1)) 0 p u v3 v4 (wyn f p u i) J := by
      refine ⟨fun c => hkeep (Or.inl c), fun c => ?_⟩
      rcases nbs_inv (f := f) (p := p) (u := u) i with h | ⟨b, hb, h, hpos⟩
      · refine ⟨fun _ => hup c (by rw [h]; exact wyn_lt hp ha1 hb0 hb1), fun c2 => absurd (by rw [e3, h]) c2⟩
      · have e3b : v3 = nI b := by rw [e3, h]
        refine ⟨fun c2 => absurd c2 ?_, fun _ => s8_of hm e3b (q := 0) rfl (by omega) (s8_size ?_)⟩
        · rw [e3b]
          intro c2
          exact absurd (by rw [c2]; decide : nI b < 0) (n_neg rfl (by omega))
        · obtain ⟨b2, hb2, hb3⟩ := (hro b (by omega)).1
          rw [wyn_abs hp ha1 hb2 hb3 hpos]
          refine ⟨fun c2 => hkeep (Or.inr (by rw [h]; exact c2)), fun c2 => hup c (by rw [h]; exact c2)⟩
    refine ⟨ix_of (n := 0) (N := 298) rfl (by decide), fun h => absurd ((n_le (hm.mo hg) e4).mp h) (by omega), fun _ => ⟨fun hu => s8_of hm e4 (q := 0) rfl (by omega) ?_, fun hu => s8_of hm e4 (q := 0) rfl (by omega) ?_⟩⟩
    · unfold wyn at key
      rw [if_pos hu] at key
      exact key
    · unfold wyn at key
      rw [if_neg hu] at key
      exact key
end NX
theorem st_neighbour : ∀ (I : gx_M) (J : gx_MM) (p0 p1 : Int32), gv_Inv I J → (p1 = 0 ∨ p1 = 1) → wp_X7_neighbour 0 p0 p1 I (fun r I1 => wp_X8_neighbour 0 p0 p1 J (fun r2 J1 => r = r2 ∧ gv_Inv I1 J1)) := by
  intro I J p0 p1 hI _
  obtain ⟨f, hs, n, sn, ha, tx, tl, re, hx, hm, gf, gh, gs⟩ := id hI
  obtain ⟨m, w, k, hg⟩ := id gf
  unfold wp_X7_neighbour wp_X8_neighbour
  refine s7_w (fun c1 c2 => ⟨fun h => absurd h (by decide), fun _ => ⟨m + 1, ?_⟩⟩) (fun c => ⟨fun _ => ?_, fun h => absurd rfl h⟩)
  · obtain ⟨a, ha1, ea⟩ := n_ofle (m := 1000) (n := 1000) (x := p0) rfl (by decide) (i_nlt.mpr c1) c2
    refine s7_neigh hx hg ?_ m 0 (by omega) _ _ _ rfl rfl rfl
    refine s8_w (fun _ _ => ⟨fun h => absurd h (by decide), fun _ => ⟨m + 1, ?_⟩⟩) (fun c => absurd ⟨c1, c2⟩ c)
    exact s8_neigh ea ha1 hm hg ⟨rfl, hI⟩ m 0 (by omega) _ _ rfl rfl
  · exact s8_w (fun q1 q2 => absurd ⟨q1, q2⟩ c) (fun _ => ⟨fun _ => ⟨rfl, hI⟩, fun h => absurd rfl h⟩)
