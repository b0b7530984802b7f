/-! neighbour -/
def wyn (f : Nat → Int32) (p u : Int32) (i : Nat) : Int32 := if u = 0 then p - f (10 + 20 * i + 0) else f (10 + 20 * i + 0) - p
def nbs (f : Nat → Int32) (p u : Int32) : Nat → Int32 × Int32
  | 0 => (-1000004, 1001)
  | i + 1 => if wyn f p u i ≤ 0 then nbs f p u i else if (nbs f p u i).2 ≤ wyn f p u i then nbs f p u i else (nI i, wyn f p u i)
theorem nbs_inv {f : Nat → Int32} {p u : Int32} : ∀ i, nbs f p u i = (-1000004, 1001) ∨ ∃ b, b < i ∧ nbs f p u i = (nI b, wyn f p u b) ∧ ¬ wyn f p u b ≤ 0 := by
  intro i
  induction i with
  | zero => exact Or.inl rfl
  | succ i ih =>
    have h0 : nbs f p u i = (-1000004, 1001) ∨ ∃ b, b < i + 1 ∧ nbs f p u i = (nI b, wyn f p u b) ∧ ¬ wyn f p u b ≤ 0 := by
      rcases ih with h | ⟨b, h1, h2⟩
      · exact Or.inl h
      · exact Or.inr ⟨b, by omega, h2⟩
    unfold nbs
    split
    · exact h0
    · rename_i c
      split
      · exact h0
      · exact Or.inr ⟨i, by omega, rfl, c⟩
theorem wyn_abs {f : Nat → Int32} {p u : Int32} {a b i : Nat} (hp : p = nI a) (ha : a ≤ 1000) (hf : f (10 + 20 * i + 0) = nI b) (hb : b ≤ 1000) (h : ¬ wyn f p u i ≤ 0) : (if 0 ≤ f (10 + 20 * i + 0) - p then f (10 + 20 * i + 0) - p else 0 - (f (10 + 20 * i + 0) - p)) = wyn f p u i := by
  unfold wyn at h ⊢
  by_cases hu : u = 0
  · rw [if_pos hu] at h ⊢
    rw [if_neg, Int32.zero_sub, Int32.neg_sub]
    intro c
    apply h
    rw [hf, hp] at c ⊢
    have c1 := Int32.le_iff_toInt_le.mp c
    rw [pk_sub_toInt (by omega) (by omega)] at c1
    refine Int32.le_iff_toInt_le.mpr ?_
    rw [pk_sub_toInt (by omega) (by omega)]
    have : (0 : Int32).toInt = 0 := rfl
    omega
  · rw [if_neg hu] at h ⊢
    rw [if_pos]
    exact Int32.le_of_lt (i_nle.mp h)
theorem wyn_lt {f : Nat → Int32} {p u : Int32} {a b i : Nat} (hp : p = nI a) (ha : a ≤ 1000) (hf : f (10 + 20 * i + 0) = nI b) (hb : b ≤ 1000) : ¬ (1001 : Int32) ≤ wyn f p u i := by
  intro c
  have c := Int32.le_iff_toInt_le.mp c
  have e : (1001 : Int32).toInt = 1001 := rfl
  unfold wyn at c
  rw [hf, hp] at c
  split at c
  · rw [pk_sub_toInt (by omega) (by omega)] at c
    omega
  · rw [pk_sub_toInt (by omega) (by omega)] at c
    omega
section NX
variable {I : gx_M} {f : Nat → Int32} {hs : Nat → Nat → Int32} {n : Nat} {sn : Nat → Int32} {ha : Nat} {tx : Nat → Int32} {tl : Nat} {re : Int32} {m w k : Nat} {p u : Int32}
theorem s7_neigh {Q : Int32 → gx_M → Prop} (hx : vx I f hs n sn ha tx tl re) (hg : gd f m w k) (hQ : Q (nbs f p u m).1 I) : ∀ (d i : Nat), i + d = m → ∀ (v3 v4 v5 : Int32), v3 = (nbs f p u i).1 → v4 = (nbs f p u i).2 → v5 = nI i → wl_X7_neighbour_25 Q (d + 1) 0 p u v3 v4 v5 I := by
  have hm8 := hg.2.1
  intro d
  induction d with
  | zero =>
    intro i hi v3 v4 v5 e3 e4 e5
    rw [wl_X7_neighbour_25]
    refine ⟨fun _ => by rw [e3, show i = m by omega]; exact hQ, fun h => absurd ((n_le (hx.mo hg) e5).mpr (by omega)) h⟩
  | succ d ih =>
    intro i hi v3 v4 v5 e3 e4 e5
    rw [wl_X7_neighbour_25]
    have key : wj_X7_neighbour_66 Q (wl_X7_neighbour_25 Q (d + 1)) 0 p u v3 v4 v5 (wyn f p u i) I := by
      refine ⟨fun c x ex => ?_, fun c => ⟨fun c2 x ex => ?_, fun c2 x ex => ?_⟩⟩
      · refine ih (i + 1) (by omega) v3 v4 x ?_ ?_ (by rw [ex]; exact n_add e5 rfl)
        · rw [e3]; conv => rhs; unfold nbs
          rw [if_pos c]
        · rw [e4]; conv => rhs; unfold nbs
          rw [if_pos c]
      · rw [e4] at c2
        refine ih (i + 1) (by omega) v3 v4 x ?_ ?_ (by rw [ex]; exact n_add e5 rfl)
        · rw [e3]; conv => rhs; unfold nbs
          rw [if_neg c, if_pos c2]
        · rw [e4]; conv => rhs; unfold nbs
          rw [if_neg c, if_pos c2]
      · rw [e4] at c2
        refine ih (i + 1) (by omega) v5 _ x ?_ ?_ (by rw [ex]; exact n_add e5 rfl)
        · rw [e5]; conv => rhs; unfold nbs
          rw [if_neg c, if_neg c2]
        · conv => rhs; unfold nbs
          rw [if_neg c, if_neg c2]
    refine ⟨fun h => absurd ((n_le (hx.mo hg) e5).mp h) (by omega), fun _ => ⟨fun hu => s6_place hx hg (by omega) e5 ?_, fun hu => s6_place hx hg (by omega) e5 ?_⟩⟩
    · unfold wyn at key
      rw [if_pos hu] at key
      exact key
    · unfold wyn at key
      rw [if_neg hu] at key
      exact key
end NX
