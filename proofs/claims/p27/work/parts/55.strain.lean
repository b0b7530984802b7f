/-! the strain is set -/
def chg (g f : Nat → Int32) (r : Nat) : Nat → Int32
  | 0 => 0
  | i + 1 => if rdg f r i = rdg g r i then chg g f r i else chg g f r i + 1
section SX
variable {I : gx_M} {f : Nat → Int32} {hs : Nat → Nat → Int32} {n : Nat} {sn : Nat → Int32} {ha : Nat} {tx : Nat → Int32} {tl : Nat} {re : Int32} {m w k r q : Nat} {p0 v2 v3 v4 : Int32} {g : Nat → Int32}
theorem s2_changed {Q : Int32 → gx_M → Prop} (h1 : ∀ j, j < 3 → I 278 j = rdg f r j) (h2 : ∀ j, j < 3 → I 279 j = rdg g r j) (h : Q (chg g f r 3) I) : wp_X2_readingsChanged 275 I Q := by
  have key : ∀ (d i : Nat), i + d = 3 → ∀ (v1 v2 : Int32), v1 = chg g f r i → v2 = nI i → wl_X2_readingsChanged_4 Q (d + 1) 275 v1 v2 I := by
    intro d
    induction d with
    | zero =>
      intro i hi v1 v2 e1 e2
      rw [wl_X2_readingsChanged_4]
      exact ⟨fun _ => by rw [e1, show i = 3 by omega]; exact h, fun h => absurd ((n_le (a := 3) rfl e2).mpr (by omega)) h⟩
    | succ d ih =>
      intro i hi v1 v2 e1 e2
      have hin : vp_in v2 3 := ix_of e2 (by omega)
      have w1 : I (275 + 3) i = rdg f r i := h1 i (by omega)
      have w2 : I (275 + 4) i = rdg g r i := h2 i (by omega)
      rw [wl_X2_readingsChanged_4]
      rw [cl_of e2, w1, w2]
      refine ⟨fun h => absurd ((n_le (a := 3) rfl e2).mp h) (by omega), fun _ => ⟨hin, hin, fun c x ex => ih (i + 1) (by omega) v1 x ?_ (by rw [ex]; exact n_add e2 rfl), fun c y ey x ex => ih (i + 1) (by omega) y x ?_ (by rw [ex]; exact n_add e2 rfl)⟩⟩
      · conv => rhs; unfold chg
        rw [if_pos c, e1]
      · conv => rhs; unfold chg
        rw [if_neg c, ey, e1]
  exact ⟨3 + 1, key 3 0 rfl 0 0 rfl rfl⟩
/-- the row with the new strain -/
def nst (f : Nat → Int32) (r : Nat) (x y z : Int32) : Nat → Int32 := upd (upd (upd f (10 + 20 * r + 5) x) (10 + 20 * r + 6) y) (10 + 20 * r + 7) z
end SX
