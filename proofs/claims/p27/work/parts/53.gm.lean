/-! a rosette of a good row -/
section
variable {f : Nat → Int32} {m w k r : Nat}
def gm (f : Nat → Int32) (r : Nat) : Prop := r < 8 ∧ gr f r ∧ ∃ z : Nat, f 3 = nI z ∧ 20 ≤ z ∧ z ≤ 500
theorem gd_gm (hg : gd f m w k) (hr : r < m) : gm f r := ⟨by have := hg.2.1; omega, hg.2.2.2.2.2.2.2.2.1 r hr, hg.2.2.2.2.2.2.1⟩
end
