/-! what is told of a rosette; the shunt and the strain -/
section TX
variable {I : gx_M} {f : Nat → Int32} {hs : Nat → Nat → Int32} {n : Nat} {sn : Nat → Int32} {ha : Nat} {tx : Nat → Int32} {tl : Nat} {re : Int32} {m w k r q : Nat} {p v : Int32}
/-- a number of a rosette is written -/
theorem vx.putr (h : vx I f hs n sn ha tx tl re) (hr : r < 8) (hq : q < 9) (hv : (q = 1 ∨ q = 8) → v &&& 1 = v) : vx (up I (1 + (6 + 4 * r)) q v) (upd f (10 + 20 * r + q) v) hs n sn ha tx tl re := by
  obtain ⟨lo1, lo2, lo3⟩ := lo_r r hr q hq
  have h3 := h.put (v := v) (by omega) lo1 lo2
  have e : fl_nz (10 + 20 * r + q) v = v := by
    unfold fl_nz
    rw [lo3]
    by_cases c : q = 1 ∨ q = 8
    · rw [if_pos (by simpa using c)]; exact hv c
    · rw [if_neg (by simpa using c)]
  rw [e] at h3
  exact h3
theorem gr_xyg (h : gr f r) (hq : 5 ≤ q ∧ q < 8) (hv : -5000 ≤ v.toInt ∧ v.toInt ≤ 5000) : gr (upd f (10 + 20 * r + q) v) r := by
  obtain ⟨g1, g2, g3, g4, g5, g6, g7, g8⟩ := h
  refine ⟨by rw [upd_n (by omega)]; exact g1, by rw [upd_n (by omega)]; exact g2, by rw [upd_n (by omega)]; exact g3, by rw [upd_n (by omega)]; exact g4, by rw [upd_n (by omega)]; exact g5, fun q2 hq2 => ?_, by rw [upd_n (by omega)]; exact g7, fun k hk => ?_⟩
  · by_cases e : 5 + q2 = q
    · rw [e, upd_s]; exact hv
    · rw [upd_n (by omega)]; exact g6 q2 hq2
  · rw [upd_n (by omega), upd_n (by omega), upd_n (by omega)]
    exact g8 k hk
end TX
