/-! jobs are taken back -/
section CA
variable {I : gx_M} {f : Nat → Int32} {hs : Nat → Nat → Int32} {n : Nat} {sn : Nat → Int32} {ha : Nat} {tx : Nat → Int32} {tl : Nat} {re : Int32} {m w k r i j b rq dn bk q a : Nat} {p : Int32}
theorem tk_row (ha : a < w - 1) (hq : q < 4) : tk f j w (170 + (4 * a + q)) = f (170 + (4 * sk j a + q)) := by
  unfold tk sk
  rw [if_neg (by omega)]
  by_cases c : a < j
  · rw [if_neg (by omega), if_pos c]
  · rw [if_pos (by omega), if_neg c, show 170 + (4 * a + q) + 4 = 170 + (4 * (a + 1) + q) by omega]
theorem gn_tk (hn : gn f w rq) (hj : j < w) : gn (tk f j w) (w - 1) rq := by
  refine ⟨fun a ha => ?_, fun a b hab hb => ?_⟩
  · rw [tk_row ha (by decide)]
    exact hn.1 _ (by unfold sk; split <;> omega)
  · rw [tk_row (by omega) (by decide), tk_row hb (by decide)]
    exact hn.2 _ _ (by unfold sk; split <;> split <;> omega) (by unfold sk; split <;> omega)
theorem cw_tk (hj : j < w) : ∀ i, i ≤ j → cw (tk f j w) p i = cw f p i := by
  intro i
  induction i with
  | zero => intro _; rfl
  | succ i ih =>
    intro hi
    have e : tk f j w (170 + (4 * i + 2)) = f (170 + (4 * i + 2)) := by
      unfold tk
      rw [if_neg (by omega), if_neg (by omega)]
    unfold cw
    rw [ih (by omega), e]
theorem cw_none {g : Nat → Int32} : ∀ i, (∀ a, a < i → ¬ g (170 + (4 * a + 2)) = p) → cw g p i = 0 := by
  intro i
  induction i with
  | zero => intro _; rfl
  | succ i ih =>
    intro h
    unfold cw
    rw [ih fun a ha => h a (by omega), if_neg (h i (by omega))]
theorem cxs_all : ∀ (j : Nat) (f : Nat → Int32) (w : Nat), j ≤ w → w ≤ 20 → gn f w rq → (∀ a, j ≤ a → a < w → ¬ f (170 + (4 * a + 2)) = p) → (cxs p j f w).2 = w - cw f p j ∧ gn (cxs p j f w).1 (cxs p j f w).2 rq ∧ (∀ a, a < (cxs p j f w).2 → ¬ (cxs p j f w).1 (170 + (4 * a + 2)) = p) ∧ (cxs p j f w).1 5 = f 5 ∧ (cxs p j f w).1 6 = f 6 := by
  intro j
  induction j with
  | zero => intro f w _ _ hn h; exact ⟨rfl, hn, fun a ha => h a (by omega) ha, rfl, rfl⟩
  | succ j ih =>
    intro f w hj hw hn h
    have hc := cw_le f p j
    unfold cxs
    by_cases c : f (170 + (4 * j + 2)) = p
    · rw [if_pos c]
      obtain ⟨a1, a2, a3, a4, a5⟩ := ih (tk f j w) (w - 1) (by omega) (by omega) (gn_tk hn (by omega)) (fun a h1 h2 => by
        rw [tk_row h2 (by decide)]
        exact h _ (by unfold sk; split <;> omega) (by unfold sk; split <;> omega))
      refine ⟨?_, a2, a3, by rw [a4, tk_lo (by omega) (by decide) hw], by rw [a5, tk_lo (by omega) (by decide) hw]⟩
      rw [a1, cw_tk (by omega) j (Nat.le_refl _)]
      conv => rhs; unfold cw
      rw [if_pos c]
      omega
    · rw [if_neg c]
      obtain ⟨a1, a2, a3, a4, a5⟩ := ih f w (by omega) hw hn (fun a h1 h2 => by
        by_cases e : a = j
        · rw [e]; exact c
        · exact h a (by omega) h2)
      refine ⟨?_, a2, a3, a4, a5⟩
      rw [a1]
      conv => rhs; unfold cw
      rw [if_neg c, Nat.add_zero]
theorem gi_cxs (hi : gi f m w k rq dn bk) : gi (cxs p w f w).1 m (cxs p w f w).2 k rq dn (bk + cw f p w) ∧ cw (cxs p w f w).1 p (cxs p w f w).2 = 0 := by
  obtain ⟨a0, a1, a2, a3, a4, a5, a6⟩ := hi
  obtain ⟨b1, b2, b3, b4, b5⟩ := cxs_all (p := p) w f w (Nat.le_refl _) a0.2.2.2.1 a6 (fun a h1 h2 => absurd h1 (by omega))
  have hc := cw_le f p w
  exact ⟨⟨gd_cxs w f w a0 (Nat.le_refl _), by rw [b4]; exact a1, a2, by rw [b5]; exact a3, by omega, a5, b2⟩, cw_none _ b3⟩
end CA
