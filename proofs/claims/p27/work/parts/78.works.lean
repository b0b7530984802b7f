/-! a job is done: the row behind it; the plan behind it -/
/-- the row of a job ahead of the one that is dropped -/
def sk (b a : Nat) : Nat := if a < b then a else a + 1
theorem sk_inj {b a c : Nat} : sk b a = sk b c ↔ a = c := by
  unfold sk
  constructor
  · intro h; split at h <;> split at h <;> omega
  · intro h; rw [h]
theorem sk_ne {b a : Nat} : sk b a ≠ b := by unfold sk; split <;> omega
section DW
variable {g : Nat → Int32} {m w k r i j a b q rq dn bk : Nat} {pl x x2 : Int32}
theorem jf3_at {o : Nat} (ho : 10 ≤ o) (h : ∀ i u, i < 3 → u < 3 → u ≠ 0 → o ≠ 10 + 20 * jo g b + (9 + 3 * i + u)) : jf3 g w b o = tk g b w o := by
  have e2 : jf2 g w b o = tk g b w o := by unfold jf2; rw [upd_n (by omega), upd_n (by omega)]
  unfold jf3
  split
  · unfold prf
    split
    · exact e2
    · split
      · rw [fw_n 3 fun j hj => h j 1 hj (by decide) (by decide)]; exact e2
      · rw [fw_n 3 fun j hj => h j 2 hj (by decide) (by decide)]; exact e2
  · rw [upd_n (by omega)]; exact e2
theorem dj_at {o : Nat} (ho : 10 ≤ o) (ho2 : o < 250) (h : ∀ i u, i < 3 → u < 3 → u ≠ 0 → o ≠ 10 + 20 * jo g b + (9 + 3 * i + u)) : dj g w k b o = tk g b w o := by
  unfold dj
  rw [rec_lo ho2 (by omega), upd_n (by omega)]
  exact jf3_at ho h
theorem jf3_lo {o : Nat} (ho : o < 10) (h7 : o ≠ 7) : jf3 g w b o = jf2 g w b o := by
  unfold jf3
  split
  · exact prf_at ho
  · exact upd_n h7
theorem dj_lo {o : Nat} (ho : o < 10) (h6 : o ≠ 6) (h7 : o ≠ 7) (h8 : o ≠ 8) : dj g w k b o = jf2 g w b o := by
  unfold dj
  rw [rec_lo (by omega) h8, upd_n h6]
  exact jf3_lo ho h7
theorem dj_1 : dj g w k b 1 = plj g b := by rw [dj_lo (by decide) (by decide) (by decide) (by decide)]; unfold jf2; rw [upd_s]
theorem dj_2 : dj g w k b 2 = g 2 + dst g (g 1) b := by rw [dj_lo (by decide) (by decide) (by decide) (by decide)]; unfold jf2; rw [upd_n (by decide), upd_s]
theorem dj_5 (hw : w ≤ 20) : dj g w k b 5 = g 5 := by
  rw [dj_lo (by decide) (by decide) (by decide) (by decide)]; unfold jf2
  rw [upd_n (by decide), upd_n (by decide), tk_lo (by omega) (by decide) hw]
theorem dj_6 (hw : w ≤ 20) : dj g w k b 6 = g 6 + 1 := by
  have e : jf2 g w b 6 = g 6 := by unfold jf2; rw [upd_n (by decide), upd_n (by decide), tk_lo (by omega) (by decide) hw]
  unfold dj
  rw [rec_lo (by decide) (by decide), upd_s, jf3_lo (by decide) (by decide), e]
theorem dj_row (hb : jo g b < 8) (ha : a < w - 1) (hq : q < 4) (hw : w ≤ 20) : dj g w k b (170 + (4 * a + q)) = g (170 + (4 * sk b a + q)) := by
  rw [dj_at (by omega) (by omega) (fun i u hi hu _ => by omega)]
  unfold tk sk
  rw [if_neg (by omega)]
  by_cases c : a < b
  · rw [if_neg (by omega), if_pos c]
  · rw [if_pos (by omega), if_neg c, show 170 + (4 * a + q) + 4 = 170 + (4 * (a + 1) + q) by omega]
theorem dj_pl (hr : r < 8) (hw : w ≤ 20) : dj g w k b (10 + 20 * r + 0) = g (10 + 20 * r + 0) := by
  rw [dj_at (by omega) (by omega) (fun i u hi hu h0 => by
    have h3 : i = 0 ∨ i = 1 ∨ i = 2 := by omega
    rcases h3 with h | h | h <;> subst h <;> omega), tk_lo (by omega) (by omega) hw]
theorem gi_dj (hi : gi g m w k rq dn bk) (hb : b < w) : gi (dj g w k b) m (w - 1) (rek k) rq (dn + 1) bk := by
  obtain ⟨hg, h5, hrq, h6, hsum, hk, hn⟩ := hi
  have hw := hg.2.2.2.1
  have hj := (gd_jo hg hb).2.2
  refine ⟨gd_dj hg hb, by rw [dj_5 hw]; exact h5, hrq, by rw [dj_6 hw, h6]; exact n_add rfl rfl, by omega, ?_, fun a ha => ?_, fun a c hac hc => ?_⟩
  · unfold rek; rw [hk]; split <;> omega
  · rw [dj_row hj ha (by decide) hw]
    exact hn.1 _ (by unfold sk; split <;> omega)
  · rw [dj_row hj (by omega) (by decide) hw, dj_row hj hc (by decide) hw]
    exact hn.2 _ _ (by unfold sk; split <;> split <;> omega) (by unfold sk; split <;> omega)
/-- the plan over the row behind the first job -/
theorem pl_sk (hg : gd g m w k) (hb : b < w) (ha : a < w - 1) : jo (dj g w k b) a = jo g (sk b a) ∧ plj (dj g w k b) a = plj g (sk b a) := by
  have hw := hg.2.2.2.1
  have hj := (gd_jo hg hb).2.2
  have e : jo (dj g w k b) a = jo g (sk b a) := by unfold jo; rw [dj_row hj ha (by decide) hw]
  have hs : sk b a < w := by unfold sk; split <;> omega
  refine ⟨e, ?_⟩
  unfold plj
  rw [e]
  exact dj_pl (gd_jo hg hs).2.2 hw
theorem dst_sk (hg : gd g m w k) (hb : b < w) (ha : a < w - 1) : dst (dj g w k b) pl a = dst g pl (sk b a) := by unfold dst; rw [(pl_sk hg hb ha).2]
theorem bet_sk {c : Nat} (hg : gd g m w k) (hb : b < w) (ha : a < w - 1) (hc : c < w - 1) : bet (dj g w k b) pl a c = bet g pl (sk b a) (sk b c) := by
  have hw := hg.2.2.2.1
  have hj := (gd_jo hg hb).2.2
  unfold bet
  rw [dst_sk hg hb ha, dst_sk hg hb hc, dj_row hj ha (by decide) hw, dj_row hj hc (by decide) hw, dj_row hj ha (by decide) hw, dj_row hj hc (by decide) hw]
theorem pks_step {f G : Nat → Int32} {jj : Nat} (hm : mb x2 j = mb x jj) (hjj : jj = sk b j) (hbet : ∀ c, c < j → bet G pl j c = bet f pl jj (sk b c)) (hp : pks f x pl jj = (pks G x2 pl j).map (sk b)) : pks f x pl (jj + 1) = (pks G x2 pl (j + 1)).map (sk b) := by
  conv => lhs; unfold pks
  conv => rhs; unfold pks
  rw [hm, hp]
  by_cases c : mb x jj = true
  · rw [if_pos c, if_pos c]
  · rw [if_neg c, if_neg c]
    cases hG : pks G x2 pl j with
    | none => show some jj = some (sk b j); rw [hjj]
    | some c2 =>
      have hc2 := (pks_some j c2 hG).1
      show (if bet f pl jj (sk b c2) = true then some jj else some (sk b c2)) = (if bet G pl j c2 = true then some j else some c2).map (sk b)
      rw [hbet c2 hc2]
      split
      · show some jj = some (sk b j); rw [hjj]
      · rfl
theorem pks_sk (hg : gd g m w k) (hb : b < w) (hxb : mb x b = true) (hx : ∀ a, a < w - 1 → mb x2 a = mb x (sk b a)) : pks g x pl w = (pks (dj g w k b) x2 pl (w - 1)).map (sk b) := by
  have p1 : ∀ j, j ≤ b → pks g x pl j = (pks (dj g w k b) x2 pl j).map (sk b) := by
    intro j
    induction j with
    | zero => intro _; rfl
    | succ j ih =>
      intro hj
      have es : j = sk b j := by unfold sk; rw [if_pos (by omega)]
      refine pks_step (jj := j) (by rw [hx j (by omega), ← es]) es (fun c hc => ?_) (ih (by omega))
      rw [bet_sk hg hb (by omega) (by omega), ← es]
  have p2 : ∀ d, b + d ≤ w - 1 → pks g x pl (b + d + 1) = (pks (dj g w k b) x2 pl (b + d)).map (sk b) := by
    intro d
    induction d with
    | zero =>
      intro _
      show pks g x pl (b + 1) = (pks (dj g w k b) x2 pl b).map (sk b)
      rw [← p1 b (Nat.le_refl _)]
      conv => lhs; unfold pks
      rw [if_pos hxb]
    | succ d ih =>
      intro hd
      have es : b + d + 1 = sk b (b + d) := by unfold sk; rw [if_neg (by omega)]
      refine pks_step (j := b + d) (jj := b + d + 1) (by rw [hx _ (by omega), ← es]) es (fun c hc => ?_) (ih (by omega))
      rw [bet_sk hg hb (by omega) (by omega), ← es]
  have := p2 (w - 1 - b) (by omega)
  rw [show b + (w - 1 - b) + 1 = w by omega, show b + (w - 1 - b) = w - 1 by omega] at this
  exact this
theorem jb_0 (hg : gd g m w k) (hw0 : 0 < w) : pks g 0 (g 1) w = some (jb g w 0) := (js_next hg 0 (by omega)).2.2 hw0
theorem js_sk (hg : gd g m w k) (hw0 : 0 < w) (hG : gd (dj g w k (jb g w 0)) m (w - 1) (rek k)) : ∀ i, i ≤ w - 1 → (js g w (i + 1)).2.1 = (js (dj g w k (jb g w 0)) (w - 1) i).2.1 ∧ (∀ c, c < w - 1 → mb (js (dj g w k (jb g w 0)) (w - 1) i).1 c = mb (js g w (i + 1)).1 (sk (jb g w 0) c)) ∧ mb (js g w (i + 1)).1 (jb g w 0) = true ∧ (js g w (i + 1)).2.2.1 = (js g w 1).2.2.1 + (js (dj g w k (jb g w 0)) (w - 1) i).2.2.1 ∧ (i < w - 1 → jb g w (i + 1) = sk (jb g w 0) (jb (dj g w k (jb g w 0)) (w - 1) i)) := by
  have hw := hg.2.2.2.1
  have hb : jb g w 0 < w := js_b hg hw0
  have pick : ∀ i, i < w - 1 → (js g w (i + 1)).2.1 = (js (dj g w k (jb g w 0)) (w - 1) i).2.1 → (∀ c, c < w - 1 → mb (js (dj g w k (jb g w 0)) (w - 1) i).1 c = mb (js g w (i + 1)).1 (sk (jb g w 0) c)) → mb (js g w (i + 1)).1 (jb g w 0) = true → jb g w (i + 1) = sk (jb g w 0) (jb (dj g w k (jb g w 0)) (w - 1) i) := by
    intro i hi e1 e2 e3
    have h1 := (js_next hg (i + 1) (by omega)).2.2 (by omega)
    have h2 := (js_next hG i (by omega)).2.2 hi
    rw [e1, pks_sk hg hb e3 e2, h2] at h1
    exact (Option.some.inj h1).symm
  intro i
  induction i with
  | zero =>
    intro _
    have a1 : (js g w (0 + 1)).2.1 = (js (dj g w k (jb g w 0)) (w - 1) 0).2.1 := (dj_1 (g := g) (w := w) (k := k) (b := jb g w 0)).symm
    have m0 : ∀ c, c < 20 → mb (0 : Int32) c = false := by decide +kernel
    have a2 : ∀ c, c < w - 1 → mb (js (dj g w k (jb g w 0)) (w - 1) 0).1 c = mb (js g w (0 + 1)).1 (sk (jb g w 0) c) := by
      intro c hc
      have hs : sk (jb g w 0) c < w := by unfold sk; split <;> omega
      rw [js_mask hg hw0 (by omega)]
      show mb 0 c = (mb 0 (sk (jb g w 0) c) || _)
      rw [m0 c (by omega), m0 _ (by omega), decide_eq_false sk_ne]
      rfl
    have a3 : mb (js g w (0 + 1)).1 (jb g w 0) = true := by rw [js_mask hg hw0 (by omega)]; simp
    exact ⟨a1, a2, a3, (Int32.add_zero _).symm, fun h => pick 0 h a1 a2 a3⟩
  | succ i ih =>
    intro hi
    obtain ⟨a1, a2, a3, a4, a5⟩ := ih (by omega)
    have e := a5 (by omega)
    have hbG : jb (dj g w k (jb g w 0)) (w - 1) i < w - 1 := js_b hG (by omega)
    have b1 : (js g w (i + 1 + 1)).2.1 = (js (dj g w k (jb g w 0)) (w - 1) (i + 1)).2.1 := by
      show plj g (jb g w (i + 1)) = plj (dj g w k (jb g w 0)) (jb (dj g w k (jb g w 0)) (w - 1) i)
      rw [e, (pl_sk hg hb hbG).2]
    have b2 : ∀ c, c < w - 1 → mb (js (dj g w k (jb g w 0)) (w - 1) (i + 1)).1 c = mb (js g w (i + 1 + 1)).1 (sk (jb g w 0) c) := by
      intro c hc
      have hs : sk (jb g w 0) c < w := by unfold sk; split <;> omega
      rw [js_mask hg (i := i + 1) (by omega) (by omega), js_mask hG (i := i) (by omega) (by omega), a2 c hc, e]
      by_cases cc : c = jb (dj g w k (jb g w 0)) (w - 1) i
      · rw [decide_eq_true cc, decide_eq_true (sk_inj.mpr cc)]
      · rw [decide_eq_false cc, decide_eq_false (fun q => cc (sk_inj.mp q))]
    have b3 : mb (js g w (i + 1 + 1)).1 (jb g w 0) = true := by rw [js_mask hg (i := i + 1) (by omega) (by omega), a3, Bool.true_or]
    refine ⟨b1, b2, b3, ?_, fun h => pick (i + 1) h b1 b2 b3⟩
    show (js g w (i + 1)).2.2.1 + dst g (js g w (i + 1)).2.1 (jb g w (i + 1)) = (js g w 1).2.2.1 + ((js (dj g w k (jb g w 0)) (w - 1) i).2.2.1 + dst (dj g w k (jb g w 0)) (js (dj g w k (jb g w 0)) (w - 1) i).2.1 (jb (dj g w k (jb g w 0)) (w - 1) i))
    rw [a4, e, a1, dst_sk hg hb hbG, Int32.add_assoc]
end DW
