/-! the text of jobs -/
def kof (t : Int32) : Option Int32 := if t = 114 then some 0 else if t = 98 then some 1 else if t = 115 then some 2 else none
def g3 (g : Nat → Int32) (c : Nat) (a b d : Int32) : Nat → Int32 := upd (upd (upd g (3 * c) a) (3 * c + 1) b) (3 * c + 2) d
def rfin (tx : Nat → Int32) (tl : Nat) (re : Nat → Nat → (Nat → Int32) → Option Nat × Nat × (Nat → Int32)) (j c : Nat) (g : Nat → Int32) : Option Nat × Nat × (Nat → Int32) :=
  if j < tl then (if tx j = 44 then re (j + 1) (c + 1) g else (some j, c, g)) else (none, c + 1, g)
def rd (tx : Nat → Int32) (tl : Nat) : Nat → Nat → Nat → (Nat → Int32) → Option Nat × Nat × (Nat → Int32)
  | 0, i, c, g => (some i, c, g)
  | fu + 1, i, c, g =>
    if i < tl then
      match kof (tx i) with
      | none => (some i, c, g)
      | some k =>
        if i + 1 < tl then
          if (48 : Int32) ≤ tx (i + 1) ∧ tx (i + 1) ≤ 55 then
            if i + 2 < tl then
              if tx (i + 2) = 33 then
                if i + 3 < tl then
                  if (48 : Int32) ≤ tx (i + 3) ∧ tx (i + 3) ≤ 57 then rfin tx tl (rd tx tl fu) (i + 4) c (g3 g c k (tx (i + 1) - 48) (tx (i + 3) - 48))
                  else (some (i + 3), c, g)
                else (some (i + 3), c, g)
              else rfin tx tl (rd tx tl fu) (i + 2) c (g3 g c k (tx (i + 1) - 48) 5)
            else (none, c + 1, g3 g c k (tx (i + 1) - 48) 5)
          else (some (i + 1), c, g)
        else (some (i + 1), c, g)
    else (some i, c, g)
def gok (g : Nat → Int32) (c : Nat) : Prop := ∀ j, j < c → (∃ d, g (3 * j) = nI d ∧ d ≤ 2) ∧ ∃ u, g (3 * j + 2) = nI u ∧ u ≤ 9
theorem dig {t : Int32} {e : Nat} (h1 : (48 : Int32) ≤ t) (h2 : t ≤ nI (48 + e)) (he : e ≤ 9) : ∃ d, t - 48 = nI d ∧ d ≤ e := by
  obtain ⟨z, hz, ez⟩ := n_ofle (m := nI (48 + e)) (n := 48 + e) (x := t) rfl (by omega) (fun q => absurd (Int32.lt_of_le_of_lt h1 q) (by decide)) h2
  have h48 : 48 ≤ z := (n_le (a := 48) rfl ez).mp h1
  exact ⟨z - 48, n_sub (b := 48) ez rfl (by omega), by omega⟩
theorem kof_d {t k : Int32} (h : kof t = some k) : ∃ d, k = nI d ∧ d ≤ 2 := by
  unfold kof at h
  split at h
  · cases h; exact ⟨0, rfl, by decide⟩
  · split at h
    · cases h; exact ⟨1, rfl, by decide⟩
    · split at h
      · cases h; exact ⟨2, rfl, by decide⟩
      · cases h
theorem gok_g3 {g : Nat → Int32} {c : Nat} {a b d : Int32} (h : gok g c) (ha : ∃ x, a = nI x ∧ x ≤ 2) (hd : ∃ u, d = nI u ∧ u ≤ 9) : gok (g3 g c a b d) (c + 1) := by
  intro j hj
  unfold g3
  by_cases e : j = c
  · subst e
    rw [upd_n (by omega), upd_n (by omega), upd_s, upd_s]
    exact ⟨ha, hd⟩
  · rw [upd_n (by omega), upd_n (by omega), upd_n (by omega), upd_n (by omega), upd_n (by omega), upd_n (by omega)]
    exact h j (by omega)
def rok (R : Option Nat × Nat × (Nat → Int32)) : Prop := R.2.1 ≤ 20 ∧ gok R.2.2 R.2.1 ∨ R.1 ≠ none
theorem rd_ok {tx : Nat → Int32} {tl : Nat} (ht : tl ≤ 60) : ∀ (fu i c : Nat) (g : Nat → Int32), 3 * c ≤ i → gok g c → rok (rd tx tl fu i c g) := by
  intro fu
  induction fu with
  | zero => intro i c g _ _; exact Or.inr (by unfold rd; simp)
  | succ fu ih =>
    intro i c g hc hg
    have bad : ∀ j, rok (some j, c, g) := fun j => Or.inr (by simp)
    have fin : ∀ j g', i + 2 ≤ j → 3 * c + 1 < 60 → gok g' (c + 1) → rok (rfin tx tl (rd tx tl fu) j c g') := by
      intro j g' hj hc2 hg2
      unfold rfin
      split
      · split
        · exact ih (j + 1) (c + 1) g' (by omega) hg2
        · exact Or.inr (by simp)
      · exact Or.inl ⟨by show c + 1 ≤ 20; omega, hg2⟩
    unfold rd
    split
    · split
      · exact bad _
      · rename_i k hk
        have hkd := kof_d hk
        split
        · split
          · split
            · split
              · split
                · split
                  · rename_i h9
                    refine fin _ _ (by omega) (by omega) (gok_g3 hg hkd ?_)
                    exact dig (e := 9) h9.1 h9.2 (by decide)
                  · exact bad _
                · exact bad _
              · exact fin _ _ (by omega) (by omega) (gok_g3 hg hkd ⟨5, rfl, by decide⟩)
            · exact Or.inl ⟨by show c + 1 ≤ 20; omega, gok_g3 hg hkd ⟨5, rfl, by decide⟩⟩
          · exact bad _
        · exact bad _
    · exact bad _
section RD
variable {I : gx_M} {J : gx_MM} {f : Nat → Int32} {hs : Nat → Nat → Int32} {n : Nat} {sn : Nat → Int32} {ha : Nat} {tx : Nat → Int32} {tl : Nat} {re : Int32} {m w k c : Nat} {g : Nat → Int32}
/-- the rows that the class has read -/
def rx (I : gx_M) (c : Nat) (g : Nat → Int32) : Prop := I 271 1 = nI c ∧ ∀ j, j < c → I 272 (4 * j + 1) = g (3 * j) ∧ I 272 (4 * j + 2) = g (3 * j + 1) ∧ I 272 (4 * j + 3) = g (3 * j + 2)
def px (f : Nat → Int32) (hs : Nat → Nat → Int32) (n : Nat) (sn : Nat → Int32) (ha : Nat) (tx : Nat → Int32) (tl : Nat) (re : Int32) (Q : Int32 → gx_M → Prop) (R : Option Nat × Nat × (Nat → Int32)) : Prop :=
  ∀ I' : gx_M, vx I' f hs n sn ha tx tl re → (R.1 = none → rx I' R.2.1 R.2.2) → Q (enc (-1) R.1) I'
theorem ff_end {Q : Int32 → gx_M → Prop} {v d : Int32} {F i : Nat} (hx : vx I f hs n sn ha tx tl re) (hv : v = nI i) (hi : i = tl) (h : wj_X1_findFault_54 Q 269 d I) : wl_X1_findFault_12 Q (F + 1) 269 d v I := by
  have a2 : I 269 2 = nI tl := hx.2.2.2.2.2.2.2.2.2.2.1
  have ht : tl ≤ 60 := hx.2.2.2.2.2.2.2.2.2.2.2.1
  rw [wl_X1_findFault_12]
  exact ⟨fun _ => h, fun c => absurd ((n_le a2 hv).mpr (by omega)) c⟩
theorem ff_step {Q : Int32 → gx_M → Prop} {v d : Int32} {F i : Nat} (hx : vx I f hs n sn ha tx tl re) (hv : v = nI i) (hi : i < tl) (h : wp_X1_take 269 (tx i) d I (fun r I1 => (r = 5 → Q (nI i) I1) ∧ (¬ r = 5 → wl_X1_findFault_12 Q F 269 r (nI (i + 1)) I1))) : wl_X1_findFault_12 Q (F + 1) 269 d v I := by
  have a2 : I 269 2 = nI tl := hx.2.2.2.2.2.2.2.2.2.2.1
  have ht : tl ≤ 60 := hx.2.2.2.2.2.2.2.2.2.2.2.1
  have a3 : I (269 + 1) i = tx i := hx.2.2.2.2.2.2.2.2.2.2.2.2 i hi
  rw [wl_X1_findFault_12]
  rw [cl_of hv, a3]
  have e : ∀ x : Int32, x = v + 1 → x = nI (i + 1) := fun x ex => by rw [ex]; exact n_add hv rfl
  refine ⟨fun c => absurd ((n_le a2 hv).mp c) (by omega), fun _ => ⟨fun c => absurd ((n_le (a := 60) rfl hv).mp c) (by omega), fun _ => ⟨ix_of (N := 60) hv (by omega), ?_⟩⟩⟩
  have e1 : (fun (r1 : Int32) (I1 : gx_M) => (r1 = (5 : Int32) → Q v I1) ∧ (¬ r1 = (5 : Int32) → ∀ x1 : Int32, x1 = v + (1 : Int32) → wl_X1_findFault_12 Q F 269 r1 x1 I1)) = (fun r I1 => (r = 5 → Q (nI i) I1) ∧ (¬ r = 5 → wl_X1_findFault_12 Q F 269 r (nI (i + 1)) I1)) := by
    funext r1 I1
    refine propext ⟨fun q => ⟨fun h5 => by rw [← hv]; exact q.1 h5, fun h5 => q.2 h5 _ (e (v + 1) rfl).symm⟩, fun q => ⟨fun h5 => by rw [hv]; exact q.1 h5, fun h5 x ex => by rw [e x ex]; exact q.2 h5⟩⟩
  rw [e1]
  exact h
theorem ff_54 {Q : Int32 → gx_M → Prop} {d : Int32} (hx : vx I f hs n sn ha tx tl re) (h2 : ¬ d = 2) (h4 : ¬ d = 4) (h : Q (nI tl) I) : wj_X1_findFault_54 Q 269 d I := by
  have a2 : I 269 2 = nI tl := hx.2.2.2.2.2.2.2.2.2.2.1
  refine ⟨fun c => absurd c h2, fun _ => ⟨fun c => absurd c h4, fun _ => ?_⟩⟩
  rw [a2]; exact h
/-- the class's cells of a row -/
theorem s5_addt {Q : gx_M → Prop} {a b d : Int32} (h0 : I 271 1 = nI c) (hc : c < 20) (hQ : ∀ I' : gx_M, (∀ x, x ≠ 271 → x ≠ 272 → I' x = I x) → I' 271 1 = nI (c + 1) → I' 272 (4 * c + 1) = a → I' 272 (4 * c + 2) = b → I' 272 (4 * c + 3) = d → (∀ q, q < 4 * c → I' 272 q = I 272 q) → Q I') : wp_X5_add 271 (0 : Int32) a b d I Q := by
  unfold wp_X5_add
  intro y ey
  have ey : y = nI (4 * c + 0) := by
    rw [ey, h0, show (4 : Int32) = nI 4 from rfl, pk_mul, Nat.mul_comm]; rfl
  have e1 : y + (1 : Int32) = nI (4 * c + 1) := n_add ey rfl
  have e2 : y + (2 : Int32) = nI (4 * c + 2) := n_add ey rfl
  have e3 : y + (3 : Int32) = nI (4 * c + 3) := n_add ey rfl
  have e4 : y + (4 : Int32) = nI (4 * c + 4) := n_add ey rfl
  rw [cl_of ey, cl_of e1, cl_of e2, cl_of e3]
  refine ⟨fun h => absurd h (n_neg ey), fun _ => ⟨fun _ => ⟨ix_of (N := 80) ey (by omega), fun I1 f1 => ⟨ix_of (N := 80) e1 (by omega), fun I2 f2 => ⟨ix_of (N := 80) e2 (by omega), fun I3 f3 => ⟨ix_of (N := 80) e3 (by omega), fun I4 f4 I5 f5 => ?_⟩⟩⟩⟩, fun h => absurd ((n_le (b := 80) e4 rfl).mpr (by omega)) h⟩⟩
  have f1 : I1 = up I 272 (4 * c + 0) 0 := f1
  have f2 : I2 = up I1 272 (4 * c + 1) a := f2
  have f3 : I3 = up I2 272 (4 * c + 2) b := f3
  have f4 : I4 = up I3 272 (4 * c + 3) d := f4
  have g4 : I4 271 1 = nI c := by rw [f4, up_ne (by decide), f3, up_ne (by decide), f2, up_ne (by decide), f1, up_ne (by decide)]; exact h0
  refine hQ I5 (fun x h1 h2 => ?_) ?_ ?_ ?_ ?_ (fun q hq => ?_)
  · rw [f5, up_ne h1, f4, up_ne h2, f3, up_ne h2, f2, up_ne h2, f1, up_ne h2]
  · rw [f5, up_eq, upd_s]; exact n_add g4 rfl
  · rw [f5, up_ne (by decide), f4, up_eq, upd_n (by omega), f3, up_eq, upd_n (by omega), f2, up_eq, upd_s]
  · rw [f5, up_ne (by decide), f4, up_eq, upd_n (by omega), f3, up_eq, upd_s]
  · rw [f5, up_ne (by decide), f4, up_eq, upd_s]
  · rw [f5, up_ne (by decide), f4, up_eq, upd_n (by omega), f3, up_eq, upd_n (by omega), f2, up_eq, upd_n (by omega), f1, up_eq, upd_n (by omega)]
theorem s1_letter {Q : Int32 → gx_M → Prop} {t : Int32} (h0 : kof t = none → Q 5 I) (h1 : ∀ k, kof t = some k → Q 1 (up I 269 3 k)) : wp_X1_takeLetter 269 t I Q := by
  unfold kof at h0 h1
  refine ⟨fun c I1 e1 => ?_, fun c I1 e1 => ?_, fun c I1 e1 => ?_, fun c1 c2 c3 => ?_⟩
  · rw [e1]; refine h1 1 ?_; rw [if_neg (by rw [c]; decide), if_pos c]
  · rw [e1]; refine h1 0 ?_; rw [if_pos c]
  · rw [e1]; refine h1 2 ?_; rw [if_neg (by rw [c]; decide), if_neg (by rw [c]; decide), if_pos c]
  · refine h0 ?_; rw [if_neg c2, if_neg c1, if_neg c3]
theorem s1_find {Q : Int32 → gx_M → Prop} : ∀ (fu i c : Nat) (g : Nat → Int32) (I : gx_M) (v : Int32), tl < i + fu → 3 * c ≤ i → i ≤ tl → vx I f hs n sn ha tx tl re → rx I c g → v = nI i → px f hs n sn ha tx tl re Q (rd tx tl fu i c g) → wl_X1_findFault_12 Q (tl - i + 1) 269 (0 : Int32) v I := by
  intro fu
  induction fu with
  | zero => intro i c g I v h1 h2 h3; omega
  | succ fu ih =>
    intro i c g I v hfu hc hi hx hrx hv hQ
    have ht : tl ≤ 60 := hx.2.2.2.2.2.2.2.2.2.2.2.1
    have nn : ∀ a, (some a, c, g).1 = (none : Option Nat) → rx I c g := fun a h => (by cases h)
    unfold rd at hQ
    by_cases h0 : i < tl
    rotate_left
    · rw [if_neg h0] at hQ
      refine ff_end hx hv (by omega) (ff_54 hx (by decide) (by decide) ?_)
      rw [show tl = i by omega]
      exact hQ I hx (fun h => (by cases h))
    rw [if_pos h0] at hQ
    rw [show tl - i + 1 = (tl - (i + 1) + 1) + 1 by omega]
    refine ff_step hx hv h0 ⟨fun _ => s1_letter (fun hk => ⟨fun _ => ?_, fun h => absurd rfl h⟩) (fun k hk => ⟨fun h => absurd h (by decide), fun _ => ?_⟩), fun h => absurd h (by decide), fun h => absurd h (by decide), fun h => absurd h (by decide), fun h => absurd h (by decide), fun h => absurd rfl h⟩
    · rw [hk] at hQ
      have hQ : px f hs n sn ha tx tl re Q (some i, c, g) := hQ
      exact hQ I hx (fun h => (by cases h))
    rw [hk] at hQ
    have hx1 : vx (up I 269 3 k) f hs n sn ha tx tl re := hx.fr (fun a h1 h2 => up_ne h2) (by rw [up_eq, upd_n (by decide)])
    by_cases h1 : i + 1 < tl
    rotate_left
    · have hQ : px f hs n sn ha tx tl re Q (if i + 1 < tl then (if (48 : Int32) ≤ tx (i + 1) ∧ tx (i + 1) ≤ 55 then (if i + 2 < tl then (if tx (i + 2) = 33 then (if i + 3 < tl then (if (48 : Int32) ≤ tx (i + 3) ∧ tx (i + 3) ≤ 57 then rfin tx tl (rd tx tl fu) (i + 4) c (g3 g c k (tx (i + 1) - 48) (tx (i + 3) - 48)) else (some (i + 3), c, g)) else (some (i + 3), c, g)) else rfin tx tl (rd tx tl fu) (i + 2) c (g3 g c k (tx (i + 1) - 48) 5)) else (none, c + 1, g3 g c k (tx (i + 1) - 48) 5)) else (some (i + 1), c, g)) else (some (i + 1), c, g)) := hQ
      rw [if_neg h1] at hQ
      refine ff_end hx1 rfl (by omega) (ff_54 hx1 (by decide) (by decide) ?_)
      rw [show tl = i + 1 by omega]
      rw [show tl = i + 1 by omega] at hx1 hQ
      exact hQ _ hx1 (fun h => (by cases h))
    have hQ : px f hs n sn ha tx tl re Q (if i + 1 < tl then (if (48 : Int32) ≤ tx (i + 1) ∧ tx (i + 1) ≤ 55 then (if i + 2 < tl then (if tx (i + 2) = 33 then (if i + 3 < tl then (if (48 : Int32) ≤ tx (i + 3) ∧ tx (i + 3) ≤ 57 then rfin tx tl (rd tx tl fu) (i + 4) c (g3 g c k (tx (i + 1) - 48) (tx (i + 3) - 48)) else (some (i + 3), c, g)) else (some (i + 3), c, g)) else rfin tx tl (rd tx tl fu) (i + 2) c (g3 g c k (tx (i + 1) - 48) 5)) else (none, c + 1, g3 g c k (tx (i + 1) - 48) 5)) else (some (i + 1), c, g)) else (some (i + 1), c, g)) := hQ
    rw [if_pos h1] at hQ
    rw [show tl - (i + 1) + 1 = (tl - (i + 2) + 1) + 1 by omega]
    refine ff_step hx1 rfl h1 ⟨fun h => absurd h (by decide), fun _ => ?_, fun h => absurd h (by decide), fun h => absurd h (by decide), fun h => absurd h (by decide), fun _ h => absurd rfl h⟩
    refine s7_w (fun d1 d2 => ⟨fun h => absurd h (by decide), fun _ => ?_⟩) (fun d => ⟨fun _ => ⟨fun _ => ?_, fun h => absurd rfl h⟩, fun h => absurd rfl h⟩)
    rotate_left
    · rw [if_neg d] at hQ
      exact hQ _ hx1 (fun h => (by cases h))
    rw [if_pos ⟨d1, d2⟩] at hQ
    have u0 : (up I 269 3 k) 271 1 = nI c := by rw [up_ne (by decide)]; exact hrx.1
    refine s5_addt u0 (by omega) fun I2 y1 y2 y3 y4 y5 y6 => ⟨fun h => absurd h (by decide), fun _ => ?_⟩
    have k3 : (up I 269 3 k) 269 3 = k := by rw [up_eq, upd_s]
    rw [k3] at y3
    have hx2 : vx I2 f hs n sn ha tx tl re := hx1.fr (fun a h1 h2 => y1 a (by omega) (by omega)) (by rw [y1 269 (by decide) (by decide)])
    have old : ∀ q, q < 4 * c → I2 272 q = I 272 q := fun q hq => by rw [y6 q hq, up_ne (by decide)]
    have rx2 : rx I2 (c + 1) (g3 g c k (tx (i + 1) - 48) 5) := by
      refine ⟨y2, fun j hj => ?_⟩
      unfold g3
      by_cases e : j = c
      · subst e
        rw [upd_n (by omega), upd_n (by omega), upd_s, upd_n (by omega), upd_s, upd_s]
        exact ⟨y3, y4, y5⟩
      · rw [upd_n (by omega), upd_n (by omega), upd_n (by omega), upd_n (by omega), upd_n (by omega), upd_n (by omega), upd_n (by omega), upd_n (by omega), upd_n (by omega), old _ (by omega), old _ (by omega), old _ (by omega)]
        exact hrx.2 j (by omega)
    by_cases h2 : i + 2 < tl
    rotate_left
    · rw [if_neg h2] at hQ
      exact ff_end hx2 rfl (by omega) ⟨fun _ => hQ I2 hx2 (fun _ => rx2), fun h => absurd rfl h⟩
    rw [if_pos h2] at hQ
    rw [show tl - (i + 2) + 1 = (tl - (i + 3) + 1) + 1 by omega]
    refine ff_step hx2 rfl h2 ⟨fun h => absurd h (by decide), fun h => absurd h (by decide), fun _ => ⟨fun b => ⟨fun h => absurd h (by decide), fun _ => ?_⟩, fun b => ?_⟩, fun h => absurd h (by decide), fun h => absurd h (by decide), fun _ _ h => absurd rfl h⟩
    rotate_left
    · rw [if_neg b] at hQ
      unfold rfin at hQ
      rw [if_pos h2] at hQ
      refine ⟨fun q => ⟨fun h => absurd h (by decide), fun _ => ?_⟩, fun q => ⟨fun _ => ?_, fun h => absurd rfl h⟩⟩
      · rw [if_pos q] at hQ
        exact ih (i + 3) (c + 1) _ I2 _ (by omega) (by omega) (by omega) hx2 rx2 rfl hQ
      · rw [if_neg q] at hQ
        exact hQ I2 hx2 (fun h => (by cases h))
    rw [if_pos b] at hQ
    by_cases h3 : i + 3 < tl
    rotate_left
    · rw [if_neg h3] at hQ
      refine ff_end hx2 rfl (by omega) (ff_54 hx2 (by decide) (by decide) ?_)
      have e3 : enc (-1) (some (i + 3)) = nI tl := by show nI (i + 3) = _; rw [show tl = i + 3 by omega]
      have := hQ I2 hx2 (fun h => (by cases h))
      rw [← e3]
      exact this
    rw [if_pos h3] at hQ
    rw [show tl - (i + 3) + 1 = (tl - (i + 4) + 1) + 1 by omega]
    refine ff_step hx2 rfl h3 ⟨fun h => absurd h (by decide), fun h => absurd h (by decide), fun h => absurd h (by decide), fun _ => ?_, fun h => absurd h (by decide), fun _ _ _ h => absurd rfl h⟩
    refine s7_w (fun z1 z2 => ⟨fun h => absurd h (by decide), fun _ => ?_⟩) (fun z => ⟨fun _ => ⟨fun _ => ?_, fun h => absurd rfl h⟩, fun h => absurd rfl h⟩)
    rotate_left
    · rw [if_neg z] at hQ
      exact hQ I2 hx2 (fun h => (by cases h))
    rw [if_pos ⟨z1, z2⟩] at hQ
    have ec : I2 (269 + 2) 1 - (1 : Int32) = nI c := n_re (n_sub (b := 1) (y := 1) y2 rfl (by omega)) (by omega)
    have er : I2 (269 + 2) 1 = nI (c + 1) := y2
    unfold wp_X5_set
    rw [ec]
    have e43 : nI c * (4 : Int32) + 3 = nI (4 * c + 3) := by rw [show (4 : Int32) = nI 4 from rfl, pk_mul, show (3 : Int32) = nI 3 from rfl, nI_add, Nat.mul_comm]
    refine ⟨fun h => absurd h (n_neg rfl), fun _ => ⟨fun h => absurd ((n_le er (y := nI c) rfl).mp h) (by omega), fun _ => s7_w (fun _ _ => ⟨fun h => absurd h (by decide), fun _ => ⟨ix_of (N := 80) e43 (by omega), fun I3 f3 => ⟨fun h => absurd h (by decide), fun _ => ?_⟩⟩⟩) (fun h => absurd ⟨by decide, by decide⟩ h)⟩⟩
    rw [cl_of e43] at f3
    have f3 : I3 = up I2 272 (4 * c + 3) (tx (i + 3) - 48) := f3
    have hx3 : vx I3 f hs n sn ha tx tl re := hx2.fr (fun a h1 h2 => by rw [f3, up_ne (by omega)]) (by rw [f3, up_ne (by decide)])
    have rx3 : rx I3 (c + 1) (g3 g c k (tx (i + 1) - 48) (tx (i + 3) - 48)) := by
      refine ⟨by rw [f3, up_ne (by decide)]; exact y2, fun j hj => ?_⟩
      unfold g3
      rw [f3, up_eq]
      by_cases e : j = c
      · subst e
        refine ⟨?_, ?_, ?_⟩
        · rw [upd_n (by omega), upd_n (by omega), upd_n (by omega), upd_s]; exact y3
        · rw [upd_n (by omega), upd_n (by omega), upd_s]; exact y4
        · rw [upd_s, upd_s]
      · rw [upd_n (by omega), upd_n (by omega), upd_n (by omega), upd_n (by omega), upd_n (by omega), upd_n (by omega), upd_n (by omega), upd_n (by omega), upd_n (by omega), upd_n (by omega), upd_n (by omega), upd_n (by omega), old _ (by omega), old _ (by omega), old _ (by omega)]
        exact hrx.2 j (by omega)
    unfold rfin at hQ
    by_cases h4 : i + 4 < tl
    rotate_left
    · rw [if_neg h4] at hQ
      exact ff_end hx3 rfl (by omega) ⟨fun h => absurd h (by decide), fun _ => ⟨fun _ => hQ I3 hx3 (fun _ => rx3), fun h => absurd rfl h⟩⟩
    rw [if_pos h4] at hQ
    rw [show tl - (i + 4) + 1 = (tl - (i + 5) + 1) + 1 by omega]
    refine ff_step hx3 rfl h4 ⟨fun h => absurd h (by decide), fun h => absurd h (by decide), fun h => absurd h (by decide), fun h => absurd h (by decide), fun _ => ⟨fun q => ⟨fun h => absurd h (by decide), fun _ => ?_⟩, fun q => ⟨fun _ => ?_, fun h => absurd rfl h⟩⟩, fun _ _ _ _ h => absurd rfl h⟩
    · rw [if_pos q] at hQ
      exact ih (i + 5) (c + 1) _ I3 _ (by omega) (by omega) (by omega) hx3 rx3 rfl hQ
    · rw [if_neg q] at hQ
      exact hQ I3 hx3 (fun h => (by cases h))
end RD
