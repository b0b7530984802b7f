/-! THE LAW'S METHODS: low, size; strains and pulls -/
theorem i_two (a b : Int32) : (a + b) + (a - b) = (2 : Int32) * a := by
  have h2 : (2 : Int32) = 1 + 1 := rfl
  rw [h2, Int32.add_mul, Int32.one_mul, Int32.sub_eq_add_neg, Int32.add_assoc, ← Int32.add_assoc b a (-b), Int32.add_comm b a, Int32.add_assoc a b (-b), Int32.add_right_neg, Int32.add_zero]
section LW
variable {I : gx_M} {p0 p1 : Int32} {Q : Int32 → gx_M → Prop}
theorem xL_low {N : Nat} (hp : p1 = nI N) (hN : 0 < N) (hN2 : N < 2 ^ 31) (h : ∀ j, j < N → Q (nI j) I) : wp_L_low p0 p1 I Q := by
  obtain ⟨a, ha, e⟩ := pk_andE p0 (m := 2147483647) 31 rfl
  unfold wp_L_low
  rw [e, hp, pk_rem ha hN hN2]
  exact ⟨nI_ne0 hN hN2, h _ (Nat.mod_lt _ hN)⟩
def szv (x : Int32) : Int32 := if 0 ≤ x then x else -x
theorem xL_size (h : Q (szv p0) I) : wp_L_size p0 I Q := by
  unfold wp_L_size
  unfold szv at h
  refine ⟨fun c => ?_, fun c => ?_⟩
  · rw [if_pos c] at h; exact h
  · rw [if_neg c] at h; exact h
theorem szv_abi (x : Int32) : szv x = abi x := by
  unfold szv abi
  split
  · rfl
  · exact (Int32.zero_sub x).symm
end LW
section PU
variable {f : Nat → Int32} {r : Nat}
theorem cs_bd : ∀ t, t < 24 → (-10000 ≤ (gx_cos t).toInt ∧ (gx_cos t).toInt ≤ 10000) ∧ (-10000 ≤ (gx_sin t).toInt ∧ (gx_sin t).toInt ≤ 10000) := by decide +kernel
theorem cs_opp : ∀ t, t < 24 → (gx_cos ((t + 12) % 24)).toInt = -(gx_cos t).toInt ∧ (gx_sin ((t + 12) % 24)).toInt = -(gx_sin t).toInt := by decide +kernel
theorem mg_bd (h : gr f r) : -1146600000 ≤ (mg f r).toInt ∧ (mg f r).toInt ≤ 1146600000 := by
  have b0 := crr_bd h (i := 0) (by decide)
  have b1 := crr_bd h (i := 1) (by decide)
  have b2 := crr_bd h (i := 2) (by decide)
  have h2 : (2 : Int32).toInt = 2 := rfl
  have e1 : (2 * crr f r 1).toInt = 2 * (crr f r 1).toInt := by rw [t_mul (by rw [h2]; omega), h2]
  unfold mg
  split
  · rw [t_sub (by rw [t_sub (by omega)]; omega), t_sub (by omega), e1]; omega
  · have k3 : (11547 : Int64).toInt = 11547 := rfl
    have e5 : (Int32.toInt64 (crr f r 1 - crr f r 2)).toInt = (crr f r 1).toInt - (crr f r 2).toInt := by rw [Int32.toInt_toInt64, t_sub (by omega)]
    have e6 : (Int32.toInt64 (crr f r 1 - crr f r 2) * 11547).toInt = ((crr f r 1).toInt - (crr f r 2).toInt) * 11547 := by rw [l_mul (by rw [e5, k3]; omega), e5, k3]
    have bb := td_bd (x := ((crr f r 1).toInt - (crr f r 2).toInt) * 11547) (d := 10000) (B := 700000000) (by omega) (by omega)
    have e7 : ((Int32.toInt64 (crr f r 1 - crr f r 2) * 11547) / 10000).toInt = (((crr f r 1).toInt - (crr f r 2).toInt) * 11547).tdiv 10000 := by rw [l_div (d := 10000) rfl (by omega), e6]
    rw [l_32 (by rw [e7]; omega), e7]
    omega
theorem mxy_bd (h : gr f r) : -766650000 ≤ (mx f r - my f r).toInt ∧ (mx f r - my f r).toInt ≤ 766650000 := by
  have b0 : -286650000 ≤ (mx f r).toInt ∧ (mx f r).toInt ≤ 286650000 := crr_bd h (i := 0) (by decide)
  have b1 := my_bd h
  rw [t_sub (by omega)]
  omega
theorem pul_t (h : gr f r) {t : Nat} (ht : t < 24) : (pul f r t).toInt = (mx f r - my f r).toInt * (gx_cos t).toInt + (mg f r).toInt * (gx_sin t).toInt ∧ -20000000000000 ≤ (pul f r t).toInt ∧ (pul f r t).toInt ≤ 20000000000000 := by
  have bA := mxy_bd h
  have bB := mg_bd h
  obtain ⟨c1, c2⟩ := cs_bd t ht
  have m1 := ml_bd (A := 766650000) (B := 10000) bA c1
  have m2 := ml_bd (A := 1146600000) (B := 10000) bB c2
  have e1 : (Int32.toInt64 (mx f r - my f r) * Int32.toInt64 (gx_cos t)).toInt = (mx f r - my f r).toInt * (gx_cos t).toInt := by
    rw [l_mul (by rw [Int32.toInt_toInt64, Int32.toInt_toInt64]; omega), Int32.toInt_toInt64, Int32.toInt_toInt64]
  have e2 : (Int32.toInt64 (mg f r) * Int32.toInt64 (gx_sin t)).toInt = (mg f r).toInt * (gx_sin t).toInt := by
    rw [l_mul (by rw [Int32.toInt_toInt64, Int32.toInt_toInt64]; omega), Int32.toInt_toInt64, Int32.toInt_toInt64]
  have e3 : (pul f r t).toInt = (mx f r - my f r).toInt * (gx_cos t).toInt + (mg f r).toInt * (gx_sin t).toInt := by
    unfold pul
    rw [l_add (by rw [e1, e2]; omega), e1, e2]
  exact ⟨e3, by rw [e3]; omega⟩
theorem puv_t (h : gr f r) {t : Nat} (ht : t < 24) : (puv f r t).toInt = (pul f r t).toInt.tdiv 20000 ∧ -1000000000 ≤ (puv f r t).toInt ∧ (puv f r t).toInt ≤ 1000000000 := by
  obtain ⟨-, b⟩ := pul_t h ht
  have bb := td_bd (x := (pul f r t).toInt) (d := 20000) (B := 1000000000) (by omega) (by omega)
  have e1 : (pul f r t / 20000).toInt = (pul f r t).toInt.tdiv 20000 := l_div (d := 20000) rfl (by omega)
  have e2 : (puv f r t).toInt = (pul f r t).toInt.tdiv 20000 := by
    unfold puv
    rw [l_32 (by rw [e1]; omega), e1]
  exact ⟨e2, by rw [e2]; exact bb⟩
theorem puv_mono (h : gr f r) {s t : Nat} (hs : s < 24) (ht : t < 24) (hle : (pul f r s).toInt ≤ (pul f r t).toInt) : puv f r s ≤ puv f r t := by
  obtain ⟨e1, -⟩ := puv_t h hs
  obtain ⟨e2, -⟩ := puv_t h ht
  refine Int32.le_iff_toInt_le.mpr ?_
  rw [e1, e2]
  generalize (pul f r s).toInt = x at hle ⊢
  generalize (pul f r t).toInt = y at hle ⊢
  have t1 := td x (d := 20000) (by omega)
  have t2 := td y (d := 20000) (by omega)
  by_cases c1 : 0 ≤ x
  · rw [t1.1 c1, t2.1 (by omega)]; omega
  · rw [t1.2 (by omega)]
    by_cases c2 : 0 ≤ y
    · rw [t2.1 c2]; omega
    · rw [t2.2 (by omega)]; omega
theorem puv_opp (h : gr f r) {t : Nat} (ht : t < 24) : puv f r t = -puv f r ((t + 12) % 24) := by
  have ht2 : (t + 12) % 24 < 24 := Nat.mod_lt _ (by decide)
  obtain ⟨p1, -⟩ := pul_t h ht
  obtain ⟨p2, -⟩ := pul_t h ht2
  obtain ⟨e1, b1⟩ := puv_t h ht
  obtain ⟨e2, b2⟩ := puv_t h ht2
  obtain ⟨o1, o2⟩ := cs_opp t ht
  rw [o1, o2, Int.mul_neg, Int.mul_neg] at p2
  have hn : (pul f r ((t + 12) % 24)).toInt = -(pul f r t).toInt := by omega
  rw [hn, Int.neg_tdiv] at e2
  apply Int32.toInt_inj.mp
  rw [Int32.toInt_neg, Int.bmod_eq_of_le (by omega) (by omega)]
  omega
theorem bst_max (f : Nat → Int32) (r : Nat) : ∀ t, ∃ d, d ≤ t ∧ (bst f r t).1 = nI d ∧ (bst f r t).2 = pul f r d ∧ ∀ s, s ≤ t → (pul f r s).toInt ≤ (pul f r d).toInt := by
  intro t
  induction t with
  | zero => exact ⟨0, Nat.le_refl _, rfl, rfl, fun s hs => by rw [Nat.le_zero.mp hs]; exact Int.le_refl _⟩
  | succ t ih =>
    obtain ⟨d, d1, d2, d3, d4⟩ := ih
    by_cases c : lg_cmp (pul f r (t + 1)) (bst f r t).2 ≤ 0
    · have e : bst f r (t + 1) = bst f r t := by
        conv => lhs; unfold bst
        rw [if_pos c]
      rw [e]
      refine ⟨d, by omega, d2, d3, fun s hs => ?_⟩
      by_cases es : s = t + 1
      · have c1 := Int64.le_iff_toInt_le.mp ((lg_cmp_le _ _).mp c)
        rw [es, ← d3]; exact c1
      · exact d4 s (by omega)
    · have e : bst f r (t + 1) = (nI (t + 1), pul f r (t + 1)) := by
        conv => lhs; unfold bst
        rw [if_neg c]
      rw [e]
      refine ⟨t + 1, Nat.le_refl _, rfl, rfl, fun s hs => ?_⟩
      by_cases es : s = t + 1
      · rw [es]; exact Int.le_refl _
      · have c1 : ¬ (pul f r (t + 1)).toInt ≤ (bst f r t).2.toInt := fun q => c ((lg_cmp_le _ _).mpr (Int64.le_iff_toInt_le.mpr q))
        have := d4 s (by omega)
        rw [d3] at c1
        omega
end PU
section ST
variable {I : gx_M} {f : Nat → Int32} {hs : Nat → Nat → Int32} {n : Nat} {sn : Nat → Int32} {ha : Nat} {tx : Nat → Int32} {tl : Nat} {re : Int32} {m w k r q : Nat} {p p0 p1 p2 p3 : Int32} {Q : Int32 → gx_M → Prop}
theorem xL_st212 (hx : vx I f hs n sn ha tx tl re) (hg : gd f m w k) (hr : r < m) (hp : p = nI r) (h : ∀ I2 : gx_M, vx I2 f hs n sn ha tx tl re → Q 1 I2) : wj_L_strains_212 Q 0 p I := by
  unfold wj_L_strains_212
  refine x7_prin hx hg hr hp (q := 8) rfl (by decide) fun v1 I1 h1 hx1 => ⟨fun _ => ?_, fun c => absurd (h1.2.2.2.2.2.2.2.2 rfl) c⟩
  exact x7_pullB hx1 hg hr hp ⟨fun _ => h I1 hx1, fun c => absurd rfl c⟩
theorem xL_st171 {u : Int32} (hx : vx I f hs n sn ha tx tl re) (hg : gd f m w k) (hr : r < m) (hp : p = nI r) (hu : u = 0 ∨ qr f r 1 = 0) (h : ∀ I2 : gx_M, vx I2 f hs n sn ha tx tl re → Q 1 I2) : wj_L_strains_171 Q 0 p u I := by
  unfold wj_L_strains_171
  refine x7_prin hx hg hr hp (q := 4) rfl (by decide) fun v1 I1 h1 hx1 => x7_gauge hx1 hg hr hp (i := 0) rfl (by decide) (q := 6) rfl (by decide) fun I2 hx2 => ⟨fun _ => ⟨fun _ => xL_st212 hx2 hg hr hp h, fun c => ?_⟩, fun c => absurd (h1.2.2.2.2.1 rfl) c⟩
  have h0 := hu.resolve_left c
  refine x7_prin hx2 hg hr hp (q := 5) rfl (by decide) fun v3 I3 h3 hx3 => x7_gauge hx3 hg hr hp (i := 2) rfl (by decide) (q := 6) rfl (by decide) fun I4 hx4 => ⟨fun _ => xL_st212 hx4 hg hr hp h, fun c => absurd ?_ c⟩
  rw [h3.2.2.2.2.2.1 rfl]
  show my f r = crr f r 2
  unfold my
  rw [if_pos h0]
theorem xL_strains (hx : vx I f hs n sn ha tx tl re) (hg : gd f m w k) (hr : r < m) (hp : p = nI r) (h : ∀ I2 : gx_M, vx I2 f hs n sn ha tx tl re → Q 1 I2) : wp_L_strains 0 p I Q := by
  have hgr := (gd_gm hg hr).2.1
  obtain ⟨d, d1, d2, d3, d4⟩ := bst_max f r 23
  have key : ∀ (dd i : Nat), i + dd = 24 → ∀ (I : gx_M) (v2 v3 v4 : Int32), v2 = nI d → v3 = puv f r d → v4 = nI i → vx I f hs n sn ha tx tl re → wl_L_strains_17 Q (dd + 1) 0 p v2 v3 v4 I := by
    intro dd
    induction dd with
    | zero =>
      intro i hi I v2 v3 v4 e2 e3 e4 hx
      have er : rad f r = v3 := by rw [e3]; unfold rad puv; rw [d3]
      rw [wl_L_strains_17]
      refine ⟨fun _ => ?_, fun c => absurd ((n_le (a := 24) rfl e4).mpr (by omega)) c⟩
      refine x7_prin hx hg hr hp (q := 7) rfl (by decide) fun y1 I1 k1 hx1 => x7_prin hx1 hg hr hp (q := 4) rfl (by decide) fun y2 I2 k2 hx2 => x7_prin hx2 hg hr hp (q := 5) rfl (by decide) fun y3 I3 k3 hx3 => ?_
      have k1 : y1 = mm f r := k1.2.2.2.2.2.2.2.1 rfl
      have k2 : y2 = mx f r := k2.2.2.2.2.1 rfl
      have k3 : y3 = my f r := k3.2.2.2.2.2.1 rfl
      refine ⟨fun _ => ?_, fun c => absurd (by rw [k1, k2, k3]; unfold mm; rfl) c⟩
      refine x7_prin hx3 hg hr hp (q := 3) rfl (by decide) fun y4 I4 k4 hx4 => ⟨fun _ => ?_, fun c => absurd ((k4.2.2.2.1 rfl).trans er) c⟩
      refine x7_prin hx4 hg hr hp (q := 0) rfl (by decide) fun y5 I5 k5 hx5 => x7_prin hx5 hg hr hp (q := 1) rfl (by decide) fun y6 I6 k6 hx6 => ⟨fun _ => ?_, fun c => absurd (by rw [k5.1 rfl, k6.2.1 rfl, k1]; exact i_two _ _) c⟩
      refine x7_prin hx6 hg hr hp (q := 0) rfl (by decide) fun y7 I7 k7 hx7 => ⟨fun _ => ?_, fun c => absurd (by rw [k7.1 rfl, k1, er]) c⟩
      exact x7_rosette hx7 hg hr hp (q := 1) rfl (by decide) fun I8 hx8 => ⟨fun c => xL_st171 hx8 hg hr hp (Or.inr c) h, fun _ => xL_st171 hx8 hg hr hp (Or.inl rfl) h⟩
    | succ dd ih =>
      intro i hi I v2 v3 v4 e2 e3 e4 hx
      have hi24 : i < 24 := by omega
      have hi2 : (i + 12) % 24 < 24 := Nat.mod_lt _ (by decide)
      have hmx : puv f r i ≤ v3 := by rw [e3]; exact puv_mono hgr hi24 (by omega) (d4 i (by omega))
      rw [wl_L_strains_17]
      refine ⟨fun c => absurd ((n_le (a := 24) rfl e4).mp c) (by omega), fun _ => ?_⟩
      have go : ∀ I : gx_M, vx I f hs n sn ha tx tl re → wj_L_strains_77 Q (wl_L_strains_17 Q (dd + 1)) 0 p v2 v3 v4 I := fun I hx x ex => ih (i + 1) (by omega) I v2 v3 x e2 e3 (by rw [ex]; exact n_add e4 rfl) hx
      refine x7_pull hx hg hr hp e4 hi24 fun I1 hx1 => ⟨fun c => absurd hmx (Int32.not_le.mpr c), fun _ => ?_⟩
      have e5 : (v4 + (12 : Int32)) - (v4 + (12 : Int32)) / (24 : Int32) * (24 : Int32) = nI ((i + 12) % 24) := by
        rw [show v4 + (12 : Int32) = nI (i + 12) from n_add e4 rfl]
        exact pk_rem (d := 24) (by omega) (by decide) (by decide)
      refine x7_pull hx1 hg hr hp e5 hi2 fun I2 hx2 => ⟨fun _ => ⟨fun _ => go I2 hx2, fun _ => ?_⟩, fun c => absurd (puv_opp hgr hi24) c⟩
      exact x7_pull hx2 hg hr hp e4 hi24 fun I3 hx3 => ⟨fun _ => go I3 hx3, fun c => absurd hmx c⟩
  unfold wp_L_strains
  refine x7_prin hx hg hr hp (q := 2) rfl (by decide) fun y1 I1 k1 hx1 => ?_
  have e2 : y1 = nI d := by
    rw [k1.2.2.1 rfl]; exact d2
  exact x7_pull hx1 hg hr hp (t := d) e2 (by omega) fun I2 hx2 => ⟨24 + 1, key 24 0 rfl I2 _ _ 0 e2 rfl rfl hx2⟩
end ST
