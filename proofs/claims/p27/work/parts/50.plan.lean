/-! the order of doing; job -/
theorem bit_iff {x : Int32} {j : Nat} (hj : j < 20) : ((x >>> (nI j &&& 31)) &&& 1 = (1 : Int32)) ↔ x.toBitVec.getLsbD j = true := by
  have e : ∀ j, j < 20 → (nI j &&& 31).toBitVec.smod 32#32 = BitVec.ofNat 32 j := by decide +kernel
  have e1 : ((x >>> (nI j &&& 31)) &&& 1).toBitVec = BitVec.setWidth 32 (BitVec.ofBool (x.toBitVec.getLsbD j)) := by
    rw [Int32.toBitVec_and, Int32.toBitVec_shiftRight]
    have h1 : (1 : Int32).toBitVec = 1#32 := rfl
    rw [h1, BitVec.and_one_eq_setWidth_ofBool_getLsbD, show (nI j &&& 31).toBitVec.smod 32 = BitVec.ofNat 32 j from e j hj, BitVec.sshiftRight', BitVec.getLsbD_sshiftRight, BitVec.toNat_ofNat, Nat.mod_eq_of_lt (by omega)]
    simp
    congr 1
    rw [if_pos (by omega)]
  constructor
  · intro h
    rw [h] at e1
    cases hb : x.toBitVec.getLsbD j with
    | true => rfl
    | false => rw [hb] at e1; exact absurd e1 (by decide)
  · intro h
    rw [h] at e1
    exact Int32.toBitVec_inj.mp e1
theorem bit_or {x : Int32} {b j : Nat} (hb : b < 20) (hj : j < 20) : (x ||| ((1 : Int32) <<< (nI b &&& 31))).toBitVec.getLsbD j = (x.toBitVec.getLsbD j || decide (j = b)) := by
  have e : ∀ b, b < 20 → ∀ j, j < 20 → ((1 : Int32) <<< (nI b &&& 31)).toBitVec.getLsbD j = decide (j = b) := by decide +kernel
  rw [Int32.toBitVec_or, BitVec.getLsbD_or, e b hb j hj]
def mb (x : Int32) (j : Nat) : Bool := x.toBitVec.getLsbD j
theorem i_sub0 {x y : Int32} : x - y = 0 ↔ x = y := by
  constructor
  · intro h
    have := Int32.sub_add_cancel x y
    rw [h, Int32.zero_add] at this
    exact this.symm
  · intro h; rw [h, Int32.sub_self]
theorem i_subs {x y : Int32} {a b : Nat} (hx : x = nI a) (hy : y = nI b) (ha : a < 2 ^ 30) (hb : b < 2 ^ 30) : (x - y).toInt = (a : Int) - b := by
  rw [hx, hy]; exact pk_sub_toInt (by omega) (by omega)
def jo (f : Nat → Int32) (a : Nat) : Nat := (f (170 + (4 * a + 2))).toNatClampNeg
def plj (f : Nat → Int32) (a : Nat) : Int32 := f (10 + 20 * jo f a + 0)
def abi (x : Int32) : Int32 := if 0 ≤ x then x else 0 - x
def dst (f : Nat → Int32) (pl : Int32) (a : Nat) : Int32 := abi (plj f a - pl)
def bet (f : Nat → Int32) (pl : Int32) (a b : Nat) : Bool :=
  if f (170 + (4 * a + 3)) = f (170 + (4 * b + 3)) then (if dst f pl a = dst f pl b then decide (f (170 + (4 * a + 0)) < f (170 + (4 * b + 0))) else decide (dst f pl a < dst f pl b)) else decide (f (170 + (4 * b + 3)) < f (170 + (4 * a + 3)))
def pks (f : Nat → Int32) (x pl : Int32) : Nat → Option Nat
  | 0 => none
  | j + 1 => if mb x j = true then pks f x pl j else
    match pks f x pl j with
    | none => some j
    | some b => if bet f pl j b = true then some j else some b
theorem pks_some {f : Nat → Int32} {x pl : Int32} : ∀ j b, pks f x pl j = some b → b < j ∧ mb x b = false := by
  intro j
  induction j with
  | zero => intro b h; cases h
  | succ j ih =>
    intro b h
    unfold pks at h
    split at h
    · have := ih b h; exact ⟨by omega, this.2⟩
    · rename_i c
      split at h
      · cases h; exact ⟨by omega, by simpa using c⟩
      · rename_i b2 hb2
        have := ih b2 hb2
        split at h
        · cases h; exact ⟨by omega, by simpa using c⟩
        · cases h; exact ⟨by omega, this.2⟩
theorem pks_none {f : Nat → Int32} {x pl : Int32} : ∀ j, pks f x pl j = none → ∀ i, i < j → mb x i = true := by
  intro j
  induction j with
  | zero => intro _ i hi; exact absurd hi (by omega)
  | succ j ih =>
    intro h i hi
    unfold pks at h
    split at h
    · rename_i c
      by_cases e : i = j
      · rw [e]; exact c
      · exact ih h i (by omega)
    · split at h
      · cases h
      · split at h <;> cases h
def cnt (x : Int32) : Nat → Nat
  | 0 => 0
  | j + 1 => if mb x j = true then cnt x j + 1 else cnt x j
theorem cnt_all {x : Int32} : ∀ j, (∀ i, i < j → mb x i = true) → cnt x j = j := by
  intro j
  induction j with
  | zero => intro _; rfl
  | succ j ih =>
    intro h
    unfold cnt
    rw [if_pos (h j (by omega)), ih fun i hi => h i (by omega)]
theorem cnt_set {x : Int32} {b : Nat} (hb20 : b < 20) (hb : mb x b = false) : ∀ j, j ≤ 20 → cnt (x ||| ((1 : Int32) <<< (nI b &&& 31))) j = if b < j then cnt x j + 1 else cnt x j := by
  intro j
  induction j with
  | zero => intro _; rfl
  | succ j ih =>
    intro hj
    have ih := ih (by omega)
    have e : mb (x ||| ((1 : Int32) <<< (nI b &&& 31))) j = (mb x j || decide (j = b)) := bit_or hb20 (by omega)
    unfold cnt
    rw [e, ih]
    by_cases h1 : j = b
    · subst h1
      rw [hb, if_neg (Nat.lt_irrefl _)]
      simp
    · by_cases h2 : mb x j = true
      · rw [h2]
        by_cases h3 : b < j
        · rw [if_pos h3, if_pos (show b < j + 1 by omega)]; simp
        · rw [if_neg h3, if_neg (show ¬ b < j + 1 by omega)]; simp
      · have h2 : mb x j = false := by simpa using h2
        rw [h2]
        by_cases h3 : b < j
        · rw [if_pos h3, if_pos (show b < j + 1 by omega)]; simp [h1]
        · rw [if_neg h3, if_neg (show ¬ b < j + 1 by omega)]; simp [h1]
section PX
variable {I : gx_M} {f : Nat → Int32} {hs : Nat → Nat → Int32} {n : Nat} {sn : Nat → Int32} {ha : Nat} {tx : Nat → Int32} {tl : Nat} {re : Int32} {m w k : Nat} {p u pl x : Int32} {pa : Nat}
theorem gd_jo (hg : gd f m w k) {j : Nat} (hj : j < w) : f (170 + (4 * j + 2)) = nI (jo f j) ∧ jo f j < m ∧ jo f j < 8 := by
  obtain ⟨r, hr, hr2⟩ := (hg.2.2.2.2.2.2.2.2.2 j hj).2.1
  have e : jo f j = r := by unfold jo; rw [hr]; exact nI_clamp (by have := hg.2.1; omega)
  have := hg.2.1
  rw [e]
  exact ⟨hr, hr2, by omega⟩
theorem gd_plj (hg : gd f m w k) {j : Nat} (hj : j < w) : ∃ a, plj f j = nI a ∧ a ≤ 1000 :=
  (hg.2.2.2.2.2.2.2.2.1 _ (gd_jo hg hj).2.1).1
theorem abi_sub {y z : Int32} {a b : Nat} (hy : y = nI a) (hz : z = nI b) (ha : a ≤ 1000) (hb : b ≤ 1000) : ∃ d, abi (y - z) = nI d ∧ d ≤ 1000 := by
  have e := i_subs hy hz (by omega) (by omega)
  have e0 : (0 : Int32).toInt = 0 := rfl
  unfold abi
  by_cases h : b ≤ a
  · rw [if_pos (Int32.le_iff_toInt_le.mpr (by omega)), hy, hz, pk_sub h]
    exact ⟨a - b, rfl, by omega⟩
  · rw [if_neg (fun c => by have := Int32.le_iff_toInt_le.mp c; omega), Int32.zero_sub, Int32.neg_sub, hy, hz, pk_sub (by omega)]
    exact ⟨b - a, rfl, by omega⟩
theorem gd_dst (hg : gd f m w k) (hp : pl = nI pa) (hpa : pa ≤ 1000) {j : Nat} (hj : j < w) : ∃ d, dst f pl j = nI d ∧ d ≤ 1000 := by
  obtain ⟨a, h1, h2⟩ := gd_plj hg hj
  exact abi_sub h1 hp h2 hpa
theorem s3_dist {Q : Int32 → gx_M → Prop} {j : Nat} (hx : vx I f hs n sn ha tx tl re) (hg : gd f m w k) (hpl : I 273 2 = pl) (hp : p = nI j) (hj : j < w) (h : Q (dst f pl j) I) : wp_X3_distance 273 1 p I Q := by
  obtain ⟨h1, h2, h3⟩ := gd_jo hg hj
  unfold wp_X3_distance
  refine s5_jobs hx hg hp hj (q := 2) rfl (by decide) (s6_place hx hg h2 h1 ?_)
  rw [hpl]
  exact h
theorem s3_ahead {Q : Int32 → gx_M → Prop} {a b : Nat} (hx : vx I f hs n sn ha tx tl re) (hg : gd f m w k) (hpl : I 273 2 = pl) (hpa0 : pl = nI pa) (hpa : pa ≤ 1000) (hp : p = nI a) (hj : a < w) (hu : u = nI b) (hb : b < w) (h : Q (if bet f pl a b = true then 1 else 0) I) : wp_X3_isAhead 273 1 p u I Q := by
  obtain ⟨ua, a1, a2⟩ := (hg.2.2.2.2.2.2.2.2.2 a hj).2.2
  obtain ⟨ub, b1, b2⟩ := (hg.2.2.2.2.2.2.2.2.2 b hb).2.2
  obtain ⟨da, a3, a4⟩ := gd_dst hg hpa0 hpa hj
  obtain ⟨db, b3, b4⟩ := gd_dst hg hpa0 hpa hb
  have z0 : (0 : Int32).toInt = 0 := rfl
  unfold bet at h
  unfold wp_X3_isAhead
  refine s5_jobs hx hg hp hj (q := 3) rfl (by decide) (s5_jobs hx hg hu hb (q := 3) rfl (by decide) fun x1 e1 => ?_)
  have s1 := i_subs a1 b1 (by omega) (by omega)
  rw [← e1] at s1
  refine ⟨fun c => s3_dist hx hg hpl hp hj (s3_dist hx hg hpl hu hb fun x2 e2 => ?_), fun c => ?_⟩
  · rw [e1] at c
    rw [if_pos (i_sub0.mp c)] at h
    have s2 := i_subs a3 b3 (by omega) (by omega)
    rw [← e2] at s2
    refine ⟨fun c2 => s5_jobs hx hg hp hj (q := 0) rfl (by decide) (s5_jobs hx hg hu hb (q := 0) rfl (by decide) ?_), fun c2 => ?_⟩
    · rw [e2] at c2
      rw [if_pos (i_sub0.mp c2)] at h
      refine ⟨fun c3 => ?_, fun c3 => ?_⟩
      · rw [if_neg] at h
        · exact h
        · rw [decide_eq_true_iff]; exact i_nlt.mpr c3
      · rw [if_pos] at h
        · exact h
        · rw [decide_eq_true_iff]; exact i_nle.mp c3
    · have c4 : ¬ dst f pl a = dst f pl b := fun q => c2 (by rw [e2]; exact i_sub0.mpr q)
      rw [if_neg c4] at h
      refine ⟨fun c3 => ?_, fun c3 => ?_⟩
      · have c3 := Int32.le_iff_toInt_le.mp c3
        rw [if_neg] at h
        · exact h
        · rw [decide_eq_true_iff, a3, b3, nI_ltI (by omega) (by omega)]; omega
      · have c3 := Int32.lt_iff_toInt_lt.mp (i_nle.mp c3)
        rw [if_pos] at h
        · exact h
        · rw [decide_eq_true_iff, a3, b3, nI_ltI (by omega) (by omega)]; omega
  · have c4 : ¬ f (170 + (4 * a + 3)) = f (170 + (4 * b + 3)) := fun q => c (by rw [e1]; exact i_sub0.mpr q)
    rw [if_neg c4] at h
    refine ⟨fun c3 => ?_, fun c3 => ?_⟩
    · have c3 := Int32.le_iff_toInt_le.mp c3
      rw [if_neg] at h
      · exact h
      · rw [decide_eq_true_iff, a1, b1, nI_ltI (by omega) (by omega)]; omega
    · have c3 := Int32.lt_iff_toInt_lt.mp (i_nle.mp c3)
      rw [if_pos] at h
      · exact h
      · rw [decide_eq_true_iff, a1, b1, nI_ltI (by omega) (by omega)]; omega
def enc (d : Int32) : Option Nat → Int32
  | none => d
  | some b => nI b
theorem s3_gloop {Q : gx_M → Prop} {I0 : gx_M} (hg : gd f m w k) (hx0 : vx I0 f hs n sn ha tx tl re) (hpl : I0 273 2 = pl) (hpa0 : pl = nI pa) (hpa : pa ≤ 1000) (hmb : ∀ j, j < 20 → (I0 274 j = 0 ↔ mb x j = false)) (hQ : ∀ I' : gx_M, (∀ a, a ≠ 273 → I' a = I0 a) → (∀ q, q ≠ 1 → I' 273 q = I0 273 q) → I' 273 1 = enc (-1) (pks f x pl w) → wj_X3_goOn_64 Q 273 1 I') :
    ∀ (d i : Nat), i + d = w → ∀ (I : gx_M) (v : Int32), v = nI i → (∀ a, a ≠ 273 → I a = I0 a) → (∀ q, q ≠ 1 → I 273 q = I0 273 q) → I 273 1 = enc (-1) (pks f x pl i) → wl_X3_goOn_7 Q (d + 1) 273 1 v I := by
  have hw := hg.2.2.2.1
  intro d
  induction d with
  | zero =>
    intro i hi I v hv g1 g2 g3
    have hw0 : I (1 + 2) 1 = nI w := by rw [g1 3 (by decide)]; exact hx0.wo hg
    rw [wl_X3_goOn_7]
    exact ⟨fun _ => hQ I g1 g2 (by rw [g3, show i = w by omega]), fun h => absurd ((n_le hw0 hv).mpr (by omega)) h⟩
  | succ d ih =>
    intro i hi I v hv g1 g2 g3
    have hw0 : I (1 + 2) 1 = nI w := by rw [g1 3 (by decide)]; exact hx0.wo hg
    have hx : vx I f hs n sn ha tx tl re := hx0.fr (fun a h1 h2 => g1 a (by omega)) (by rw [g1 269 (by decide)])
    have hpl2 : I 273 2 = pl := by rw [g2 2 (by decide)]; exact hpl
    rw [wl_X3_goOn_7]
    refine ⟨fun h => absurd ((n_le hw0 hv).mp h) (by omega), fun _ => ⟨fun h => absurd ((n_le (a := 20) rfl hv).mp h) (by omega), fun _ => ⟨ix_of (N := 20) hv (by omega), ?_⟩⟩⟩
    rw [cl_of hv]
    have keep : enc (-1) (pks f x pl (i + 1)) = enc (-1) (pks f x pl i) → wj_X3_goOn_58 Q (wl_X3_goOn_7 Q (d + 1)) 273 1 v I := fun h y ey => ih (i + 1) (by omega) I y (by rw [ey]; exact n_add hv rfl) g1 g2 (by rw [h]; exact g3)
    have put : pks f x pl (i + 1) = some i → wj_X3_goOn_53 Q (wl_X3_goOn_7 Q (d + 1)) 273 1 v I := by
      intro h I1 e1 y ey
      refine ih (i + 1) (by omega) I1 y (by rw [ey]; exact n_add hv rfl) (fun a h => by rw [e1, up_ne h, g1 a h]) (fun q h => by rw [e1, up_eq, upd_n h, g2 q h]) ?_
      rw [e1, up_eq, upd_s, h]
      exact hv
    have e274 : I (273 + 1) i = I0 274 i := by rw [g1 274 (by decide)]
    rw [e274]
    refine ⟨fun c => ?_, fun c => keep ?_⟩
    · have c1 := (hmb i (by omega)).mp c
      have hp : pks f x pl (i + 1) = match pks f x pl i with
          | none => some i
          | some b => if bet f pl i b = true then some i else some b := by
        conv => lhs; unfold pks
        rw [if_neg (by rw [c1]; decide)]
      cases hpi : pks f x pl i with
      | none =>
        rw [hpi] at hp g3
        refine ⟨fun _ => put hp, fun h => absurd ?_ h⟩
        rw [g3]; decide
      | some b =>
        rw [hpi] at hp g3
        have hb := (pks_some i b hpi).1
        have g3 : I 273 1 = nI b := g3
        have hp : pks f x pl (i + 1) = if bet f pl i b = true then some i else some b := hp
        refine ⟨fun h => absurd h (n_neg g3), fun _ => s3_ahead hx hg hpl2 hpa0 hpa hv (by omega) g3 (by omega) ⟨fun h => ?_, fun h => ?_⟩⟩
        · refine keep ?_
          have hbt : ¬ bet f pl i b = true := fun q => by rw [if_pos q] at h; exact absurd h (by decide)
          rw [hp, if_neg hbt, hpi]
        · refine put ?_
          have hbt : bet f pl i b = true := by
            by_cases q : bet f pl i b = true
            · exact q
            · rw [if_neg q] at h; exact absurd rfl h
          rw [hp, if_pos hbt]
    · have c1 : mb x i = true := by
        cases hc : mb x i with
        | true => rfl
        | false => exact absurd ((hmb i (by omega)).mpr hc) c
      conv => lhs; unfold pks
      rw [if_pos c1]
theorem s3_goOn {Q : gx_M → Prop} {b : Nat} (hx : vx I f hs n sn ha tx tl re) (hg : gd f m w k) (hpl : I 273 2 = pl) (hpa0 : pl = nI pa) (hpa : pa ≤ 1000) (hmb : ∀ j, j < 20 → (I 274 j = 0 ↔ mb x j = false)) (hb : pks f x pl w = some b)
    (hQ : ∀ I' : gx_M, vx I' f hs n sn ha tx tl re → (∀ a, a ≠ 273 → a ≠ 274 → I' a = I a) → I' 273 1 = nI b → I' 273 2 = plj f b → I' 273 3 = I 273 3 + dst f pl b → (∀ j, j < 20 → (I' 274 j = 0 ↔ mb (x ||| ((1 : Int32) <<< (nI b &&& 31))) j = false)) → Q I') : wp_X3_goOn 273 1 I Q := by
  have hw := hg.2.2.2.1
  obtain ⟨hbw, hbm⟩ := pks_some w b hb
  obtain ⟨j1, j2, j3⟩ := gd_jo hg hbw
  unfold wp_X3_goOn
  intro I1 e1
  have q1 : ∀ a, a ≠ 273 → I1 a = I a := fun a h => by rw [e1, up_ne h]
  have q2 : ∀ q, q ≠ 1 → I1 273 q = I 273 q := fun q h => by rw [e1, up_eq, upd_n h]
  have hx1 : vx I1 f hs n sn ha tx tl re := hx.fr (fun a h1 h2 => q1 a (by omega)) (by rw [q1 269 (by decide)])
  refine ⟨w + 1, s3_gloop (x := x) hg hx1 (by rw [q2 2 (by decide)]; exact hpl) hpa0 hpa (by rw [q1 274 (by decide)]; exact hmb) (fun I2 g1 g2 g3 => ?_) w 0 (by omega) I1 0 rfl (fun _ _ => rfl) (fun _ _ => rfl) (by rw [e1, up_eq, upd_s]; rfl)⟩
  rw [hb] at g3
  have g3 : I2 273 1 = nI b := g3
  refine ⟨fun h => absurd h (n_neg g3), fun _ => ⟨ix_of (N := 20) g3 (by omega), fun I3 e3 => ?_⟩⟩
  rw [cl_of g3] at e3
  have z3 : ∀ a, a ≠ 274 → I3 a = I2 a := fun a h => by rw [e3, up_ne h]
  have hx3 : vx I3 f hs n sn ha tx tl re := hx1.fr (fun a h1 h2 => by rw [z3 a (by omega), g1 a (by omega)]) (by rw [z3 269 (by decide), g1 269 (by decide)])
  have g33 : I3 273 1 = nI b := by rw [z3 273 (by decide)]; exact g3
  refine s5_jobs hx3 hg g33 hbw (q := 2) rfl (by decide) (s6_place hx3 hg j2 j1 fun I4 e4 I5 e5 => ?_)
  have z4 : ∀ a, a ≠ 273 → I4 a = I3 a := fun a h => by rw [e4, up_ne h]
  have z5 : ∀ a, a ≠ 273 → I5 a = I4 a := fun a h => by rw [e5, up_ne h]
  have v2 : I3 273 2 = pl := by rw [z3 273 (by decide), g2 2 (by decide), q2 2 (by decide)]; exact hpl
  have v3 : I3 273 3 = I 273 3 := by rw [z3 273 (by decide), g2 3 (by decide), q2 3 (by decide)]
  refine hQ I5 (hx3.fr (fun a h1 h2 => by rw [z5 a (by omega), z4 a (by omega)]) (by rw [z5 269 (by decide), z4 269 (by decide)])) (fun a h1 h2 => by rw [z5 a h1, z4 a h1, z3 a h2, g1 a h1, q1 a h1]) ?_ ?_ ?_ fun j hj => ?_
  · rw [e5, up_eq, upd_n (by decide), e4, up_eq, upd_n (by decide)]; exact g33
  · rw [e5, up_eq, upd_s]; rfl
  · rw [e5, up_eq, upd_n (by decide), e4, up_eq, upd_s, v2, v3]; rfl
  · rw [z5 274 (by decide), z4 274 (by decide), e3]
    show up I2 274 b _ 274 j = 0 ↔ _
    have e : mb (x ||| ((1 : Int32) <<< (nI b &&& 31))) j = (mb x j || decide (j = b)) := bit_or (by omega) hj
    rw [up_eq, e]
    by_cases h : j = b
    · subst h; rw [upd_s, hbm]; simp
    · rw [upd_n h, g1 274 (by decide), q1 274 (by decide), hmb j hj]; simp [h]
theorem s3_begin {Q : gx_M → Prop} (hx : vx I f hs n sn ha tx tl re) (hQ : ∀ I' : gx_M, vx I' f hs n sn ha tx tl re → (∀ a, a ≠ 273 → a ≠ 274 → I' a = I a) → I' 273 2 = f 1 → I' 273 3 = 0 → (∀ j, j < 20 → (I' 274 j = 0 ↔ mb 0 j = false)) → Q I') : wp_X3_begin 273 1 I Q := by
  have m0 : ∀ j, j < 20 → mb 0 j = false := by decide +kernel
  have key : ∀ (d i : Nat), i + d = 20 → ∀ (I1 : gx_M) (v : Int32), v = nI i → (∀ a, a ≠ 274 → I1 a = I a) → (∀ j, j < i → I1 274 j = 0) → wl_X3_begin_2 Q (d + 1) 273 1 v I1 := by
    intro d
    induction d with
    | zero =>
      intro i hi I1 v hv g1 g2
      rw [wl_X3_begin_2]
      refine ⟨fun _ I2 e2 I3 e3 I4 e4 => ?_, fun h => absurd ((n_le (a := 20) rfl hv).mpr (by omega)) h⟩
      have z : ∀ a, a ≠ 273 → I4 a = I1 a := fun a h => by rw [e4, up_ne h, e3, up_ne h, e2, up_ne h]
      refine hQ I4 (hx.fr (fun a h1 h2 => by rw [z a (by omega), g1 a (by omega)]) (by rw [z 269 (by decide), g1 269 (by decide)])) (fun a h1 h2 => by rw [z a h1, g1 a h2]) ?_ ?_ fun j hj => ?_
      · rw [e4, up_eq, upd_n (by decide), e3, up_eq, upd_s, e2, up_ne (by decide), g1 1 (by decide)]; exact hx.1 1 (by decide)
      · rw [e4, up_eq, upd_s]
      · rw [z 274 (by decide), g2 j (by omega), m0 j hj]; simp
    | succ d ih =>
      intro i hi I1 v hv g1 g2
      rw [wl_X3_begin_2]
      refine ⟨fun h => absurd ((n_le (a := 20) rfl hv).mp h) (by omega), fun _ => ⟨ix_of (N := 20) hv (by omega), fun I2 e2 y ey => ?_⟩⟩
      rw [cl_of hv] at e2
      refine ih (i + 1) (by omega) I2 y (by rw [ey]; exact n_add hv rfl) (fun a h => by rw [e2, up_ne h, g1 a h]) (fun j hj => ?_)
      rw [e2, up_eq]
      by_cases h : j = i
      · rw [h, upd_s]; rfl
      · rw [upd_n h]; exact g2 j (by omega)
  exact ⟨20 + 1, key 20 0 rfl I 0 rfl (fun _ _ => rfl) (fun j hj => absurd hj (by omega))⟩
/-- the state of the plan behind i jobs -/
def js (f : Nat → Int32) (w : Nat) : Nat → Int32 × Int32 × Int32 × Nat
  | 0 => (0, f 1, 0, 0)
  | i + 1 =>
    let s := js f w i
    let b := (pks f s.1 s.2.1 w).getD 0
    (s.1 ||| ((1 : Int32) <<< (nI b &&& 31)), plj f b, s.2.2.1 + dst f s.2.1 b, b)
theorem js_next (hg : gd f m w k) : ∀ i, i ≤ w → cnt (js f w i).1 w = i ∧ (∃ a, (js f w i).2.1 = nI a ∧ a ≤ 1000) ∧ (i < w → pks f (js f w i).1 (js f w i).2.1 w = some (js f w (i + 1)).2.2.2) := by
  have hw := hg.2.2.2.1
  have hp := hg.2.2.2.2.2.2.2.1
  have nxt : ∀ i, i < w → cnt (js f w i).1 w = i → pks f (js f w i).1 (js f w i).2.1 w = some (js f w (i + 1)).2.2.2 := by
    intro i hi hc
    cases h : pks f (js f w i).1 (js f w i).2.1 w with
    | none =>
      have := cnt_all w (pks_none w h)
      omega
    | some b =>
      have e : (js f w (i + 1)).2.2.2 = (pks f (js f w i).1 (js f w i).2.1 w).getD 0 := rfl
      rw [e, h]; rfl
  intro i
  induction i with
  | zero =>
    intro _
    have m0 : ∀ j, j ≤ 20 → cnt 0 j = 0 := by decide +kernel
    have c0 : cnt (js f w 0).1 w = 0 := m0 w hw
    exact ⟨c0, hp, fun h => nxt 0 h c0⟩
  | succ i ih =>
    intro hi
    obtain ⟨h1, h2, h3⟩ := ih (by omega)
    have h3 := h3 (by omega)
    obtain ⟨b1, b2⟩ := pks_some w _ h3
    have e : (js f w (i + 1)).1 = (js f w i).1 ||| ((1 : Int32) <<< (nI (js f w (i + 1)).2.2.2 &&& 31)) := rfl
    have e2 : (js f w (i + 1)).2.1 = plj f (js f w (i + 1)).2.2.2 := rfl
    have c1 : cnt (js f w (i + 1)).1 w = i + 1 := by
      rw [e, cnt_set (by omega) b2 w hw, if_pos b1, h1]
    exact ⟨c1, by rw [e2]; exact gd_plj hg b1, fun h => nxt (i + 1) h c1⟩
theorem js_b (hg : gd f m w k) {i : Nat} (hi : i < w) : (js f w (i + 1)).2.2.2 < w := (pks_some w _ ((js_next hg i (by omega)).2.2 hi)).1
theorem s7_jloop {Q : Int32 → gx_M → Prop} {j q : Nat} (hg : gd f m w k) (hp : p = nI j) (hj : j < w) (hu : u = nI q) (hq : q ≤ 4) (hQ : ∀ I' : gx_M, vx I' f hs n sn ha tx tl re → Q (if q = 4 then (js f w (j + 1)).2.2.1 else f (170 + (4 * (js f w (j + 1)).2.2.2 + q))) I') :
    ∀ (d i : Nat), i + d = j + 1 → ∀ (I : gx_M) (v : Int32), v = nI i → vx I f hs n sn ha tx tl re → (0 < i → I 273 1 = nI (js f w i).2.2.2) → I 273 2 = (js f w i).2.1 → I 273 3 = (js f w i).2.2.1 → (∀ t, t < 20 → (I 274 t = 0 ↔ mb (js f w i).1 t = false)) → wl_X7_job_46 Q (d + 1) 0 p u v I := by
  have hw := hg.2.2.2.1
  intro d
  induction d with
  | zero =>
    intro i hi I v hv hx g1 g2 g3 g4
    have hi : i = j + 1 := by omega
    subst hi
    rw [wl_X7_job_46]
    refine ⟨fun _ => ⟨fun c => ?_, fun c => ?_⟩, fun h => absurd ((n_lt hp hv).mpr (by omega)) h⟩
    · have hq4 : q = 4 := (n_eq (b := 4) hu rfl).mp c
      have := hQ I hx
      rw [if_pos hq4, ← g3] at this
      exact this
    · have hq4 : q ≠ 4 := fun h => c (by rw [hu, h]; rfl)
      have := hQ I hx
      rw [if_neg hq4] at this
      exact s5_jobs hx hg (g1 (by omega)) (js_b hg hj) hu (by omega) this
  | succ d ih =>
    intro i hi I v hv hx g1 g2 g3 g4
    obtain ⟨h1, ⟨a, h2, h2b⟩, h3⟩ := js_next hg i (by omega)
    rw [wl_X7_job_46]
    refine ⟨fun h => absurd ((n_lt hp hv).mp h) (by omega), fun _ => s3_goOn hx hg g2 h2 h2b g4 (h3 (by omega)) fun I1 hx1 _ k1 k2 k3 k4 y ey => ?_⟩
    exact ih (i + 1) (by omega) I1 y (by rw [ey]; exact n_add hv rfl) hx1 (fun _ => k1) k2 (by rw [k3, g3]; rfl) k4
end PX
