/-! what the bridge makes of a rosette: numbers -/
theorem t_add {x y : Int32} (h : -2147483648 ≤ x.toInt + y.toInt ∧ x.toInt + y.toInt < 2147483648) : (x + y).toInt = x.toInt + y.toInt := by
  rw [Int32.toInt_add]; exact Int.bmod_eq_of_le (by omega) (by omega)
theorem t_sub {x y : Int32} (h : -2147483648 ≤ x.toInt - y.toInt ∧ x.toInt - y.toInt < 2147483648) : (x - y).toInt = x.toInt - y.toInt := by
  rw [Int32.toInt_sub]; exact Int.bmod_eq_of_le (by omega) (by omega)
theorem t_mul {x y : Int32} (h : -2147483648 ≤ x.toInt * y.toInt ∧ x.toInt * y.toInt < 2147483648) : (x * y).toInt = x.toInt * y.toInt := by
  rw [Int32.toInt_mul]; exact Int.bmod_eq_of_le (by omega) (by omega)
theorem t_div {x y : Int32} {d : Int} (hy : y.toInt = d) (hd : 0 < d) : (x / y).toInt = x.toInt.tdiv d := by
  rw [Int32.toInt_div_of_ne_right x y (fun q => by rw [q] at hy; have : (-1 : Int32).toInt = -1 := rfl; omega), hy]
theorem l_add {x y : Int64} (h : -9223372036854775808 ≤ x.toInt + y.toInt ∧ x.toInt + y.toInt < 9223372036854775808) : (x + y).toInt = x.toInt + y.toInt := by
  rw [Int64.toInt_add]; exact Int.bmod_eq_of_le (by omega) (by omega)
theorem l_sub {x y : Int64} (h : -9223372036854775808 ≤ x.toInt - y.toInt ∧ x.toInt - y.toInt < 9223372036854775808) : (x - y).toInt = x.toInt - y.toInt := by
  rw [Int64.toInt_sub]; exact Int.bmod_eq_of_le (by omega) (by omega)
theorem l_mul {x y : Int64} (h : -9223372036854775808 ≤ x.toInt * y.toInt ∧ x.toInt * y.toInt < 9223372036854775808) : (x * y).toInt = x.toInt * y.toInt := by
  rw [Int64.toInt_mul]; exact Int.bmod_eq_of_le (by omega) (by omega)
theorem l_div {x y : Int64} {d : Int} (hy : y.toInt = d) (hd : 0 < d) : (x / y).toInt = x.toInt.tdiv d := by
  rw [Int64.toInt_div_of_ne_right x y (fun q => by rw [q] at hy; have : (-1 : Int64).toInt = -1 := rfl; omega), hy]
theorem l_32 {x : Int64} (h : -2147483648 ≤ x.toInt ∧ x.toInt < 2147483648) : x.toInt32.toInt = x.toInt := by
  rw [Int64.toInt_toInt32]; exact Int.bmod_eq_of_le (by omega) (by omega)
/-- dividing towards 0 -/
theorem td (x : Int) {d : Int} (hd : 0 < d) : (0 ≤ x → x.tdiv d = x / d) ∧ (x < 0 → x.tdiv d = -((-x) / d)) :=
  ⟨Int.tdiv_eq_ediv_of_nonneg, fun q => by rw [← Int.tdiv_eq_ediv_of_nonneg (by omega), Int.neg_tdiv, Int.neg_neg]⟩
theorem td_bd {x d B : Int} (hd : 0 < d) (h : -(B * d) ≤ x ∧ x ≤ B * d) : -B ≤ x.tdiv d ∧ x.tdiv d ≤ B := by
  have t := td x hd
  by_cases h0 : 0 ≤ x
  · rw [t.1 h0]
    have a1 := Int.ediv_nonneg h0 (Int.le_of_lt hd)
    have a2 : x / d ≤ B := Int.ediv_le_of_le_mul hd h.2
    omega
  · rw [t.2 (by omega)]
    have a1 := Int.ediv_nonneg (a := -x) (by omega) (Int.le_of_lt hd)
    have a2 : -x / d ≤ B := Int.ediv_le_of_le_mul hd (by omega)
    omega
theorem ml_bd {x y A B : Int} (hx : -A ≤ x ∧ x ≤ A) (hy : -B ≤ y ∧ y ≤ B) : -(A * B) ≤ x * y ∧ x * y ≤ A * B := by
  have hA : 0 ≤ A := by omega
  have hB : 0 ≤ B := by omega
  have h1 : (x * y).natAbs ≤ (A * B).natAbs := by
    rw [Int.natAbs_mul, Int.natAbs_mul]
    exact Nat.mul_le_mul (by omega) (by omega)
  have h2 : 0 ≤ A * B := Int.mul_nonneg hA hB
  omega
/-! the numbers -/
def ledv (R L v : Int32) : Int32 := Int64.toInt32 ((Int32.toInt64 v * ((1000 : Int64) * Int32.toInt64 R)) / ((1000 : Int64) * Int32.toInt64 R + Int32.toInt64 L))
theorem led_den {R L : Int32} {l : Nat} (hR : R = nI 120 ∨ R = nI 350) (hL : L = nI l) (hl : l ≤ 20000) : ∃ b : Int, 120000 ≤ b ∧ b ≤ 350000 ∧ ((1000 : Int64) * Int32.toInt64 R).toInt = b ∧ ((1000 : Int64) * Int32.toInt64 R + Int32.toInt64 L).toInt = b + l := by
  have h1 : ∃ b : Int, 120000 ≤ b ∧ b ≤ 350000 ∧ ((1000 : Int64) * Int32.toInt64 R).toInt = b := by
    rcases hR with h | h
    · exact ⟨120000, by omega, by omega, by rw [h]; decide⟩
    · exact ⟨350000, by omega, by omega, by rw [h]; decide⟩
  obtain ⟨b, b1, b2, b3⟩ := h1
  refine ⟨b, b1, b2, b3, ?_⟩
  have e : (Int32.toInt64 L).toInt = l := by rw [Int32.toInt_toInt64, hL, nI_toInt (by omega)]
  rw [l_add (by rw [b3, e]; omega), b3, e]
theorem led_nz {R L : Int32} {l : Nat} (hR : R = nI 120 ∨ R = nI 350) (hL : L = nI l) (hl : l ≤ 20000) : ¬ ((1000 : Int64) * Int32.toInt64 R + Int32.toInt64 L) = 0 := by
  obtain ⟨b, b1, b2, b3, b4⟩ := led_den hR hL hl
  intro h
  rw [h] at b4
  have : (0 : Int64).toInt = 0 := rfl
  omega
theorem led_bd {R L v : Int32} {l : Nat} {B : Int} (hR : R = nI 120 ∨ R = nI 350) (hL : L = nI l) (hl : l ≤ 20000) (hv : -B ≤ v.toInt ∧ v.toInt ≤ B) (hB : B ≤ 1000000) : -B ≤ (ledv R L v).toInt ∧ (ledv R L v).toInt ≤ B := by
  obtain ⟨b, b1, b2, b3, b4⟩ := led_den hR hL hl
  have hB0 : 0 ≤ B := by omega
  have m := ml_bd (A := B) (B := b) hv (by omega : -b ≤ b ∧ b ≤ b)
  have m2 : B * b ≤ 1000000 * 350000 := Int.mul_le_mul hB b2 (by omega) (by omega)
  have e1 : (Int32.toInt64 v * ((1000 : Int64) * Int32.toInt64 R)).toInt = v.toInt * b := by
    rw [l_mul (by rw [b3, Int32.toInt_toInt64]; omega), b3, Int32.toInt_toInt64]
  have e2 : ((Int32.toInt64 v * ((1000 : Int64) * Int32.toInt64 R)) / ((1000 : Int64) * Int32.toInt64 R + Int32.toInt64 L)).toInt = (v.toInt * b).tdiv (b + l) := by
    rw [l_div b4 (by omega), e1]
  have m3 : B * b ≤ B * (b + l) := Int.mul_le_mul_of_nonneg_left (by omega) hB0
  have q := td_bd (x := v.toInt * b) (d := b + l) (B := B) (by omega) (by omega)
  unfold ledv
  rw [l_32 (by rw [e2]; omega), e2]
  exact q
def svv (R z : Int32) : Int32 := (R * (1000000 : Int32)) / (R + (1000 : Int32) * z)
theorem sv_x : ∀ z, z ≤ 500 → 20 ≤ z → ∀ R, (R = nI 120 ∨ R = nI 350) → ¬ (Int32.toInt64 R + (1000 : Int64) * Int32.toInt64 (nI z)) = 0 ∧ ¬ (R + (1000 : Int32) * nI z) = 0 ∧ Int64.toInt32 ((Int32.toInt64 R * (1000000 : Int64)) / (Int32.toInt64 R + (1000 : Int64) * Int32.toInt64 (nI z))) = svv R (nI z) ∧ (0 ≤ (svv R (nI z)).toInt ∧ (svv R (nI z)).toInt ≤ 17199) := by
  have h1 : ∀ z, z < 501 → 20 ≤ z → ¬ (Int32.toInt64 (nI 120) + (1000 : Int64) * Int32.toInt64 (nI z)) = 0 ∧ ¬ (nI 120 + (1000 : Int32) * nI z) = 0 ∧ Int64.toInt32 ((Int32.toInt64 (nI 120) * (1000000 : Int64)) / (Int32.toInt64 (nI 120) + (1000 : Int64) * Int32.toInt64 (nI z))) = svv (nI 120) (nI z) ∧ (0 ≤ (svv (nI 120) (nI z)).toInt ∧ (svv (nI 120) (nI z)).toInt ≤ 17199) := by decide +kernel
  have h2 : ∀ z, z < 501 → 20 ≤ z → ¬ (Int32.toInt64 (nI 350) + (1000 : Int64) * Int32.toInt64 (nI z)) = 0 ∧ ¬ (nI 350 + (1000 : Int32) * nI z) = 0 ∧ Int64.toInt32 ((Int32.toInt64 (nI 350) * (1000000 : Int64)) / (Int32.toInt64 (nI 350) + (1000 : Int64) * Int32.toInt64 (nI z))) = svv (nI 350) (nI z) ∧ (0 ≤ (svv (nI 350) (nI z)).toInt ∧ (svv (nI 350) (nI z)).toInt ≤ 17199) := by decide +kernel
  intro z h3 h4 R hR
  rcases hR with h | h
  · rw [h]; exact h1 z (by omega) h4
  · rw [h]; exact h2 z (by omega) h4
def lim (v : Int32) : Int32 := if (-30000 : Int32) < (if v < (30000 : Int32) then v else (30000 : Int32)) then (if v < (30000 : Int32) then v else (30000 : Int32)) else (-30000 : Int32)
theorem lim_le {v : Int32} (h1 : (-30000 : Int32) ≤ v) (h2 : v ≤ 30000) : lim v = v := by
  unfold lim
  by_cases c : v < 30000
  · rw [if_pos c]
    by_cases c2 : (-30000 : Int32) < v
    · rw [if_pos c2]
    · rw [if_neg c2]
      exact Int32.le_antisymm h1 (i_nlt.mp c2)
  · rw [if_neg c, if_pos (by decide)]
    exact Int32.le_antisymm (i_nlt.mp c) h2
theorem lim_hi {v : Int32} (h2 : ¬ v ≤ 30000) : lim v = 30000 := by
  unfold lim
  rw [if_neg (fun q => h2 (Int32.le_of_lt q)), if_pos (by decide)]
theorem lim_lo {v : Int32} (h1 : ¬ (-30000 : Int32) ≤ v) : lim v = -30000 := by
  have h := i_nle.mp h1
  unfold lim
  rw [if_pos (Int32.lt_trans h (by decide)), if_neg (fun q => h1 (Int32.le_of_lt q))]
theorem lim_bd (v : Int32) : -30000 ≤ (lim v).toInt ∧ (lim v).toInt ≤ 30000 := by
  have e1 : (-30000 : Int32).toInt = -30000 := rfl
  have e2 : (30000 : Int32).toInt = 30000 := rfl
  by_cases h1 : (-30000 : Int32) ≤ v
  · by_cases h2 : v ≤ 30000
    · rw [lim_le h1 h2]
      have := Int32.le_iff_toInt_le.mp h1
      have := Int32.le_iff_toInt_le.mp h2
      omega
    · rw [lim_hi h2]; omega
  · rw [lim_lo h1]; omega
def bey (v : Int32) : Bool := decide (¬ ((-30000 : Int32) ≤ v ∧ v ≤ 30000))
theorem bey_abi {v : Int32} (h : -100000 ≤ v.toInt ∧ v.toInt ≤ 100000) : abi v ≤ 30000 ↔ bey v = false := by
  have e0 : (0 : Int32).toInt = 0 := rfl
  have e1 : (-30000 : Int32).toInt = -30000 := rfl
  have e2 : (30000 : Int32).toInt = 30000 := rfl
  unfold bey abi
  rw [decide_eq_false_iff_not, Classical.not_not]
  by_cases c : (0 : Int32) ≤ v
  · rw [if_pos c, Int32.le_iff_toInt_le, Int32.le_iff_toInt_le]
    have := Int32.le_iff_toInt_le.mp c
    omega
  · rw [if_neg c, Int32.le_iff_toInt_le, Int32.le_iff_toInt_le, Int32.le_iff_toInt_le, t_sub (by omega)]
    have : ¬ (0 : Int32).toInt ≤ v.toInt := fun q => c (Int32.le_iff_toInt_le.mpr q)
    omega
section MS
variable (f : Nat → Int32) (r : Nat)
def qr (q : Nat) : Int32 := f (10 + 20 * r + q)
def qg (i w : Nat) : Int32 := f (10 + 20 * r + (9 + 3 * i + w))
def ld (v : Int32) : Int32 := ledv (qr f r 2) (qr f r 4) v
def stn (i : Nat) : Int32 :=
  if i = 0 then qr f r 5 else if qr f r 1 = 0 then (if i = 1 then (qr f r 5 + qr f r 6 + qr f r 7) / 2 else qr f r 6)
  else (if i = 1 then (qr f r 5 + 3 * qr f r 6) / 4 + qr f r 7 * 433 / 1000 else (qr f r 5 + 3 * qr f r 6) / 4 - qr f r 7 * 433 / 1000)
def sv : Int32 := svv (qr f r 2) (f 3)
def off (i : Nat) : Int32 := ld f r (qg f r i 0) + ld f r (stn f r i * qr f r 3 / 100) - qg f r i 1
def onn (i : Nat) : Int32 := off f r i + ld f r (sv f r)
def sgn (i : Nat) : Int32 := if qr f r 8 = 0 then off f r i else onn f r i
def rdg (i : Nat) : Int32 := lim (sgn f r i)
def stp (i : Nat) : Int32 := lim (onn f r i) - lim (off f r i)
def ovc : Nat → Int32
  | 0 => 0
  | i + 1 => if bey (sgn f r i) = true then ovc i + 1 else ovc i
def chk : Nat → Bool
  | 0 => false
  | i + 1 => chk i || bey (onn f r i) || bey (off f r i)
def crr (i : Nat) : Int32 := Int64.toInt32 ((((Int32.toInt64 (rdg f r i) * Int32.toInt64 (qg f r i 2)) / 1000) * 100) / Int32.toInt64 (qr f r 3))
def mx : Int32 := crr f r 0
def my : Int32 := if qr f r 1 = 0 then crr f r 2 else (2 * crr f r 1 + 2 * crr f r 2 - crr f r 0) / 3
def mg : Int32 := if qr f r 1 = 0 then 2 * crr f r 1 - crr f r 0 - crr f r 2 else Int64.toInt32 ((Int32.toInt64 (crr f r 1 - crr f r 2) * 11547) / 10000)
def mm : Int32 := (mx f r + my f r) / 2
def pul (t : Nat) : Int64 := Int32.toInt64 (mx f r - my f r) * Int32.toInt64 (gx_cos t) + Int32.toInt64 (mg f r) * Int32.toInt64 (gx_sin t)
def bst : Nat → Int32 × Int64
  | 0 => (0, pul f r 0)
  | t + 1 => if lg_cmp (pul f r (t + 1)) (bst t).2 ≤ 0 then bst t else (nI (t + 1), pul f r (t + 1))
def rad : Int32 := Int64.toInt32 ((bst f r 23).2 / 20000)
end MS
section MB
variable {f : Nat → Int32} {r : Nat}
theorem stn_bd (h : gr f r) (i : Nat) : -10000 ≤ (stn f r i).toInt ∧ (stn f r i).toInt ≤ 10000 := by
  have hq := h.2.2.2.2.2.1
  have h5 : -5000 ≤ (qr f r 5).toInt ∧ (qr f r 5).toInt ≤ 5000 := hq 0 (by decide)
  have h6 : -5000 ≤ (qr f r 6).toInt ∧ (qr f r 6).toInt ≤ 5000 := hq 1 (by decide)
  have h7 : -5000 ≤ (qr f r 7).toInt ∧ (qr f r 7).toInt ≤ 5000 := hq 2 (by decide)
  have e3 : (3 * qr f r 6).toInt = 3 * (qr f r 6).toInt := by
    have : (3 : Int32).toInt = 3 := rfl
    rw [t_mul (by rw [this]; omega), this]
  have eA : (qr f r 5 + 3 * qr f r 6).toInt = (qr f r 5).toInt + 3 * (qr f r 6).toInt := by rw [t_add (by rw [e3]; omega), e3]
  have eB : ((qr f r 5 + 3 * qr f r 6) / 4).toInt = ((qr f r 5).toInt + 3 * (qr f r 6).toInt).tdiv 4 := by rw [t_div (d := 4) rfl (by omega), eA]
  have eC : (qr f r 7 * 433).toInt = (qr f r 7).toInt * 433 := by
    have : (433 : Int32).toInt = 433 := rfl
    rw [t_mul (by rw [this]; omega), this]
  have eD : (qr f r 7 * 433 / 1000).toInt = ((qr f r 7).toInt * 433).tdiv 1000 := by rw [t_div (d := 1000) rfl (by omega), eC]
  have bB := td_bd (x := (qr f r 5).toInt + 3 * (qr f r 6).toInt) (d := 4) (B := 5000) (by omega) (by omega)
  have bD := td_bd (x := (qr f r 7).toInt * 433) (d := 1000) (B := 2165) (by omega) (by omega)
  have eE : (qr f r 5 + qr f r 6).toInt = (qr f r 5).toInt + (qr f r 6).toInt := t_add (by omega)
  have eF : (qr f r 5 + qr f r 6 + qr f r 7).toInt = (qr f r 5).toInt + (qr f r 6).toInt + (qr f r 7).toInt := by rw [t_add (by rw [eE]; omega), eE]
  have eG : ((qr f r 5 + qr f r 6 + qr f r 7) / 2).toInt = ((qr f r 5).toInt + (qr f r 6).toInt + (qr f r 7).toInt).tdiv 2 := by rw [t_div (d := 2) rfl (by omega), eF]
  have bG := td_bd (x := (qr f r 5).toInt + (qr f r 6).toInt + (qr f r 7).toInt) (d := 2) (B := 7500) (by omega) (by omega)
  unfold stn
  split
  · omega
  · split
    · split
      · rw [eG]; omega
      · omega
    · split
      · rw [t_add (by rw [eB, eD]; omega), eB, eD]; omega
      · rw [t_sub (by rw [eB, eD]; omega), eB, eD]; omega
theorem qr_f (h : gr f r) : ∃ c : Nat, qr f r 3 = nI c ∧ 180 ≤ c ∧ c ≤ 240 := h.2.2.2.1
theorem qr_R (h : gr f r) : qr f r 2 = nI 120 ∨ qr f r 2 = nI 350 := h.2.2.1
theorem qr_L (h : gr f r) : ∃ l : Nat, qr f r 4 = nI l ∧ l ≤ 20000 := h.2.2.2.2.1
theorem ld_bd (h : gr f r) {v : Int32} {B : Int} (hv : -B ≤ v.toInt ∧ v.toInt ≤ B) (hB : B ≤ 1000000) : -B ≤ (ld f r v).toInt ∧ (ld f r v).toInt ≤ B := by
  obtain ⟨l, l1, l2⟩ := qr_L h
  exact led_bd (qr_R h) l1 l2 hv hB
theorem off_bd (h : gr f r) {i : Nat} (hi : i < 3) : -60000 ≤ (off f r i).toInt ∧ (off f r i).toInt ≤ 60000 := by
  obtain ⟨c, c1, c2, c3⟩ := qr_f h
  obtain ⟨g1, g2, g3⟩ := h.2.2.2.2.2.2.2 i hi
  have hs := stn_bd h i
  have eC : (qr f r 3).toInt = (c : Int) := by rw [c1, nI_toInt (by omega)]
  have m1 := ml_bd (A := 10000) (B := 240) hs (by rw [eC]; omega : -240 ≤ (qr f r 3).toInt ∧ (qr f r 3).toInt ≤ 240)
  have e1 : (stn f r i * qr f r 3 / 100).toInt = ((stn f r i).toInt * (qr f r 3).toInt).tdiv 100 := by rw [t_div (d := 100) rfl (by omega), t_mul (by omega)]
  have b1 := td_bd (x := (stn f r i).toInt * (qr f r 3).toInt) (d := 100) (B := 24000) (by omega) (by omega)
  have d1 := ld_bd h (v := qg f r i 0) (B := 9999) g1 (by omega)
  have d2 := ld_bd h (v := stn f r i * qr f r 3 / 100) (B := 24000) (by rw [e1]; exact b1) (by omega)
  have z : -15000 ≤ (qg f r i 1).toInt ∧ (qg f r i 1).toInt ≤ 15000 := g2
  unfold off
  rw [t_sub (by rw [t_add (by omega)]; omega), t_add (by omega)]
  omega
theorem sv_bd (h : gr f r) (hz : ∃ z : Nat, f 3 = nI z ∧ 20 ≤ z ∧ z ≤ 500) : 0 ≤ (sv f r).toInt ∧ (sv f r).toInt ≤ 17199 := by
  obtain ⟨z, z1, z2, z3⟩ := hz
  unfold sv
  rw [z1]
  exact (sv_x z z3 z2 _ (qr_R h)).2.2.2
theorem onn_bd (h : gr f r) (hz : ∃ z : Nat, f 3 = nI z ∧ 20 ≤ z ∧ z ≤ 500) {i : Nat} (hi : i < 3) : -100000 ≤ (onn f r i).toInt ∧ (onn f r i).toInt ≤ 100000 := by
  have h1 := off_bd h hi
  have h2 := sv_bd h hz
  have d := ld_bd h (v := sv f r) (B := 17199) (by omega) (by omega)
  unfold onn
  rw [t_add (by omega)]
  omega
theorem sgn_bd (h : gr f r) (hz : ∃ z : Nat, f 3 = nI z ∧ 20 ≤ z ∧ z ≤ 500) {i : Nat} (hi : i < 3) : -100000 ≤ (sgn f r i).toInt ∧ (sgn f r i).toInt ≤ 100000 := by
  have h1 := off_bd h hi
  have h2 := onn_bd h hz hi
  unfold sgn
  split <;> omega
theorem crr_bd (h : gr f r) {i : Nat} (hi : i < 3) : -286650000 ≤ (crr f r i).toInt ∧ (crr f r i).toInt ≤ 286650000 := by
  obtain ⟨c, c1, c2, c3⟩ := qr_f h
  obtain ⟨g1, g2, g3⟩ := h.2.2.2.2.2.2.2 i hi
  have hl := lim_bd (sgn f r i)
  have g4 : -17199000 ≤ (qg f r i 2).toInt ∧ (qg f r i 2).toInt ≤ 17199000 := g3
  have hl2 : -30000 ≤ (rdg f r i).toInt ∧ (rdg f r i).toInt ≤ 30000 := hl
  have eC : (Int32.toInt64 (qr f r 3)).toInt = (c : Int) := by rw [Int32.toInt_toInt64, c1, nI_toInt (by omega)]
  have m1 := ml_bd hl2 g4
  have e1 : (Int32.toInt64 (rdg f r i) * Int32.toInt64 (qg f r i 2)).toInt = (rdg f r i).toInt * (qg f r i 2).toInt := by
    rw [l_mul (by rw [Int32.toInt_toInt64, Int32.toInt_toInt64]; omega), Int32.toInt_toInt64, Int32.toInt_toInt64]
  have b1 := td_bd (x := (rdg f r i).toInt * (qg f r i 2).toInt) (d := 1000) (B := 515970000) (by omega) (by omega)
  have e2 : ((Int32.toInt64 (rdg f r i) * Int32.toInt64 (qg f r i 2)) / 1000).toInt = ((rdg f r i).toInt * (qg f r i 2).toInt).tdiv 1000 := by rw [l_div (d := 1000) rfl (by omega), e1]
  have h100 : (100 : Int64).toInt = 100 := rfl
  have e3 : (((Int32.toInt64 (rdg f r i) * Int32.toInt64 (qg f r i 2)) / 1000) * 100).toInt = ((rdg f r i).toInt * (qg f r i 2).toInt).tdiv 1000 * 100 := by
    rw [l_mul (by rw [e2, h100]; omega), e2, h100]
  have e4 : ((((Int32.toInt64 (rdg f r i) * Int32.toInt64 (qg f r i 2)) / 1000) * 100) / Int32.toInt64 (qr f r 3)).toInt = (((rdg f r i).toInt * (qg f r i 2).toInt).tdiv 1000 * 100).tdiv c := by rw [l_div eC (by omega), e3]
  have b2 := td_bd (x := ((rdg f r i).toInt * (qg f r i 2).toInt).tdiv 1000 * 100) (d := c) (B := 286650000) (by omega) (by omega)
  unfold crr
  rw [l_32 (by rw [e4]; omega), e4]
  exact b2
theorem w_inj {x : Int32} {y : Int64} (h : x.toInt = y.toInt) : Int32.toInt64 x = y := Int64.toInt_inj.mp (by rw [Int32.toInt_toInt64]; exact h)
theorem my_bd (h : gr f r) : -480000000 ≤ (my f r).toInt ∧ (my f r).toInt ≤ 480000000 := by
  have b0 := crr_bd h (i := 0) (by decide)
  have b1 := crr_bd h (i := 1) (by decide)
  have b2 := crr_bd h (i := 2) (by decide)
  have h2 : (2 : Int32).toInt = 2 := rfl
  have e1 : (2 * crr f r 1).toInt = 2 * (crr f r 1).toInt := by rw [t_mul (by rw [h2]; omega), h2]
  have e2 : (2 * crr f r 2).toInt = 2 * (crr f r 2).toInt := by rw [t_mul (by rw [h2]; omega), h2]
  have e3 : (2 * crr f r 1 + 2 * crr f r 2 - crr f r 0).toInt = 2 * (crr f r 1).toInt + 2 * (crr f r 2).toInt - (crr f r 0).toInt := by
    rw [t_sub (by rw [t_add (by omega)]; omega), t_add (by omega), e1, e2]
  have bb := td_bd (x := 2 * (crr f r 1).toInt + 2 * (crr f r 2).toInt - (crr f r 0).toInt) (d := 3) (B := 480000000) (by omega) (by omega)
  unfold my
  split
  · omega
  · rw [t_div (d := 3) rfl (by omega), e3]; exact bb
/-- the reference's long numbers -/
theorem my_l (h : gr f r) : Int32.toInt64 (my f r) = if qr f r 1 = 0 then Int32.toInt64 (crr f r 2) else ((2 * Int32.toInt64 (crr f r 1) + 2 * Int32.toInt64 (crr f r 2)) - Int32.toInt64 (crr f r 0)) / 3 := by
  have b0 := crr_bd h (i := 0) (by decide)
  have b1 := crr_bd h (i := 1) (by decide)
  have b2 := crr_bd h (i := 2) (by decide)
  have h2 : (2 : Int32).toInt = 2 := rfl
  have k2 : (2 : Int64).toInt = 2 := rfl
  have e1 : (2 * crr f r 1).toInt = 2 * (crr f r 1).toInt := by rw [t_mul (by rw [h2]; omega), h2]
  have e2 : (2 * crr f r 2).toInt = 2 * (crr f r 2).toInt := by rw [t_mul (by rw [h2]; omega), h2]
  have e3 : (2 * crr f r 1 + 2 * crr f r 2 - crr f r 0).toInt = 2 * (crr f r 1).toInt + 2 * (crr f r 2).toInt - (crr f r 0).toInt := by
    rw [t_sub (by rw [t_add (by omega)]; omega), t_add (by omega), e1, e2]
  have f1 : (2 * Int32.toInt64 (crr f r 1)).toInt = 2 * (crr f r 1).toInt := by rw [l_mul (by rw [k2, Int32.toInt_toInt64]; omega), k2, Int32.toInt_toInt64]
  have f2 : (2 * Int32.toInt64 (crr f r 2)).toInt = 2 * (crr f r 2).toInt := by rw [l_mul (by rw [k2, Int32.toInt_toInt64]; omega), k2, Int32.toInt_toInt64]
  have f0 := Int32.toInt_toInt64 (crr f r 0)
  have f3 : (2 * Int32.toInt64 (crr f r 1) + 2 * Int32.toInt64 (crr f r 2) - Int32.toInt64 (crr f r 0)).toInt = 2 * (crr f r 1).toInt + 2 * (crr f r 2).toInt - (crr f r 0).toInt := by
    rw [l_sub (by rw [l_add (by omega)]; omega), l_add (by omega), f1, f2, f0]
  unfold my
  split
  · rfl
  · refine w_inj ?_
    rw [t_div (d := 3) rfl (by omega), l_div (d := 3) rfl (by omega), e3, f3]
theorem mg_l (h : gr f r) : Int32.toInt64 (mg f r) = if qr f r 1 = 0 then (2 * Int32.toInt64 (crr f r 1) - Int32.toInt64 (crr f r 0)) - Int32.toInt64 (crr f r 2) else ((Int32.toInt64 (crr f r 1) - Int32.toInt64 (crr f r 2)) * 11547) / 10000 := by
  have b0 := crr_bd h (i := 0) (by decide)
  have b1 := crr_bd h (i := 1) (by decide)
  have b2 := crr_bd h (i := 2) (by decide)
  have h2 : (2 : Int32).toInt = 2 := rfl
  have k2 : (2 : Int64).toInt = 2 := rfl
  have k3 : (11547 : Int64).toInt = 11547 := rfl
  have e1 : (2 * crr f r 1).toInt = 2 * (crr f r 1).toInt := by rw [t_mul (by rw [h2]; omega), h2]
  have f1 : (2 * Int32.toInt64 (crr f r 1)).toInt = 2 * (crr f r 1).toInt := by rw [l_mul (by rw [k2, Int32.toInt_toInt64]; omega), k2, Int32.toInt_toInt64]
  have f0 := Int32.toInt_toInt64 (crr f r 0)
  have g1 := Int32.toInt_toInt64 (crr f r 1)
  have g2 := Int32.toInt_toInt64 (crr f r 2)
  unfold mg
  split
  · refine w_inj ?_
    rw [t_sub (by rw [t_sub (by omega)]; omega), t_sub (by omega), e1, l_sub (by rw [l_sub (by omega)]; omega), l_sub (by omega), f1, f0, g2]
  · have e5 : Int32.toInt64 (crr f r 1 - crr f r 2) = Int32.toInt64 (crr f r 1) - Int32.toInt64 (crr f r 2) := by
      refine w_inj ?_
      rw [t_sub (by omega), l_sub (by omega), g1, g2]
    have e6 : (Int32.toInt64 (crr f r 1) - Int32.toInt64 (crr f r 2)).toInt = (crr f r 1).toInt - (crr f r 2).toInt := by rw [l_sub (by omega), g1, g2]
    rw [e5]
    have e7 : ((Int32.toInt64 (crr f r 1) - Int32.toInt64 (crr f r 2)) * 11547).toInt = ((crr f r 1).toInt - (crr f r 2).toInt) * 11547 := by rw [l_mul (by rw [e6, k3]; omega), e6, k3]
    have bb := td_bd (x := ((crr f r 1).toInt - (crr f r 2).toInt) * 11547) (d := 10000) (B := 700000000) (by omega) (by omega)
    refine w_inj (l_32 ?_)
    rw [l_div (d := 10000) rfl (by omega), e7]
    omega
theorem mxy_l (h : gr f r) : Int32.toInt64 (mx f r - my f r) = Int32.toInt64 (mx f r) - Int32.toInt64 (my f r) := by
  have b0 := crr_bd h (i := 0) (by decide)
  have b1 := my_bd h
  have b0 : -286650000 ≤ (mx f r).toInt ∧ (mx f r).toInt ≤ 286650000 := b0
  have g1 := Int32.toInt_toInt64 (mx f r)
  have g2 := Int32.toInt_toInt64 (my f r)
  refine w_inj ?_
  rw [t_sub (by omega), l_sub (by omega), g1, g2]
theorem mm_l (h : gr f r) : Int32.toInt64 (mm f r) = (Int32.toInt64 (mx f r) + Int32.toInt64 (my f r)) / 2 := by
  have b0 := crr_bd h (i := 0) (by decide)
  have b1 := my_bd h
  have b0 : -286650000 ≤ (mx f r).toInt ∧ (mx f r).toInt ≤ 286650000 := b0
  have g1 := Int32.toInt_toInt64 (mx f r)
  have g2 := Int32.toInt_toInt64 (my f r)
  refine w_inj ?_
  unfold mm
  rw [t_div (d := 2) rfl (by omega), l_div (d := 2) rfl (by omega), t_add (by omega), l_add (by omega), g1, g2]
end MB
