/-! the digest of a state is a function of its row -/
def itr (g : Nat → Int64 → Int64) (h : Int64) : Nat → Int64
  | 0 => h
  | i + 1 => g i (itr g h i)
theorem itr_0 (g : Nat → Int64 → Int64) (h : Int64) : itr g h 0 = h := rfl
theorem itr_s (g : Nat → Int64 → Int64) (h : Int64) (i : Nat) : itr g h (i + 1) = g i (itr g h i) := rfl
def dgA (f : Nat → Int32) (i : Nat) (h : Int64) : Int64 := ((31 : Int64) * h) + Int32.toInt64 (cnv f 0 0 0 i)
def dgB (f : Nat → Int32) (w r : Nat) (q : Nat) (h : Int64) : Int64 := ((31 : Int64) * h) + Int32.toInt64 (rov f w r q)
def dgC (f : Nat → Int32) (r : Nat) (i : Nat) (h : Int64) : Int64 := ((31 : Int64) * h) + Int32.toInt64 (gav f r (i / 8) (i % 8))
def dgD (f : Nat → Int32) (r : Nat) (h : Int64) : Int64 := (((31 : Int64) * h) + ((7 : Int64) * (Int32.toInt64 (mm f r + rad f r)))) + Int32.toInt64 (bst f r 23).1
def dgR (f : Nat → Int32) (w : Nat) (r : Nat) (h : Int64) : Int64 := dgD f r (itr (dgC f r) (itr (dgB f w r) h 12) 24)
def dgJ (f : Nat → Int32) (w : Nat) (j : Nat) (h : Int64) : Int64 := (((((31 : Int64) * h) + ((1000 : Int64) * (Int32.toInt64 (jov f w j 0)))) + ((100 : Int64) * (Int32.toInt64 (jov f w j 1)))) + ((10 : Int64) * (Int32.toInt64 (jov f w j 2)))) + (Int32.toInt64 (jov f w j 3))
def dgE (f : Nat → Int32) (k : Nat) (e : Nat) (h : Int64) : Int64 := (((((31 : Int64) * h) + ((100 : Int64) * (Int32.toInt64 (rcv f k e 0)))) + ((10 : Int64) * (Int32.toInt64 (rcv f k e 1)))) + ((3 : Int64) * (Int32.toInt64 (rcv f k e 2)))) + (Int32.toInt64 (rcv f k e 3))
def dig (f : Nat → Int32) (m w k : Nat) : Int64 := itr (dgE f k) (itr (dgJ f w) (itr (dgR f w) (itr (dgA f) 53 9) m) w) k
section DG
variable {I : gx_M} {f : Nat → Int32} {hs : Nat → Nat → Int32} {n : Nat} {sn : Nat → Int32} {ha : Nat} {tx : Nat → Int32} {tl : Nat} {re : Int32} {m w k r i j b q a : Nat} {p : Int32} {Q : Int64 → gx_M → Prop}
theorem cnv_lo : ∀ i, i < 9 → cnv f n re tl i = cnv f 0 0 0 i := by
  intro i hi
  have : i = 0 ∨ i = 1 ∨ i = 2 ∨ i = 3 ∨ i = 4 ∨ i = 5 ∨ i = 6 ∨ i = 7 ∨ i = 8 := by omega
  rcases this with h | h | h | h | h | h | h | h | h <;> subst h <;> rfl
set_option maxHeartbeats 8000000 in
theorem xL_digest (hx : vx I f hs n sn ha tx tl re) (hg : gd f m w k) (h : ∀ I2 : gx_M, vx I2 f hs n sn ha tx tl re → Q (dig f m w k) I2) : wp_L_digest 0 I Q := by
  have hm8 := hg.2.1
  have hw20 := hg.2.2.2.1
  have hk12 := hg.2.2.2.2.2.1
  -- records
  have recs : ∀ (h0 : Int64), (∀ I2 : gx_M, vx I2 f hs n sn ha tx tl re → Q (itr (dgE f k) h0 k) I2) → ∀ (dd i : Nat), i + dd = k → ∀ (I : gx_M) (v1 : Int64) (v3 : Int32), v1 = itr (dgE f k) h0 i → v3 = nI i → vx I f hs n sn ha tx tl re → wl_L_digest_213 Q (dd + 1) 0 v1 v3 I := by
    intro h0 hQ dd
    induction dd with
    | zero =>
      intro i hi I v1 v3 e1 e3 hx
      rw [wl_L_digest_213]
      refine x7_count hx (q := 8) rfl (by decide) ⟨fun _ => ?_, fun c => absurd ((n_le (x := f 8) hg.2.2.2.2.1 e3).mpr (by omega)) c⟩
      rw [e1, show i = k by omega]
      exact hQ I hx
    | succ dd ih =>
      intro i hi I v1 v3 e1 e3 hx
      have hik : i < k := by omega
      rw [wl_L_digest_213]
      refine x7_count hx (q := 8) rfl (by decide) ⟨fun c => absurd ((n_le (x := f 8) hg.2.2.2.2.1 e3).mp c) (by omega), fun _ => ?_⟩
      refine x7_record hx hg hik e3 (q := 0) rfl (by decide) (x7_record hx hg hik e3 (q := 1) rfl (by decide) (x7_record hx hg hik e3 (q := 2) rfl (by decide) (x7_record hx hg hik e3 (q := 3) rfl (by decide) fun x1 ex1 x2 ex2 => ?_)))
      refine ih (i + 1) (by omega) I x1 x2 ?_ (by rw [ex2]; exact n_add e3 rfl) hx
      rw [ex1, itr_s, e1, dgE]
  -- jobs
  have jobs : ∀ (h0 : Int64), (∀ I2 : gx_M, vx I2 f hs n sn ha tx tl re → Q (itr (dgE f k) (itr (dgJ f w) h0 w) k) I2) → ∀ (dd i : Nat), i + dd = w → ∀ (I : gx_M) (v1 : Int64) (v3 : Int32), v1 = itr (dgJ f w) h0 i → v3 = nI i → vx I f hs n sn ha tx tl re → wl_L_digest_146 Q (dd + 1) 0 v1 v3 I := by
    intro h0 hQ dd
    induction dd with
    | zero =>
      intro i hi I v1 v3 e1 e3 hx
      rw [wl_L_digest_146]
      refine x7_count hx (q := 1) rfl (by decide) ⟨fun _ => ⟨k + 1, ?_⟩, fun c => absurd ((n_le (x := f 4) hg.2.2.1 e3).mpr (by omega)) c⟩
      refine recs (itr (dgJ f w) h0 w) hQ k 0 (by omega) I v1 0 ?_ rfl hx
      rw [e1, show i = w by omega, itr_0]
    | succ dd ih =>
      intro i hi I v1 v3 e1 e3 hx
      have hik : i < w := by omega
      rw [wl_L_digest_146]
      refine x7_count hx (q := 1) rfl (by decide) ⟨fun c => absurd ((n_le (x := f 4) hg.2.2.1 e3).mp c) (by omega), fun _ => ?_⟩
      refine x7_job hx hg hik e3 (q := 0) rfl (by decide) fun I1 hx1 => x7_job hx1 hg hik e3 (q := 1) rfl (by decide) fun I2 hx2 => x7_job hx2 hg hik e3 (q := 2) rfl (by decide) fun I3 hx3 => x7_job hx3 hg hik e3 (q := 3) rfl (by decide) fun I4 hx4 x1 ex1 x2 ex2 => ?_
      refine ih (i + 1) (by omega) I4 x1 x2 ?_ (by rw [ex2]; exact n_add e3 rfl) hx4
      rw [ex1, itr_s, e1, dgJ]
  -- a rosette's gauges
  have gaug : ∀ (K : Nat → Int64 → Int32 → gx_M → Prop) (r : Nat) (p : Int32) (h0 : Int64), r < m → p = nI r → (∀ (I2 : gx_M) (x2 : Int32), vx I2 f hs n sn ha tx tl re → x2 = p + 1 → K 0 (dgD f r (itr (dgC f r) h0 24)) x2 I2) → ∀ (dd i : Nat), i + dd = 24 → ∀ (I : gx_M) (v1 : Int64) (v4 : Int32), v1 = itr (dgC f r) h0 i → v4 = nI i → vx I f hs n sn ha tx tl re → wl_L_digest_76 Q K (dd + 1) 0 v1 p v4 I := by
    intro K r p h0 hr hp hK dd
    induction dd with
    | zero =>
      intro i hi I v1 v4 e1 e4 hx
      rw [wl_L_digest_76]
      refine ⟨fun _ => ?_, fun c => absurd ((n_le (a := 24) rfl e4).mpr (by omega)) c⟩
      refine x7_prin hx hg hr hp (q := 0) rfl (by decide) fun y1 I1 k1 hx1 => x7_prin hx1 hg hr hp (q := 2) rfl (by decide) fun y2 I2 k2 hx2 x1 ex1 x2 ex2 => ?_
      have k1 : y1 = mm f r + rad f r := k1.1 rfl
      have k2 : y2 = (bst f r 23).1 := k2.2.2.1 rfl
      have e : x1 = dgD f r (itr (dgC f r) h0 24) := by
        rw [ex1, k1, k2, e1, show i = 24 by omega, dgD]
      rw [e]
      exact hK I2 x2 hx2 ex2
    | succ dd ih =>
      intro i hi I v1 v4 e1 e4 hx
      have hi24 : i < 24 := by omega
      have d1 : v4 / (8 : Int32) = nI (i / 8) := by rw [e4]; exact pk_div (d := 8) (by omega) (by decide) (by decide)
      have d2 : v4 - v4 / (8 : Int32) * (8 : Int32) = nI (i % 8) := by rw [e4]; exact pk_rem (d := 8) (by omega) (by decide) (by decide)
      rw [wl_L_digest_76]
      refine ⟨fun c => absurd ((n_le (a := 24) rfl e4).mp c) (by omega), fun _ => ?_⟩
      refine x7_gauge hx hg hr hp d1 (by omega) (q := i % 8) d2 (by omega) fun I1 hx1 x3 ex3 x4 ex4 => ?_
      refine ih (i + 1) (by omega) I1 x3 x4 ?_ (by rw [ex4]; exact n_add e4 rfl) hx1
      rw [ex3, itr_s, e1, dgC]
  -- a rosette's numbers
  have nums : ∀ (K : Nat → Int64 → Int32 → gx_M → Prop) (r : Nat) (p : Int32) (h0 : Int64), r < m → p = nI r → (∀ (I2 : gx_M) (x2 : Int32), vx I2 f hs n sn ha tx tl re → x2 = p + 1 → K 0 (dgR f w r h0) x2 I2) → ∀ (dd i : Nat), i + dd = 12 → ∀ (I : gx_M) (v1 : Int64) (v4 : Int32), v1 = itr (dgB f w r) h0 i → v4 = nI i → vx I f hs n sn ha tx tl re → wl_L_digest_45 Q K (dd + 1) 0 v1 p v4 I := by
    intro K r p h0 hr hp hK dd
    induction dd with
    | zero =>
      intro i hi I v1 v4 e1 e4 hx
      rw [wl_L_digest_45]
      refine ⟨fun _ => ⟨24 + 1, ?_⟩, fun c => absurd ((n_le (a := 12) rfl e4).mpr (by omega)) c⟩
      refine gaug K r p (itr (dgB f w r) h0 12) hr hp hK 24 0 rfl I v1 0 ?_ rfl hx
      rw [e1, show i = 12 by omega, itr_0]
    | succ dd ih =>
      intro i hi I v1 v4 e1 e4 hx
      have hi12 : i < 12 := by omega
      rw [wl_L_digest_45]
      refine ⟨fun c => absurd ((n_le (a := 12) rfl e4).mp c) (by omega), fun _ => ?_⟩
      refine x7_rosette hx hg hr hp (q := i) e4 hi12 fun I1 hx1 x1 ex1 x2 ex2 => ?_
      refine ih (i + 1) (by omega) I1 x1 x2 ?_ (by rw [ex2]; exact n_add e4 rfl) hx1
      rw [ex1, itr_s, e1, dgB]
  -- the rosettes
  have ross : ∀ (h0 : Int64), (∀ I2 : gx_M, vx I2 f hs n sn ha tx tl re → Q (itr (dgE f k) (itr (dgJ f w) (itr (dgR f w) h0 m) w) k) I2) → ∀ (dd i : Nat), i + dd = m → ∀ (I : gx_M) (v1 : Int64) (v3 : Int32), v1 = itr (dgR f w) h0 i → v3 = nI i → vx I f hs n sn ha tx tl re → wl_L_digest_33 Q (dd + 1) 0 v1 v3 I := by
    intro h0 hQ dd
    induction dd with
    | zero =>
      intro i hi I v1 v3 e1 e3 hx
      rw [wl_L_digest_33]
      refine x7_count hx (q := 0) rfl (by decide) ⟨fun _ => ⟨w + 1, ?_⟩, fun c => absurd ((n_le (x := f 0) hg.1 e3).mpr (by omega)) c⟩
      refine jobs (itr (dgR f w) h0 m) hQ w 0 (by omega) I v1 0 ?_ rfl hx
      rw [e1, show i = m by omega, itr_0]
    | succ dd ih =>
      intro i hi I v1 v3 e1 e3 hx
      have him : i < m := by omega
      rw [wl_L_digest_33]
      refine x7_count hx (q := 0) rfl (by decide) ⟨fun c => absurd ((n_le (x := f 0) hg.1 e3).mp c) (by omega), fun _ => ⟨12 + 1, ?_⟩⟩
      refine nums (wl_L_digest_33 Q (dd + 1)) i v3 v1 him e3 (fun I2 x2 hx2 ex2 => ?_) 12 0 rfl I v1 0 (itr_0 _ _).symm rfl hx
      refine ih (i + 1) (by omega) I2 _ x2 ?_ (by rw [ex2]; exact n_add e3 rfl) hx2
      rw [itr_s, e1]
  -- the counts
  have cnts : ∀ (dd i : Nat), i + dd = 9 → ∀ (I : gx_M) (v1 : Int64) (v3 : Int32), v1 = itr (dgA f) 53 i → v3 = nI i → vx I f hs n sn ha tx tl re → wl_L_digest_6 Q (dd + 1) 0 v1 v3 I := by
    intro dd
    induction dd with
    | zero =>
      intro i hi I v1 v3 e1 e3 hx
      rw [wl_L_digest_6]
      refine ⟨fun _ => ⟨m + 1, ?_⟩, fun c => absurd ((n_le (a := 9) rfl e3).mpr (by omega)) c⟩
      refine ross (itr (dgA f) 53 9) h m 0 (by omega) I v1 0 ?_ rfl hx
      rw [e1, show i = 9 by omega, itr_0]
    | succ dd ih =>
      intro i hi I v1 v3 e1 e3 hx
      have hi9 : i < 9 := by omega
      rw [wl_L_digest_6]
      refine ⟨fun c => absurd ((n_le (a := 9) rfl e3).mp c) (by omega), fun _ => ?_⟩
      refine x7_count hx (q := i) e3 (by omega) fun x1 ex1 x2 ex2 => ?_
      refine ih (i + 1) (by omega) I x1 x2 ?_ (by rw [ex2]; exact n_add e3 rfl) hx
      rw [ex1, itr_s, e1, cnv_lo i hi9, dgA]
  unfold wp_L_digest
  exact ⟨9 + 1, cnts 9 0 rfl I 53 0 (itr_0 _ _).symm rfl hx⟩
end DG
