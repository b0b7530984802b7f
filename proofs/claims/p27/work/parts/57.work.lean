/-! what stands against a job, and what it does -/
def sm (f' f : Nat → Int32) (r i : Nat) : Prop := (∀ q, q < 9 → qr f' r q = qr f r q) ∧ f' 3 = f 3 ∧ qg f' r i 0 = qg f r i 0 ∧ qg f' r i 1 = qg f r i 1
section CG
variable {f f' : Nat → Int32} {r i : Nat}
theorem sm_sv (h : sm f' f r i) : sv f' r = sv f r := by unfold sv; rw [h.1 2 (by decide), h.2.1]
theorem sm_ld (h : sm f' f r i) (v : Int32) : ld f' r v = ld f r v := by unfold ld; rw [h.1 2 (by decide), h.1 4 (by decide)]
theorem sm_stn (h : sm f' f r i) : stn f' r i = stn f r i := by unfold stn; rw [h.1 1 (by decide), h.1 5 (by decide), h.1 6 (by decide), h.1 7 (by decide)]
theorem sm_off (h : sm f' f r i) : off f' r i = off f r i := by unfold off; rw [sm_ld h, sm_ld h, sm_stn h, h.2.2.1, h.2.2.2, h.1 3 (by decide)]
theorem sm_onn (h : sm f' f r i) : onn f' r i = onn f r i := by unfold onn; rw [sm_off h, sm_ld h, sm_sv h]
theorem sm_sgn (h : sm f' f r i) : sgn f' r i = sgn f r i := by unfold sgn; rw [sm_off h, sm_onn h, h.1 8 (by decide)]
theorem sm_stp (h : sm f' f r i) : stp f' r i = stp f r i := by unfold stp; rw [sm_off h, sm_onn h]
end CG
def zo (f : Nat → Int32) (r i : Nat) : Bool := decide (¬ ((-15000 : Int32) ≤ qg f r i 1 + sgn f r i ∧ qg f r i 1 + sgn f r i ≤ 15000))
def ob (f : Nat → Int32) (r i : Nat) : Bool := bey (onn f r i) || bey (off f r i)
def sz (f : Nat → Int32) (r i : Nat) : Bool := decide (stp f r i = 0)
def agb (z : Nat → Bool) : Int32 := if (z 0 || z 1 || z 2) = true then 3 else 0
def agc (o s : Nat → Bool) : Int32 := if (o 0 || o 1 || o 2) = true then 2 else if (s 0 || s 1 || s 2) = true then 5 else 0
def agn (f : Nat → Int32) (r : Nat) (kd : Int32) : Int32 :=
  if kd = 0 then (if ovc f r 3 ≤ 0 then 0 else 2) else if kd = 1 then (if qr f r 8 = 0 then agb (zo f r) else 4) else agc (ob f r) (sz f r)
theorem agn_or (f : Nat → Int32) (r : Nat) (kd : Int32) : agn f r kd = 0 ∨ agn f r kd = 2 ∨ agn f r kd = 3 ∨ agn f r kd = 4 ∨ agn f r kd = 5 := by
  unfold agn agb agc
  repeat' split
  all_goals simp
theorem agb_t {z : Nat → Bool} {i : Nat} (hi : i < 3) (h : z i = true) : agb z = 3 := by
  have : i = 0 ∨ i = 1 ∨ i = 2 := by omega
  unfold agb
  rcases this with rfl | rfl | rfl <;> rw [h] <;> simp
theorem agb_f {z : Nat → Bool} (h : ∀ i, i < 3 → z i = false) : agb z = 0 := by
  unfold agb
  rw [h 0 (by decide), h 1 (by decide), h 2 (by decide)]; rfl
theorem agb_0 {z : Nat → Bool} (h : agb z = 0) {i : Nat} (hi : i < 3) : z i = false := by
  cases hz : z i with
  | false => rfl
  | true => rw [agb_t hi hz] at h; exact absurd h (by decide)
theorem chk_ob {f : Nat → Int32} {r : Nat} : chk f r 3 = (ob f r 0 || ob f r 1 || ob f r 2) := by
  simp [chk, ob, Bool.or_assoc]
def rb (z : Nat → Bool) : Nat → Int32
  | 0 => 0
  | i + 1 => if z i = true then 3 else rb z i
theorem rb_3 (z : Nat → Bool) : rb z 3 = agb z := by
  simp only [rb, agb]
  cases z 0 <;> cases z 1 <;> cases z 2 <;> rfl
def rc (o s : Nat → Bool) : Nat → Int32
  | 0 => 0
  | i + 1 => if o i = true then 2 else if s i = true then (if rc o s i = 0 then 5 else rc o s i) else rc o s i
theorem rc_3 (o s : Nat → Bool) : rc o s 3 = agc o s := by
  simp only [rc, agc]
  cases o 0 <;> cases o 1 <;> cases o 2 <;> cases s 0 <;> cases s 1 <;> cases s 2 <;> decide
def fw (f : Nat → Int32) (r w : Nat) (va : Nat → Int32) : Nat → Nat → Int32
  | 0 => f
  | i + 1 => upd (fw f r w va i) (10 + 20 * r + (9 + 3 * i + w)) (va i)
def cv (f : Nat → Int32) (r w : Nat) (va : Nat → Int32) : Nat → Int32
  | 0 => 0
  | i + 1 => if va i = qg f r i w then cv f r w va i else cv f r w va i + 1
theorem fw_n {f : Nat → Int32} {r w : Nat} {va : Nat → Int32} {o : Nat} : ∀ i, (∀ j, j < i → o ≠ 10 + 20 * r + (9 + 3 * j + w)) → fw f r w va i o = f o := by
  intro i
  induction i with
  | zero => intro _; rfl
  | succ i ih =>
    intro h
    unfold fw
    rw [upd_n (h i (by omega)), ih fun j hj => h j (by omega)]
theorem fw_sm {f : Nat → Int32} {r w i : Nat} {va : Nat → Int32} (hw : w = 1 ∨ w = 2) : sm (fw f r w va i) f r i ∧ qg (fw f r w va i) r i w = qg f r i w := by
  refine ⟨⟨fun q hq => fw_n i fun j hj => by omega, fw_n i fun j hj => by omega, fw_n i fun j hj => by omega, fw_n i fun j hj => by omega⟩, fw_n i fun j hj => by omega⟩
def vz (f : Nat → Int32) (r i : Nat) : Int32 := qg f r i 1 + sgn f r i
def vg (f : Nat → Int32) (r i : Nat) : Int32 := (sv f r * 1000) / stp f r i
theorem tdv {x d B : Int} (h : -B ≤ x ∧ x ≤ B) : -B ≤ x.tdiv d ∧ x.tdiv d ≤ B := by
  have h1 : (x.tdiv d).natAbs ≤ x.natAbs := by rw [Int.natAbs_tdiv]; exact Nat.div_le_self _ _
  omega
theorem vg_l {f : Nat → Int32} {r i : Nat} (h : gm f r) : Int64.toInt32 ((Int32.toInt64 (sv f r) * (1000 : Int64)) / Int32.toInt64 (stp f r i)) = vg f r i ∧ -17199000 ≤ (vg f r i).toInt ∧ (vg f r i).toInt ≤ 17199000 := by
  have b := sv_bd h.2.1 h.2.2
  have k1 : (1000 : Int64).toInt = 1000 := rfl
  have k2 : (1000 : Int32).toInt = 1000 := rfl
  have e1 : (Int32.toInt64 (sv f r) * (1000 : Int64)).toInt = (sv f r).toInt * 1000 := by rw [l_mul (by rw [k1, Int32.toInt_toInt64]; omega), k1, Int32.toInt_toInt64]
  have e2 : (sv f r * 1000).toInt = (sv f r).toInt * 1000 := by rw [t_mul (by rw [k2]; omega), k2]
  have bb := tdv (x := (sv f r).toInt * 1000) (d := (stp f r i).toInt) (B := 17199000) (by omega)
  have e3 : ((Int32.toInt64 (sv f r) * (1000 : Int64)) / Int32.toInt64 (stp f r i)).toInt = ((sv f r).toInt * 1000).tdiv (stp f r i).toInt := by
    rw [Int64.toInt_div, e1, Int32.toInt_toInt64]
    exact Int.bmod_eq_of_le (by omega) (by omega)
  have e4 : (vg f r i).toInt = ((sv f r).toInt * 1000).tdiv (stp f r i).toInt := by
    unfold vg
    rw [Int32.toInt_div, e2]
    exact Int.bmod_eq_of_le (by omega) (by omega)
  refine ⟨?_, by omega⟩
  apply Int32.toInt_inj.mp
  rw [l_32 (by rw [e3]; omega), e3, e4]
theorem gr_ga {f : Nat → Int32} {r i w : Nat} {v : Int32} (h : gr f r) (hi : i < 3) (hw : (w = 1 ∧ -15000 ≤ v.toInt ∧ v.toInt ≤ 15000) ∨ (w = 2 ∧ -17199000 ≤ v.toInt ∧ v.toInt ≤ 17199000)) : gr (upd f (10 + 20 * r + (9 + 3 * i + w)) v) r := by
  obtain ⟨g1, g2, g3, g4, g5, g6, g7, g8⟩ := h
  have hw2 : w = 1 ∨ w = 2 := by omega
  refine ⟨by rw [upd_n (by omega)]; exact g1, by rw [upd_n (by omega)]; exact g2, by rw [upd_n (by omega)]; exact g3, by rw [upd_n (by omega)]; exact g4, by rw [upd_n (by omega)]; exact g5, fun q hq => by rw [upd_n (by omega)]; exact g6 q hq, by rw [upd_n (by omega)]; exact g7, fun k hk => ?_⟩
  obtain ⟨k1, k2, k3⟩ := g8 k hk
  rw [upd_n (show 10 + 20 * r + (9 + 3 * k + 0) ≠ 10 + 20 * r + (9 + 3 * i + w) by omega)]
  refine ⟨k1, ?_, ?_⟩
  · by_cases e : k = i ∧ w = 1
    · rw [e.1, e.2, upd_s]; omega
    · rw [upd_n (by omega)]; exact k2
  · by_cases e : k = i ∧ w = 2
    · rw [e.1, e.2, upd_s]; omega
    · rw [upd_n (by omega)]; exact k3
theorem gd_fw {f : Nat → Int32} {m w k r u : Nat} {va : Nat → Int32} (hg : gd f m w k) (hr : r < m) (hu : ∀ i, i < 3 → (u = 1 ∧ -15000 ≤ (va i).toInt ∧ (va i).toInt ≤ 15000) ∨ (u = 2 ∧ -17199000 ≤ (va i).toInt ∧ (va i).toInt ≤ 17199000)) : ∀ i, i ≤ 3 → gd (fw f r u va i) m w k := by
  intro i
  induction i with
  | zero => intro _; exact hg
  | succ i ih =>
    intro hi
    have h1 := ih (by omega)
    have h2 := hu i (by omega)
    exact gd_ros h1 hr (by omega) (gr_ga (h1.2.2.2.2.2.2.2.2.1 r hr) (by omega) h2)
theorem vz_bd {f : Nat → Int32} {r i : Nat} (h : zo f r i = false) : -15000 ≤ (vz f r i).toInt ∧ (vz f r i).toInt ≤ 15000 := by
  unfold zo at h
  rw [decide_eq_false_iff_not, Classical.not_not] at h
  exact ⟨Int32.le_iff_toInt_le.mp h.1, Int32.le_iff_toInt_le.mp h.2⟩
def prf (f : Nat → Int32) (r : Nat) (kd : Int32) : Nat → Int32 := if kd = 0 then f else if kd = 1 then fw f r 1 (vz f r) 3 else fw f r 2 (vg f r) 3
def prs (f : Nat → Int32) (r : Nat) (kd : Int32) : Int32 := if kd = 0 then mm f r + rad f r else if kd = 1 then cv f r 1 (vz f r) 3 else cv f r 2 (vg f r) 3
theorem gd_prf {f : Nat → Int32} {m w k r : Nat} {kd : Int32} (hg : gd f m w k) (hr : r < m) (h0 : agn f r kd = 0) : gd (prf f r kd) m w k := by
  have hgm := gd_gm hg hr
  unfold agn at h0
  unfold prf
  by_cases c0 : kd = 0
  · rw [if_pos c0]; exact hg
  rw [if_neg c0] at h0 ⊢
  by_cases c1 : kd = 1
  · rw [if_pos c1] at h0 ⊢
    by_cases c2 : qr f r 8 = 0
    · rw [if_pos c2] at h0
      exact gd_fw hg hr (fun i hi => Or.inl ⟨rfl, vz_bd (agb_0 h0 hi)⟩) 3 (by decide)
    · rw [if_neg c2] at h0; exact absurd h0 (by decide)
  · rw [if_neg c1]
    exact gd_fw hg hr (fun i hi => Or.inr ⟨rfl, (vg_l (i := i) hgm).2⟩) 3 (by decide)
theorem stp_n0 {f : Nat → Int32} {r : Nat} {kd : Int32} (c0 : ¬ kd = 0) (c1 : ¬ kd = 1) (h0 : agn f r kd = 0) {i : Nat} (hi : i < 3) : ¬ stp f r i = 0 := by
  unfold agn at h0
  rw [if_neg c0, if_neg c1] at h0
  unfold agc at h0
  split at h0
  · exact absurd h0 (by decide)
  · split at h0
    · exact absurd h0 (by decide)
    · rename_i _ h
      intro q
      apply h
      have e : sz f r i = true := by unfold sz; rw [decide_eq_true_iff]; exact q
      have : i = 0 ∨ i = 1 ∨ i = 2 := by omega
      rcases this with rfl | rfl | rfl <;> rw [e] <;> simp
section WX
variable {I : gx_M} {f : Nat → Int32} {hs : Nat → Nat → Int32} {n : Nat} {sn : Nat → Int32} {ha : Nat} {tx : Nat → Int32} {tl : Nat} {re : Int32} {m w k r i : Nat} {p p0 kd : Int32}
theorem vx.putg {u : Nat} {v : Int32} (h : vx I f hs n sn ha tx tl re) (hr : r < 8) (hi : i < 3) (hu : u < 3) : vx (up I (1 + (6 + 4 * r) + (1 + u)) i v) (upd f (10 + 20 * r + (9 + 3 * i + u)) v) hs n sn ha tx tl re := by
  obtain ⟨lo1, lo2, lo3⟩ := lo_g r hr i hi u hu
  have h3 := h.put (v := v) (by omega) lo1 lo2
  rw [show fl_nz (10 + 20 * r + (9 + 3 * i + u)) v = v by unfold fl_nz; rw [lo3]; rfl] at h3
  rw [show 1 + (6 + 4 * r) + (1 + u) = 1 + (7 + 4 * r + u) by omega]
  exact h3
theorem s7_agn {Q : Int32 → gx_M → Prop} (hx : vx I f hs n sn ha tx tl re) (hr : r < 8) (hme : mea f r I) (h : Q (agn f r kd) I) : wp_X7_reasonAgainst 0 kd (1 + (6 + 4 * r)) I Q := by
  obtain ⟨⟨b1, b2, b3, b4, b5⟩, c1, _⟩ := hme
  obtain ⟨n1, n2, n3⟩ := nX_ros hr
  have a8 : I (1 + (6 + 4 * r)) 8 &&& 1 = qr f r 8 := hx.rb hr (Or.inr rfl)
  have b3 : I (0 + 275) 7 = ovc f r 3 := b3
  have b4 : I (0 + 275) 8 &&& 1 = 0 ↔ chk f r 3 = false := b4
  unfold agn at h
  unfold wp_X7_reasonAgainst
  rw [b3]
  refine ⟨fun d => ?_, fun d => ?_, fun d d2 => ?_⟩
  · rw [if_pos d] at h
    refine ⟨fun e => ?_, fun e => ?_⟩
    · rw [if_pos e] at h; exact h
    · rw [if_neg e] at h; exact h
  · rw [if_neg (by rw [d]; decide), if_pos d] at h
    unfold wp_X7_reasonAgainstBalance
    rw [a8]
    refine ⟨fun e => ?_, fun e => ?_⟩
    · rw [if_pos e] at h
      have key : ∀ (d i : Nat), i + d = 3 → ∀ v : Int32, v = nI i → (∀ j, j < i → zo f r j = false) → wl_X7_reasonAgainstBalance_11 Q (d + 1) 0 (1 + (6 + 4 * r)) v I := by
        intro d
        induction d with
        | zero =>
          intro i hi v hv g
          have hi : i = 3 := by omega
          subst hi
          rw [wl_X7_reasonAgainstBalance_11]
          exact ⟨fun _ => by rw [agb_f g] at h; exact h, fun h => absurd ((n_le (a := 3) rfl hv).mpr (by omega)) h⟩
        | succ d ih =>
          intro i hi v hv g
          have hi3 : i < 3 := by omega
          have w1 : I (1 + (6 + 4 * r) + 2) i = qg f r i 1 := hx.go hr hi3 (w := 1) (by decide)
          have w2 : I (0 + 275 + 2) i = sgn f r i := (b5 i hi3).1
          rw [wl_X7_reasonAgainstBalance_11]
          rw [n2, cl_of hv, w1, w2]
          refine ⟨fun h => absurd ((n_le (a := 3) rfl hv).mp h) (by omega), fun _ => ⟨ix_of (N := 3) hv hi3, ix_of (N := 3) hv hi3, s7_a (fun e1 e2 => ⟨fun h => absurd h (by decide), fun _ x ex => ih (i + 1) (by omega) x (by rw [ex]; exact n_add hv rfl) fun j hj => ?_⟩) (fun e => ⟨fun _ => ?_, fun h => absurd rfl h⟩)⟩⟩
          · by_cases ej : j = i
            · rw [ej]; unfold zo; rw [decide_eq_false_iff_not, Classical.not_not]; exact ⟨e1, e2⟩
            · exact g j (by omega)
          · have : zo f r i = true := by unfold zo; rw [decide_eq_true_iff]; exact e
            rw [agb_t hi3 this] at h; exact h
      exact ⟨3 + 1, key 3 0 rfl 0 rfl (fun j hj => absurd hj (by omega))⟩
    · rw [if_neg e] at h; exact h
  · rw [if_neg d, if_neg d2] at h
    unfold agc at h
    rw [← chk_ob] at h
    unfold wp_X7_reasonAgainstCheck
    refine ⟨fun e => ?_, fun e => ?_⟩
    · rw [b4.mp e, if_neg (by decide)] at h
      have key : ∀ (d i : Nat), i + d = 3 → ∀ v : Int32, v = nI i → (∀ j, j < i → sz f r j = false) → wl_X7_reasonAgainstCheck_14 Q (d + 1) 0 v I := by
        intro d
        induction d with
        | zero =>
          intro i hi v hv g
          have hi : i = 3 := by omega
          subst hi
          rw [wl_X7_reasonAgainstCheck_14]
          refine ⟨fun _ => ?_, fun h => absurd ((n_le (a := 3) rfl hv).mpr (by omega)) h⟩
          rw [g 0 (by decide), g 1 (by decide), g 2 (by decide)] at h
          exact h
        | succ d ih =>
          intro i hi v hv g
          have hi3 : i < 3 := by omega
          have w2 : I (0 + 275 + 5) i = stp f r i := (b5 i hi3).2.2
          rw [wl_X7_reasonAgainstCheck_14]
          rw [cl_of hv, w2]
          refine ⟨fun h => absurd ((n_le (a := 3) rfl hv).mp h) (by omega), fun _ => ⟨ix_of (N := 3) hv hi3, fun e => ?_, fun e x ex => ih (i + 1) (by omega) x (by rw [ex]; exact n_add hv rfl) fun j hj => ?_⟩⟩
          · have t : sz f r i = true := by unfold sz; rw [decide_eq_true_iff]; exact e
            have : i = 0 ∨ i = 1 ∨ i = 2 := by omega
            rw [if_pos (by rcases this with rfl | rfl | rfl <;> rw [t] <;> simp)] at h
            exact h
          · by_cases ej : j = i
            · rw [ej]; unfold sz; rw [decide_eq_false_iff_not]; exact e
            · exact g j (by omega)
      exact ⟨3 + 1, key 3 0 rfl 0 rfl (fun j hj => absurd hj (by omega))⟩
    · have : chk f r 3 = true := by
        cases hc : chk f r 3 with
        | true => rfl
        | false => exact absurd (b4.mpr hc) e
      rw [this, if_pos rfl] at h; exact h
theorem s7_perf {Q : Int32 → gx_M → Prop} (hx : vx I f hs n sn ha tx tl re) (hg : gm f r) (hme : mea f r I) (h0 : agn f r kd = 0) (hQ : ∀ I' : gx_M, vx I' (prf f r kd) hs n sn ha tx tl re → Q (prs f r kd) I') : wp_X7_perform 0 kd (1 + (6 + 4 * r)) I Q := by
  obtain ⟨hr, hgr, hz⟩ := id hg
  obtain ⟨⟨b1, b2, b3, b4, b5⟩, c1, d2, d3, d4, d5, d6, d7⟩ := hme
  obtain ⟨n1, n2, n3⟩ := nX_ros hr
  unfold prf prs at hQ
  unfold wp_X7_perform
  refine ⟨fun d => ?_, fun d => ?_, fun d e => ?_⟩
  · rw [if_pos d, if_pos d] at hQ
    have w12 : I (0 + 275) 12 = mm f r := d5
    have w14 : I (0 + 275) 14 = rad f r := d7
    rw [w12, w14]
    exact hQ I hx
  · have d0 : ¬ kd = 0 := by rw [d]; decide
    rw [if_neg d0, if_neg d0, if_pos d, if_pos d] at hQ
    have key : ∀ (d i : Nat), i + d = 3 → ∀ (I2 : gx_M) (v2 v3 : Int32), v2 = cv f r 1 (vz f r) i → v3 = nI i → vx I2 (fw f r 1 (vz f r) i) hs n sn ha tx tl re → I2 277 = I 277 → wl_X7_setZeros_4 Q (d + 1) 0 (1 + (6 + 4 * r)) v2 v3 I2 := by
      intro d
      induction d with
      | zero =>
        intro i hi I2 v2 v3 e2 e3 h2 g
        have hi : i = 3 := by omega
        subst hi
        rw [wl_X7_setZeros_4]
        exact ⟨fun _ => by rw [e2]; exact hQ I2 h2, fun h => absurd ((n_le (a := 3) rfl e3).mpr (by omega)) h⟩
      | succ d ih =>
        intro i hi I2 v2 v3 e2 e3 h2 g
        have hi3 : i < 3 := by omega
        have hin : vp_in v3 3 := ix_of e3 hi3
        have w1 : I2 (1 + (6 + 4 * r) + 2) i = qg f r i 1 := (h2.go hr hi3 (w := 1) (by decide)).trans (fw_sm (Or.inl rfl)).2
        have w2 : I2 (0 + 275 + 2) i = sgn f r i := by show I2 277 i = _; rw [g]; exact (b5 i hi3).1
        rw [wl_X7_setZeros_4]
        rw [n2, cl_of e3, w1, w2]
        refine ⟨fun h => absurd ((n_le (a := 3) rfl e3).mp h) (by omega), fun _ => ⟨hin, hin, fun x1 ex1 => ⟨hin, fun c x ex => ?_, fun c => ⟨hin, fun I3 f3 y ey x ex => ?_⟩⟩⟩⟩
        · have ex1 : x1 = vz f r i := ex1
          have e4 : fw f r 1 (vz f r) (i + 1) = fw f r 1 (vz f r) i := upd_id (by
            show vz f r i = qg (fw f r 1 (vz f r) i) r i 1
            rw [(fw_sm (Or.inl rfl)).2, ← ex1]; exact c)
          refine ih (i + 1) (by omega) I2 v2 x ?_ (by rw [ex]; exact n_add e3 rfl) (by rw [e4]; exact h2) g
          conv => rhs; unfold cv
          rw [if_pos (by rw [← ex1]; exact c), e2]
        · have ex1 : x1 = vz f r i := ex1
          refine ih (i + 1) (by omega) I3 y x ?_ (by rw [ex]; exact n_add e3 rfl) ?_ (by rw [f3, up_ne (by omega), g])
          · conv => rhs; unfold cv
            rw [if_neg (by rw [← ex1]; exact c), ey, e2]
          · rw [f3, ex1]
            exact h2.putg hr hi3 (u := 1) (by decide)
    exact ⟨3 + 1, key 3 0 rfl I 0 0 rfl rfl hx rfl⟩
  · rw [if_neg d, if_neg d, if_neg e, if_neg e] at hQ
    have key : ∀ (d i : Nat), i + d = 3 → ∀ (I2 : gx_M) (v2 v3 : Int32), v2 = cv f r 2 (vg f r) i → v3 = nI i → vx I2 (fw f r 2 (vg f r) i) hs n sn ha tx tl re → (∀ a, 275 ≤ a → I2 a = I a) → wl_X7_setGains_4 Q (d + 1) 0 (1 + (6 + 4 * r)) v2 v3 I2 := by
      intro d
      induction d with
      | zero =>
        intro i hi I2 v2 v3 e2 e3 h2 g
        have hi : i = 3 := by omega
        subst hi
        rw [wl_X7_setGains_4]
        exact ⟨fun _ => by rw [e2]; exact hQ I2 h2, fun h => absurd ((n_le (a := 3) rfl e3).mpr (by omega)) h⟩
      | succ dd ih =>
        intro i hi I2 v2 v3 e2 e3 h2 g
        have hi3 : i < 3 := by omega
        have hin : vp_in v3 3 := ix_of e3 hi3
        have w1 : I2 (1 + (6 + 4 * r) + 3) i = qg f r i 2 := (h2.go hr hi3 (w := 2) (by decide)).trans (fw_sm (Or.inr rfl)).2
        have w2 : I2 (0 + 275 + 5) i = stp f r i := by show I2 280 i = _; rw [g 280 (by decide)]; exact (b5 i hi3).2.2
        have w3 : I2 (0 + 275) 6 = sv f r := by show I2 275 6 = _; rw [g 275 (by decide)]; exact b2
        have hnz : ¬ Int32.toInt64 (stp f r i) = 0 := by
          intro q
          apply stp_n0 d e h0 hi3
          apply Int32.toInt_inj.mp
          rw [← Int32.toInt_toInt64, q]; rfl
        rw [wl_X7_setGains_4]
        rw [n3, cl_of e3, w2, w3]
        refine ⟨fun h => absurd ((n_le (a := 3) rfl e3).mp h) (by omega), fun _ => ⟨hin, s7_q hnz fun x1 ex1 => ?_⟩⟩
        rw [(vg_l hg).1] at ex1
        rw [w1]
        refine ⟨hin, fun c x ex => ?_, fun c => ⟨hin, fun I3 f3 y ey x ex => ?_⟩⟩
        · have e4 : fw f r 2 (vg f r) (i + 1) = fw f r 2 (vg f r) i := upd_id (by
            show vg f r i = qg (fw f r 2 (vg f r) i) r i 2
            rw [(fw_sm (Or.inr rfl)).2, ← ex1]; exact c)
          refine ih (i + 1) (by omega) I2 v2 x ?_ (by rw [ex]; exact n_add e3 rfl) (by rw [e4]; exact h2) g
          conv => rhs; unfold cv
          rw [if_pos (by rw [← ex1]; exact c), e2]
        · refine ih (i + 1) (by omega) I3 y x ?_ (by rw [ex]; exact n_add e3 rfl) ?_ (fun a ha => by rw [f3, up_ne (by omega), g a ha])
          · conv => rhs; unfold cv
            rw [if_neg (by rw [← ex1]; exact c), ey, e2]
          · rw [f3, ex1]
            exact h2.putg hr hi3 (u := 2) (by decide)
    exact ⟨3 + 1, key 3 0 rfl I 0 0 rfl rfl hx (fun _ _ => rfl)⟩
end WX
