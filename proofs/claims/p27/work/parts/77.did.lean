/-! what the latest job did, by its record -/
/-- two rows that hold the same of a rosette -/
def er (F G : Nat → Int32) (r : Nat) : Prop := (∀ q, q < 9 → qr F r q = qr G r q) ∧ F 3 = G 3 ∧ ∀ i u, i < 3 → u < 3 → qg F r i u = qg G r i u
section ER
variable {F G f : Nat → Int32} {r i k : Nat}
theorem er_sm (h : er F G r) (hi : i < 3) : sm F G r i := ⟨h.1, h.2.1, h.2.2 i 0 hi (by decide), h.2.2 i 1 hi (by decide)⟩
theorem er_crr (h : er F G r) (hi : i < 3) : crr F r i = crr G r i := by unfold crr rdg; rw [sm_sgn (er_sm h hi), h.2.2 i 2 hi (by decide), h.1 3 (by decide)]
theorem er_ovc (h : er F G r) : ∀ i, i ≤ 3 → ovc F r i = ovc G r i := by
  intro i
  induction i with
  | zero => intro _; rfl
  | succ i ih => intro hi; unfold ovc; rw [sm_sgn (er_sm h (by omega)), ih (by omega)]
theorem er_mx (h : er F G r) : mx F r = mx G r := by unfold mx; exact er_crr h (by decide)
theorem er_my (h : er F G r) : my F r = my G r := by unfold my; rw [er_crr h (i := 0) (by decide), er_crr h (i := 1) (by decide), er_crr h (i := 2) (by decide), h.1 1 (by decide)]
theorem er_mg (h : er F G r) : mg F r = mg G r := by unfold mg; rw [er_crr h (i := 0) (by decide), er_crr h (i := 1) (by decide), er_crr h (i := 2) (by decide), h.1 1 (by decide)]
theorem er_pul (h : er F G r) (t : Nat) : pul F r t = pul G r t := by unfold pul; rw [er_mx h, er_my h, er_mg h]
theorem er_bst (h : er F G r) : ∀ t, bst F r t = bst G r t := by
  intro t
  induction t with
  | zero => unfold bst; rw [er_pul h]
  | succ t ih => unfold bst; rw [er_pul h, ih]
theorem er_mr (h : er F G r) : mm F r + rad F r = mm G r + rad G r := by unfold mm rad; rw [er_mx h, er_my h, er_bst h]
theorem ovc_le (f : Nat → Int32) (r : Nat) : ∀ i, ∃ c, ovc f r i = nI c ∧ c ≤ i := by
  intro i
  induction i with
  | zero => exact ⟨0, rfl, Nat.le_refl _⟩
  | succ i ih =>
    obtain ⟨c, h1, h2⟩ := ih
    unfold ovc
    split
    · exact ⟨c + 1, by rw [h1]; exact n_add rfl rfl, by omega⟩
    · exact ⟨c, h1, by omega⟩
theorem cv_le (f : Nat → Int32) (r u : Nat) (va : Nat → Int32) : ∀ i, ∃ c, cv f r u va i = nI c ∧ c ≤ i := by
  intro i
  induction i with
  | zero => exact ⟨0, rfl, Nat.le_refl _⟩
  | succ i ih =>
    obtain ⟨c, h1, h2⟩ := ih
    unfold cv
    split
    · exact ⟨c, h1, by omega⟩
    · exact ⟨c + 1, by rw [h1]; exact n_add rfl rfl, by omega⟩
theorem fw_at {u : Nat} {va : Nat → Int32} : ∀ n, i < n → fw f r u va n (10 + 20 * r + (9 + 3 * i + u)) = va i := by
  intro n
  induction n with
  | zero => intro h; exact absurd h (by omega)
  | succ n ih =>
    intro h
    unfold fw
    by_cases e : i = n
    · rw [e, upd_s]
    · rw [upd_n (by omega), ih (by omega)]
theorem rec_at {a b c d : Int32} : rec f k a b c d (250 + (4 * (rek k - 1 - 0) + 0)) = a ∧ rec f k a b c d (250 + (4 * (rek k - 1 - 0) + 1)) = b ∧ rec f k a b c d (250 + (4 * (rek k - 1 - 0) + 2)) = c ∧ rec f k a b c d (250 + (4 * (rek k - 1 - 0) + 3)) = d := by
  unfold rec rek ac
  by_cases h : k < 12
  · rw [if_pos h, if_pos h, show k + 1 - 1 - 0 = k by omega]
    refine ⟨?_, ?_, ?_, ?_⟩
    · rw [upd_n (by omega), upd_n (by omega), upd_n (by omega), upd_n (by omega), upd_s]
    · rw [upd_n (by omega), upd_n (by omega), upd_n (by omega), upd_s]
    · rw [upd_n (by omega), upd_n (by omega), upd_s]
    · rw [upd_n (by omega), upd_s]
  · rw [if_neg h, if_neg h]
    refine ⟨?_, ?_, ?_, ?_⟩
    · rw [upd_n (by omega), upd_n (by omega), upd_n (by omega), upd_n (by omega), upd_s]
    · rw [upd_n (by omega), upd_n (by omega), upd_n (by omega), upd_s]
    · rw [upd_n (by omega), upd_n (by omega), upd_s]
    · rw [upd_n (by omega), upd_s]
end ER
section DI
variable {I : gx_M} {f g : Nat → Int32} {hs : Nat → Nat → Int32} {n : Nat} {sn : Nat → Int32} {ha : Nat} {tx : Nat → Int32} {tl : Nat} {re rf : Int32} {m w k r i j b : Nat} {p p0 p1 p2 p3 : Int32} {Q : Int32 → gx_M → Prop}
/-- the row behind the job, of its rosettes -/
theorem dj_er (hb : r < 8) : er (dj g w k b) (jf3 g w b) r := by
  have e : ∀ o, 10 ≤ o → o < 250 → dj g w k b o = jf3 g w b o := fun o h1 h2 => by
    unfold dj
    rw [rec_lo h2 (by omega), upd_n (by omega)]
  refine ⟨fun q hq => e _ (by omega) (by omega), ?_, fun i u hi hu => e _ (by omega) (by omega)⟩
  unfold dj
  rw [rec_lo (by decide) (by decide), upd_n (by decide)]
theorem jf3_er (h : ¬ jag g w b = 0) : er (jf3 g w b) (jf2 g w b) r := by
  unfold jf3
  rw [if_neg h]
  exact ⟨fun q hq => upd_n (by omega), upd_n (by decide), fun i u hi hu => upd_n (by omega)⟩
theorem er_trans {F G H : Nat → Int32} (h1 : er F G r) (h2 : er G H r) : er F H r := ⟨fun q hq => (h1.1 q hq).trans (h2.1 q hq), h1.2.1.trans h2.2.1, fun i u hi hu => (h1.2.2 i u hi hu).trans (h2.2.2 i u hi hu)⟩
theorem jag_le : jag g w b ≤ 0 ↔ jag g w b = 0 := by
  have h : jag g w b = 0 ∨ jag g w b = 2 ∨ jag g w b = 3 ∨ jag g w b = 4 ∨ jag g w b = 5 := agn_or (jf2 g w b) (jo g b) (jk g b)
  rcases h with h | h | h | h | h <;> rw [h] <;> decide
theorem jk_or (hg : gd g m w k) (hb : b < w) : jk g b = 0 ∨ jk g b = 1 ∨ jk g b = 2 := by
  obtain ⟨d, d1, d2⟩ := (hg.2.2.2.2.2.2.2.2.2 b hb).1
  have : d = 0 ∨ d = 1 ∨ d = 2 := by omega
  unfold jk
  rw [d1]
  rcases this with h | h | h
  · left; rw [h]; rfl
  · right; left; rw [h]; rfl
  · right; right; rw [h]; rfl
theorem xL_did (hx : vx I (dj g w k b) hs n sn ha tx tl (jrs g w b rf)) (hg : gd g m w k) (hb : b < w) (h : ∀ I2 : gx_M, vx I2 (dj g w k b) hs n sn ha tx tl (jrs g w b rf) → Q 1 I2) : wp_L_did 0 I Q := by
  have hF := gd_dj hg hb
  have h2 := gd_jf2 hg hb
  obtain ⟨j1, j2, j3⟩ := gd_jo hg hb
  have hk0 : 0 < rek k := by unfold rek; split <;> omega
  obtain ⟨c0, c1, c2, c3⟩ := rec_at (f := upd (jf3 g w b) 6 (jf3 g w b 6 + 1)) (k := k) (a := jk g b) (b := g (170 + (4 * b + 2))) (c := jre g w b) (d := jag g w b)
  have c0 : rcv (dj g w k b) (rek k) 0 0 = jk g b := c0
  have c1 : rcv (dj g w k b) (rek k) 0 1 = nI (jo g b) := c1.trans j1
  have c2 : rcv (dj g w k b) (rek k) 0 2 = jre g w b := c2
  have c3 : rcv (dj g w k b) (rek k) 0 3 = jag g w b := c3
  have hkd := jk_or hg hb
  have eF := dj_er (g := g) (w := w) (k := k) (b := b) (r := jo g b) j3
  have hgm2 := gd_gm h2 j2
  have hag : jag g w b = agn (jf2 g w b) (jo g b) (jk g b) := rfl
  unfold wp_L_did
  refine x7_record hx hF hk0 (e := 0) rfl (q := 0) rfl (by decide) (x7_record hx hF hk0 (e := 0) rfl (q := 1) rfl (by decide) (x7_record hx hF hk0 (e := 0) rfl (q := 3) rfl (by decide) ?_))
  rw [c0, c1, c3]
  refine ⟨fun c => ?_, fun c => ?_⟩
  · have c := jag_le.mp c
    have ere : jre g w b = prs (jf2 g w b) (jo g b) (jk g b) := by unfold jre; rw [if_pos c]
    have ef3 : jf3 g w b = prf (jf2 g w b) (jo g b) (jk g b) := by unfold jf3; rw [if_pos c]
    refine ⟨fun k0 => ?_, fun k0 => ?_⟩
    · -- a read
      have e3 : jf3 g w b = jf2 g w b := by rw [ef3]; unfold prf; rw [if_pos k0]
      rw [e3] at eF
      refine x7_record hx hF hk0 (e := 0) rfl (q := 2) rfl (by decide) ?_
      rw [c2]
      refine x7_prin hx hF j2 rfl (q := 0) rfl (by decide) fun y I1 y1 hx1 => ⟨fun _ => ?_, fun c => absurd ?_ c⟩
      · refine x7_rosette hx1 hF j2 rfl (q := 10) rfl (by decide) fun I2 hx2 => ⟨fun _ => h I2 hx2, fun z => absurd ?_ z⟩
        show ovc (dj g w k b) (jo g b) 3 = 0
        rw [er_ovc eF 3 (by decide)]
        rw [hag] at c
        unfold agn at c
        rw [if_pos k0] at c
        obtain ⟨z, z1, z2⟩ := ovc_le (jf2 g w b) (jo g b) 3
        by_cases cc : ovc (jf2 g w b) (jo g b) 3 ≤ 0
        · have := (n_le (b := 0) z1 rfl).mp cc
          rw [z1, show z = 0 by omega]; rfl
        · rw [if_neg cc] at c; exact absurd c (by decide)
      · rw [ere, y1.1 rfl, er_mr eF]
        unfold prs
        rw [if_pos k0]
    · refine ⟨3 + 1, ?_⟩
      have hc : ∃ z, jre g w b = nI z ∧ z ≤ 3 := by
        rw [ere]
        unfold prs
        rw [if_neg k0]
        split
        · exact cv_le _ _ _ _ 3
        · exact cv_le _ _ _ _ 3
      obtain ⟨z, z1, z2⟩ := hc
      have key : ∀ (dd i : Nat), i + dd = 3 → ∀ (I : gx_M) (v4 : Int32), v4 = nI i → vx I (dj g w k b) hs n sn ha tx tl (jrs g w b rf) → wl_L_did_151 Q (dd + 1) 0 (jk g b) (nI (jo g b)) v4 I := by
        intro dd
        induction dd with
        | zero =>
          intro i hi I v4 e4 hx
          rw [wl_L_did_151]
          refine ⟨fun _ => ?_, fun c => absurd ((n_le (a := 3) rfl e4).mpr (by omega)) c⟩
          refine x7_record hx hF hk0 (e := 0) rfl (q := 2) rfl (by decide) ?_
          rw [c2]
          refine ⟨fun c => absurd c (n_neg z1), fun _ => x7_record hx hF hk0 (e := 0) rfl (q := 2) rfl (by decide) ?_⟩
          rw [c2]
          exact ⟨fun c => absurd ((n_lt (a := 3) rfl z1).mp c) (by omega), fun _ => h I hx⟩
        | succ dd ih =>
          intro i hi I v4 e4 hx
          have hi3 : i < 3 := by omega
          have go : ∀ I : gx_M, vx I (dj g w k b) hs n sn ha tx tl (jrs g w b rf) → wj_L_did_210 Q (wl_L_did_151 Q (dd + 1)) 0 (jk g b) (nI (jo g b)) v4 I := fun I hx x ex => ih (i + 1) (by omega) I x (by rw [ex]; exact n_add e4 rfl) hx
          rw [wl_L_did_151]
          refine ⟨fun c => absurd ((n_le (a := 3) rfl e4).mp c) (by omega), fun _ => ⟨fun k1 => ?_, fun k1 => ?_⟩⟩
          · -- balanced
            have e3 : jf3 g w b = fw (jf2 g w b) (jo g b) 1 (vz (jf2 g w b) (jo g b)) 3 := by rw [ef3]; unfold prf; rw [if_neg k0, if_pos k1]
            have q8 : qr (jf2 g w b) (jo g b) 8 = 0 := by
              rw [hag] at c
              unfold agn at c
              rw [if_neg k0, if_pos k1] at c
              by_cases cc : qr (jf2 g w b) (jo g b) 8 = 0
              · exact cc
              · rw [if_neg cc] at c; exact absurd c (by decide)
            refine x7_gauge hx hF j2 rfl e4 hi3 (q := 2) rfl (by decide) fun I1 hx1 => ⟨fun _ => go I1 hx1, fun c => absurd ?_ c⟩
            show sgn (dj g w k b) (jo g b) i = 0
            rw [sm_sgn (er_sm eF hi3), e3]
            have s8 : qr (fw (jf2 g w b) (jo g b) 1 (vz (jf2 g w b) (jo g b)) 3) (jo g b) 8 = 0 := by
              rw [(fw_sm (i := 3) (Or.inl rfl)).1.1 8 (by decide)]; exact q8
            unfold sgn
            rw [if_pos s8]
            have hl : ∀ v, ld (fw (jf2 g w b) (jo g b) 1 (vz (jf2 g w b) (jo g b)) 3) (jo g b) v = ld (jf2 g w b) (jo g b) v := fun v => by
              unfold ld
              rw [(fw_sm (i := 3) (Or.inl rfl)).1.1 2 (by decide), (fw_sm (i := 3) (Or.inl rfl)).1.1 4 (by decide)]
            have hs2 : stn (fw (jf2 g w b) (jo g b) 1 (vz (jf2 g w b) (jo g b)) 3) (jo g b) i = stn (jf2 g w b) (jo g b) i := by
              unfold stn
              rw [(fw_sm (i := 3) (Or.inl rfl)).1.1 1 (by decide), (fw_sm (i := 3) (Or.inl rfl)).1.1 5 (by decide), (fw_sm (i := 3) (Or.inl rfl)).1.1 6 (by decide), (fw_sm (i := 3) (Or.inl rfl)).1.1 7 (by decide)]
            have hz : qg (fw (jf2 g w b) (jo g b) 1 (vz (jf2 g w b) (jo g b)) 3) (jo g b) i 1 = vz (jf2 g w b) (jo g b) i := fw_at 3 hi3
            have ho : qg (fw (jf2 g w b) (jo g b) 1 (vz (jf2 g w b) (jo g b)) 3) (jo g b) i 0 = qg (jf2 g w b) (jo g b) i 0 := fw_n 3 fun j hj => by omega
            unfold off
            rw [hl, hl, hs2, hz, ho, (fw_sm (i := 3) (Or.inl rfl)).1.1 3 (by decide)]
            unfold vz sgn
            rw [if_pos q8]
            unfold off
            rw [Int32.add_comm (qg (jf2 g w b) (jo g b) i 1), Int32.sub_add_cancel, Int32.sub_self]
          · -- checked
            have e3 : jf3 g w b = fw (jf2 g w b) (jo g b) 2 (vg (jf2 g w b) (jo g b)) 3 := by rw [ef3]; unfold prf; rw [if_neg k0, if_neg k1]
            have hsm : sm (fw (jf2 g w b) (jo g b) 2 (vg (jf2 g w b) (jo g b)) 3) (jf2 g w b) (jo g b) i := ⟨(fw_sm (i := 3) (Or.inr rfl)).1.1, (fw_sm (i := 3) (Or.inr rfl)).1.2.1, fw_n 3 fun j hj => by omega, fw_n 3 fun j hj => by omega⟩
            have s5 : stp (dj g w k b) (jo g b) i = stp (jf2 g w b) (jo g b) i := by rw [sm_stp (er_sm eF hi3), e3, sm_stp hsm]
            have s9 : sv (dj g w k b) (jo g b) = sv (jf2 g w b) (jo g b) := by rw [sm_sv (i := i) (er_sm eF hi3), e3, sm_sv hsm]
            have sg : qg (dj g w k b) (jo g b) i 2 = vg (jf2 g w b) (jo g b) i := by rw [eF.2.2 i 2 hi3 (by decide), e3]; exact fw_at 3 hi3
            have hnz := stp_n0 k0 k1 (hag ▸ c) hi3
            refine x7_gauge hx hF j2 rfl e4 hi3 (q := 5) rfl (by decide) fun I1 hx1 => x7_rosette hx1 hF j2 rfl (q := 9) rfl (by decide) fun I2 hx2 => x7_gauge hx2 hF j2 rfl e4 hi3 (q := 7) rfl (by decide) fun I3 hx3 => ⟨?_, fun _ => go I3 hx3, fun c => absurd ?_ c⟩
            · show ¬ stp (dj g w k b) (jo g b) i = 0
              rw [s5]; exact hnz
            · show qg (dj g w k b) (jo g b) i 2 = (sv (dj g w k b) (jo g b) * 1000) / stp (dj g w k b) (jo g b) i
              rw [s5, s9, sg]; rfl
      exact key 3 0 rfl I 0 rfl hx
  · -- refused
    have c : ¬ jag g w b = 0 := fun q => c (jag_le.mpr q)
    have eG := er_trans eF (jf3_er (r := jo g b) c)
    refine x7_record hx hF hk0 (e := 0) rfl (q := 2) rfl (by decide) ?_
    rw [c2]
    refine ⟨fun _ => ?_, fun cc => absurd (by unfold jre; rw [if_neg c]) cc⟩
    refine x7_count hx (q := 9) rfl (by decide) ⟨fun _ => ?_, fun cc => absurd (by show jrs g w b rf = _; unfold jrs; rw [if_neg c]) cc⟩
    have c' := c
    rw [hag] at c'
    unfold agn at c'
    refine ⟨fun k0 => ?_, fun k0 => ⟨fun k1 => ?_, fun k1 => ?_⟩⟩
    · rw [if_pos k0] at c'
      by_cases cc : ovc (jf2 g w b) (jo g b) 3 ≤ 0
      · rw [if_pos cc] at c'; exact absurd rfl c'
      · refine ⟨fun _ => ?_, fun q => absurd (by rw [hag]; unfold agn; rw [if_pos k0, if_neg cc]) q⟩
        refine x7_rosette hx hF j2 rfl (q := 10) rfl (by decide) fun I2 hx2 => ⟨fun q => absurd ?_ cc, fun _ => h I2 hx2⟩
        have q : ovc (dj g w k b) (jo g b) 3 ≤ 0 := q
        rw [er_ovc eG 3 (by decide)] at q
        exact q
    · rw [if_neg k0, if_pos k1] at c'
      have ea : jag g w b = if qr (jf2 g w b) (jo g b) 8 = 0 then agb (zo (jf2 g w b) (jo g b)) else 4 := by rw [hag]; unfold agn; rw [if_neg k0, if_pos k1]
      by_cases cc : qr (jf2 g w b) (jo g b) 8 = 0
      · rw [if_pos cc] at c' ea
        refine ⟨fun _ => h I hx, fun q => absurd ?_ q⟩
        rw [ea]
        unfold agb at c' ⊢
        split
        · rfl
        · rename_i q2; rw [if_neg q2] at c'; exact absurd rfl c'
      · rw [if_neg cc] at ea
        refine ⟨fun q => absurd (ea.symm.trans q) (by decide), fun _ => ⟨fun _ => ?_, fun q => absurd ea q⟩⟩
        refine x7_rosette hx hF j2 rfl (q := 8) rfl (by decide) fun I2 hx2 => ⟨fun _ => h I2 hx2, fun q => absurd ?_ q⟩
        show qr (dj g w k b) (jo g b) 8 = 1
        rw [eG.1 8 (by decide)]
        exact (q01 hgm2.2.1).2.resolve_left cc
    · have ea : jag g w b = agc (ob (jf2 g w b) (jo g b)) (sz (jf2 g w b) (jo g b)) := by rw [hag]; unfold agn; rw [if_neg k0, if_neg k1]
      refine ⟨fun _ => h I hx, fun q2 => ⟨fun _ => h I hx, fun q5 => absurd ?_ c⟩⟩
      rw [ea] at q2 q5 ⊢
      unfold agc at q2 q5 ⊢
      split
      · rename_i z; rw [if_pos z] at q2; exact absurd rfl q2
      · rename_i z
        rw [if_neg z] at q5
        split
        · rename_i z2; rw [if_pos z2] at q5; exact absurd rfl q5
        · rfl
end DI
