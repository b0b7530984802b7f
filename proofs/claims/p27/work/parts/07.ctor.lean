/-! MAKING. A constructor at cell a, when the cells 0..a are there: the cells come one behind the other, at gx_ad L 0 + number. -/
def gx_lin (L : gx_L) : Prop := (∀ a, gx_ad L a = gx_ad L 0 + a) ∧ ∀ q, gx_A L q ↔ gx_ad L 0 ≤ q
theorem gx_lin.ok {L : gx_L} (h : gx_lin L) (N : Nat) : gx_ok L N := by
  refine ⟨fun a b _ _ e => ?_, fun a _ => ?_⟩
  · rw [h.1 a, h.1 b] at e
    omega
  · rw [h.2, h.1 a]
    omega
def gx_UK (L : gx_L) (N : Nat) (cell : Nat → va_E) (U : State) : Prop :=
  gx_U L N cell U ∧ gx_lin L ∧ U.heap.size = gx_ad L N ∧ va_AO RX4 U ∧ va_AO RX6 U
def gx_CK (L : gx_L) (N0 : Nat) (p : Program) (s : State) (m : MethodId) (args : Array Value) (meth : Method) (c : Code) (own : String) (cc : ByteArray) (n : Nat) (r : Option FieldType) : Prop :=
  (∀ N, gx_C L N p s m args meth c own cc n r) ∧ gx_lin L ∧ s.heap.size = gx_ad L N0 ∧ va_AO RX4 s ∧ va_AO RX6 s ∧ (own ≠ "RosetteGantryLaw" → meth.name = "<init>")
/-- cells below a as they were, then own, then as they will be -/
def gx_cs (cell fin : Nat → va_E) (a : Nat) (own : List va_E) : Nat → va_E := fun b => if b < a then cell b else (own[b - a]?).getD (fin b)
theorem gx_ws_congr {L : gx_L} {N : Nat} {c1 c2 : Nat → va_E} (h : ∀ b, b < N → c1 b = c2 b) : gx_ws L N c1 = gx_ws L N c2 := by
  unfold gx_ws
  exact List.map_congr_left fun b hb => by rw [h b (List.mem_range.mp hb)]
theorem gx_S_re {L : gx_L} {N : Nat} {c1 c2 : Nat → va_E} {H0 H : Heap} {locs : List Loc} (hM : gx_S L N c1 H0 H locs) (h : ∀ b, b < N → c1 b = c2 b) : gx_S L N c2 H0 H locs := ⟨by rw [← gx_ws_congr h]; exact hM.1, hM.2⟩
/-- a zero array that is as it will be -/
theorem gx_cs_fin {cell fin : Nat → va_E} {a N : Nat} {own : List va_E} {e : va_E} (ha : a + own.length ≤ N) (he : fin N = e) : ∀ b, b < N + 1 → (if b = N then e else gx_cs cell fin a own b) = gx_cs cell fin a own b := by
  intro b hb
  by_cases h : b = N
  · subst h
    rw [if_pos rfl]
    unfold gx_cs
    rw [if_neg (by omega), List.getElem?_eq_none (by omega), ← he]
    rfl
  · rw [if_neg h]
theorem gx_cs_own {cell fin : Nat → va_E} {a N : Nat} {own : List va_E} {e : va_E} (ha : a + own.length = N) : ∀ b, b < N + 1 → (if b = N then e else gx_cs cell fin a own b) = gx_cs cell fin a (own ++ [e]) b := by
  intro b hb
  by_cases h : b = N
  · subst h
    rw [if_pos rfl]
    unfold gx_cs
    rw [if_neg (by omega), List.getElem?_append_right (by omega), show b - a - own.length = 0 by omega]
    rfl
  · rw [if_neg h]
    unfold gx_cs
    by_cases h2 : b < a
    · rw [if_pos h2, if_pos h2]
    · rw [if_neg h2, if_neg h2, List.getElem?_append_left (by omega)]
theorem gx_cs_new {cell fin : Nat → va_E} {N : Nat} {e : va_E} : ∀ b, b < N + 1 → (if b = N then e else cell b) = gx_cs cell fin N [e] b := by
  intro b hb
  by_cases h : b = N
  · subst h
    rw [if_pos rfl]
    unfold gx_cs
    rw [if_neg (by omega), show b - b = 0 by omega]
    rfl
  · rw [if_neg h]
    unfold gx_cs
    rw [if_pos (by omega)]
theorem gx_cs_back {cell fin : Nat → va_E} {a n N : Nat} {own : List va_E} (ha : a + own.length ≤ n) : ∀ b, b < N → gx_cs (gx_cs cell fin a own) fin n [] b = gx_cs cell fin a own b := by
  intro b _
  unfold gx_cs
  by_cases h : b < n
  · rw [if_pos h]
  · rw [if_neg h, if_neg (by omega), List.getElem?_eq_none (by simp), List.getElem?_eq_none (by omega)]
theorem gx_cs_end {cell fin : Nat → va_E} {a N : Nat} {own : List va_E} (h : ∀ i e, own[i]? = some e → fin (a + i) = e) : ∀ b, b < N → gx_cs cell fin a own b = gx_cs cell fin a [] b := by
  intro b _
  unfold gx_cs
  by_cases h1 : b < a
  · rw [if_pos h1, if_pos h1]
  · rw [if_neg h1, if_neg h1]
    cases h2 : own[b - a]? with
    | none => simp
    | some e =>
      have h3 := h _ _ h2
      rw [show a + (b - a) = b by omega] at h3
      simp [h3]
theorem gx_cs_at {cell fin : Nat → va_E} {a i : Nat} {own : List va_E} {e : va_E} (h : own[i]? = some e) : gx_cs cell fin a own (a + i) = e := by
  unfold gx_cs
  rw [if_neg (by omega), show a + i - a = i by omega, h]
  rfl
theorem gx_cs_set {cell fin : Nat → va_E} {a i : Nat} {own : List va_E} {e : va_E} (hi : i < own.length) : gx_cs cell fin a (own.set i e) (a + i) = e ∧ ∀ b, b ≠ a + i → gx_cs cell fin a (own.set i e) b = gx_cs cell fin a own b := by
  refine ⟨gx_cs_at (List.getElem?_set_self hi), fun b hb => ?_⟩
  unfold gx_cs
  by_cases h : b < a
  · rw [if_pos h, if_pos h]
  · rw [if_neg h, if_neg h, List.getElem?_set_ne (by omega)]
section GK
variable {p : Program} {l : Launch} {e : Env} {R : Room} {s : State} {m : MethodId} {args : Array Value} {below : List Frame} {meth : Method} {c : Code} {H : Heap} {locs : List Loc} {cells slots : Nat} {Q : State → Prop}
variable {L : gx_L} {N0 N n : Nat} {cell cell' : Nat → va_E} {own : String} {cc : ByteArray} {ret : Option FieldType} {pc : Nat} {ls : Array Slot} {rest : List Value} {a : Nat}
theorem gk_sz {g : JFrame} (k : H.size ≤ s.heap.size + cells → W p l e R s m args below meth c H locs cells slots Q g) : W p l e R s m args below meth c H locs cells slots Q g := by
  intro T hT X
  refine k ?_ T hT X
  have h := X.same.2.2.1
  rw [← hT]
  exact h
/-- a fresh cell lies behind all others -/
theorem gk_fresh (hL : gx_lin L) (h0 : s.heap.size = gx_ad L N0) (hN : N = N0 + cells) {q : Nat} {x : va_E} {H1 : Heap} (hP : va_P (gx_D L) gx_cls (gx_ws L N cell ++ [(q, x)]) H1) (hD : va_D (gx_A L) (gx_ws L N cell ++ [(q, x)])) (hz : H1.size ≤ s.heap.size + (cells + 1)) :
    q = gx_ad L N ∧ va_P (gx_D L) gx_cls (gx_ws L (N + 1) (fun b => if b = N then x else cell b)) H1 := by
  have hlen : (gx_ws L N cell).length = N := by simp [gx_ws]
  have hlast : (gx_ws L N cell ++ [(q, x)])[N]? = some (q, x) := by
    rw [List.getElem?_append_right (by omega), hlen, Nat.sub_self]
    rfl
  have h1 : q < H1.size := (hP N _ hlast).lt
  have h2 : gx_ad L 0 ≤ q := (hL.2 q).mp (hD.2 N _ hlast)
  have h3 : ∀ a, a < N → gx_ad L a ≠ q := by
    intro a ha e
    have h4 : (gx_ws L N cell ++ [(q, x)])[a]? = some (gx_ad L a, cell a) := by
      rw [List.getElem?_append_left (by omega), gx_ws_get ha]
    have h5 := hD.1 a N _ _ h4 hlast e
    omega
  have h6 : gx_ad L N0 = gx_ad L 0 + N0 := hL.1 N0
  have hq : q = gx_ad L N := by
    rw [hL.1 N]
    refine Nat.le_antisymm (by omega) (Nat.not_lt.mp fun h7 => ?_)
    refine h3 (q - gx_ad L 0) (by omega) ?_
    rw [hL.1]
    omega
  refine ⟨hq, ?_⟩
  have e1 : gx_ws L N cell ++ [(q, x)] = gx_ws L (N + 1) (fun b => if b = N then x else cell b) := by
    have e2 : gx_ws L N cell = gx_ws L N (fun b => if b = N then x else cell b) := gx_ws_congr fun b hb => by rw [if_neg (by omega)]
    rw [e2]
    unfold gx_ws
    rw [List.range_succ, List.map_append]
    simp [hq]
  rw [← e1]
  exact hP
theorem gk_new (K : gx_CK L N0 p s m args meth c own cc n ret) (hM : gx_S L N cell s.heap H locs) (hN : N = N0 + cells) {ci : Nat} {fs : List Value} {Cn : String} {T : u_T} {Nf : Nat} (hcl : gx_cls[ci]? = some (Cn, T, Nf)) (hin : ∀ w ∈ u_ws Cn T Nf, w ∈ gx_T) (ty : Nat → FieldType) (hty : ∀ k, k < Nf → parseFieldDescriptor (T k).2.2.1 = some (ty k)) {index : Nat}
    (h1 : Cond.classLink own index Cn ∈ gx_T) (h2 : Cond.instantiable Cn Nf ∈ gx_T) (h3 : Cond.initialized Cn ∈ gx_T) (hfs : ∀ j, j < Nf → defaultValue (ty j) = vp_V fs j) (hcells : cells + 1 ≤ R.cells) (hslots : slots + Nf ≤ R.slots) (hdg : decode cc pc = .ok (.new index, 3))
    (kk : ∀ H : Heap, gx_S L (N + 1) (fun b => if b = N then .inr (ci, fs) else cell b) s.heap H locs → W p l e R s m args below meth c H locs (cells + 1) (slots + Nf) Q (F0 m (pc + 3) ls (.ref (gx_ad L N) :: rest))) : W p l e R s m args below meth c H locs cells slots Q (F0 m pc ls rest) := by
  obtain ⟨hC, hL, h0, -, -, -⟩ := K
  obtain ⟨hx, hb, -, -, -, hown, hts, hK, -, hok, hNw⟩ := hC N
  refine va_new hx hb hts hin ty hty hown (hts _ h1) (hts _ h2) (hts _ h3) hK hM.1 (gx_ws_D hok cell) hM.2 (fun q hq => (hL.2 q).mpr ?_) hcl hfs hcells hslots hdg fun q H1 hP hD hS => ?_
  · rw [h0, hL.1 N0] at hq
    omega
  · refine gk_sz fun hz => ?_
    obtain ⟨e1, hP1⟩ := gk_fresh hL h0 hN hP hD hz
    rw [e1]
    exact kk H1 ⟨hP1, hS⟩
theorem gk_newa (K : gx_CK L N0 p s m args meth c own cc n ret) (hM : gx_S L N cell s.heap H locs) (hN : N = N0 + cells) {atype : ArrayType} {ty : FieldType} {cA0 : ClassId} (hw : Cond.arrayClass (newarray.typeOf atype) ∈ gx_T) (hty : newarray.typeOf atype = ty) (t : Nat) (ht : (gx_tys L)[t]? = some (cA0, ty)) (hd : defaultValue ty = .int 0 ∧ ∀ C, ty ≠ .object C)
    {k : Int32} {N' : Nat} (hn : ¬ k < 0) (hk : k.toNatClampNeg = N') (hbytes : N' * componentBytes ty ≤ 536870912) (hcells : cells + 1 ≤ R.cells) (hslots : slots + N' ≤ R.slots) (hdg : decode cc pc = .ok (.newarray atype, 2))
    (kk : ∀ H : Heap, gx_S L (N + 1) (fun b => if b = N then .inl (cA0, N', .inl (fun _ => 0)) else cell b) s.heap H locs → W p l e R s m args below meth c H locs (cells + 1) (slots + N') Q (F0 m (pc + 2) ls (.ref (gx_ad L N) :: rest))) : W p l e R s m args below meth c H locs cells slots Q (F0 m pc ls (.int k :: rest)) := by
  obtain ⟨hC, hL, h0, -, -, -⟩ := K
  obtain ⟨hx, hb, -, -, -, hown, hts, hK, -, hok, hNw⟩ := hC N
  refine va_newa (a0 := (N', .inl (fun _ => 0))) hx hb (hts _ hw) hty hK hM.1 (gx_ws_D hok cell) hM.2 (fun q hq => (hL.2 q).mpr ?_) (fun cA => ?_) hn hk hbytes hcells hslots hdg fun q cA H1 hK1 hP hD hS => ?_
  · rw [h0, hL.1 N0] at hq
    omega
  · rw [hd.1]
    exact vp_cell_i _ _ _
  · have e2 : cA = cA0 := by
      have g1 := (hK1.2 4 (cA, ty) rfl).2
      have g2 := (hK.2 t _ ht).2
      have g3 : s.vm.findClass ("[" ++ ty.toString) = some cA := by
        revert g1; cases ty <;> intro g1 <;> first | exact g1 | exact absurd rfl (hd.2 _)
      have g4 : s.vm.findClass ("[" ++ ty.toString) = some cA0 := by
        revert g2; cases ty <;> intro g2 <;> first | exact g2 | exact absurd rfl (hd.2 _)
      exact Option.some.inj (g3.symm.trans g4)
    refine gk_sz fun hz => ?_
    obtain ⟨e1, hP1⟩ := gk_fresh hL h0 hN hP hD hz
    rw [e1]
    rw [e2] at hP1
    exact kk H1 ⟨hP1, hS⟩
theorem gk_newq (K : gx_CK L N0 p s m args meth c own cc n ret) (hM : gx_S L N cell s.heap H locs) (hN : N = N0 + cells) {Cn : String} {cA0 : ClassId} {index : Nat} (hw : Cond.classLink own index Cn ∈ gx_T) (hC1 : Cn = RX4 ∨ Cn = RX6) (t : Nat) (ht : (gx_tys L)[t]? = some (cA0, .object Cn))
    {k : Int32} {N' : Nat} (hn : ¬ k < 0) (hk : k.toNatClampNeg = N') (hbytes : N' * 4 ≤ 536870912) (hcells : cells + 1 ≤ R.cells) (hslots : slots + N' ≤ R.slots) (hdg : decode cc pc = .ok (.anewarray index, 3))
    (kk : ∀ H : Heap, gx_S L (N + 1) (fun b => if b = N then .inl (cA0, N', .inr (.inr (.inr (.inr (fun _ => none))))) else cell b) s.heap H locs → W p l e R s m args below meth c H locs (cells + 1) (slots + N') Q (F0 m (pc + 3) ls (.ref (gx_ad L N) :: rest))) : W p l e R s m args below meth c H locs cells slots Q (F0 m pc ls (.int k :: rest)) := by
  obtain ⟨hC, hL, h0, ho4, ho6, -⟩ := K
  obtain ⟨hx, hb, -, -, -, hown, hts, hK, -, hok, hNw⟩ := hC N
  refine va_newq hx hb hown (hts _ hw) (by rcases hC1 with rfl | rfl <;> assumption) hK hM.1 (gx_ws_D hok cell) hM.2 (fun q hq => (hL.2 q).mpr ?_) hn hk hbytes hcells hslots hdg fun q cA H1 hK1 hP hD hS => ?_
  · rw [h0, hL.1 N0] at hq
    omega
  · have e2 : cA = cA0 := by
      obtain ⟨_, _, _, _, _, g1⟩ := (hK1.2 4 (cA, .object Cn) rfl).2
      obtain ⟨_, _, _, _, _, g2⟩ := (hK.2 t _ ht).2
      exact Option.some.inj (g1.symm.trans g2)
    refine gk_sz fun hz => ?_
    obtain ⟨e1, hP1⟩ := gk_fresh hL h0 hN hP hD hz
    rw [e1]
    rw [e2] at hP1
    exact kk H1 ⟨hP1, hS⟩
theorem gk_putF (K : gx_CK L N0 p s m args meth c own cc n ret) (hM : gx_S L N cell s.heap H locs) (ha : a < N) {ci : Nat} {fs : List Value} {Cn : String} {T : u_T} {Nf : Nat} (hc : cell a = .inr (ci, fs)) (hcl : gx_cls[ci]? = some (Cn, T, Nf)) (hin : ∀ w ∈ u_ws Cn T Nf, w ∈ gx_T) (ty0 : Nat → FieldType) (hty : ∀ k, k < Nf → parseFieldDescriptor (T k).2.2.1 = some (ty0 k)) (hnm : ∀ a, a < Nf → ∀ b, b < Nf → a ≠ b → (T a).2.1 ≠ (T b).2.1) (k : Nat) (hk : k < Nf) {index : Nat}
    (hl : Cond.fieldLink own index (T k).1 (T k).2.1 (T k).2.2.1 ∈ gx_T) (hfin : (T k).2.2.2 = true) (hdecl : (T k).1 = own) {v : Value} (hn : narrow (ty0 k) v = v) (hfit : fits (ty0 k) v = true) (hlen : k < fs.length) (hc' : cell' a = .inr (ci, fs.set k v)) (ho : ∀ b, b ≠ a → cell' b = cell b) (hdg : decode cc pc = .ok (.putfield index, 3))
    (kk : ∀ (H : Heap) (locs : List Loc), gx_S L N cell' s.heap H locs → W p l e R s m args below meth c H locs cells slots Q (F0 m (pc + 3) ls rest)) (hne : own ≠ "RosetteGantryLaw" := by decide +kernel) : W p l e R s m args below meth c H locs cells slots Q (F0 m pc ls (v :: .ref (gx_ad L a) :: rest)) := by
  obtain ⟨hC, hL, h0, -, -, hnam⟩ := K
  have hnam := hnam hne
  obtain ⟨hx, hb, -, -, -, hown, hts, hK, -, hok, hNw⟩ := hC N
  refine va_putF hx hb hts hin ty0 hty hnm hown hK hM.1 (gx_ws_D hok cell) hM.2 a (by rw [gx_ws_get ha, hc]) hcl k hk (hts _ hl) (fun _ h => h) hfin hnam hdecl (hty k hk) hn hfit hlen hdg fun H1 locs1 hP hD hS => ?_
  rw [gx_ws_set hc' ho] at hP
  exact kk H1 locs1 ⟨hP, hS⟩
theorem gk_obj (K : gx_CK L N0 p s m args meth c own cc n ret) {idx : Nat} (h1 : Cond.methodLink own idx objectInit ∈ gx_T) (h2 : Cond.instanceMethod objectInit ∈ gx_T) (h3 : Cond.code objectInit ⟨#[0xb1]⟩ 1 none ∈ gx_T) (hls : ls.size = n) {b : Nat} (hr1 : 1 ≤ R.frames) (hr2 : (rest.map fun v => v.category).sum + 12 ≤ R.locals) (hdg : decode cc pc = .ok (.invokespecial idx, 3))
    (kk : W p l e R s m args below meth c H locs cells slots Q (F0 m (pc + 3) ls rest)) : W p l e R s m args below meth c H locs cells slots Q (F0 m pc ls (.ref b :: rest)) := by
  obtain ⟨hC, hL, h0, -, -, hnam⟩ := K
  obtain ⟨hx, hb, -, -, hml, hown, hts, hK, -, hok, hNw⟩ := hC 0
  exact W.objInit hx hb hown (hts _ h1) (hts _ h2) (hts _ h3) rfl (by rw [hml]; exact hls) rfl hdg hr1 (by show 2 * 0 + _ + 12 ≤ _; omega) kk
theorem gx_UK_of (K : gx_CK L N0 p s m args meth c own cc n ret) (hM : gx_S L N cell s.heap H locs) (hsz : H.size = gx_ad L N) {U : State} (hU : U.heap = H) (hW : s.WarmedH U.vm) : gx_UK L N cell U :=
  ⟨gx_U_of (K.1 N) hM hU hW, K.2.1, by rw [hU]; exact hsz, va_AO.moved hW.alike K.2.2.2.1, va_AO.moved hW.alike K.2.2.2.2.1⟩
theorem gx_UK_blind {As : List Value} : FrameBlind (va_Pc As (gx_UK L N cell)) := by
  intro a U g mk q
  obtain ⟨q1, q2, q3, q4, q5, q6⟩ := q
  exact ⟨q1, (gx_U_blind (As := As) a U g mk ⟨q1, q2⟩).2, q3, q4, va_AO.moved (u := U) (U := U.calling g mk a) (Vm.Alike.refl U.vm) q5, va_AO.moved (u := U) (U := U.calling g mk a) (Vm.Alike.refl U.vm) q6⟩
/-- the heap's size at a known number of cells -/
theorem gk_size (K : gx_CK L N0 p s m args meth c own cc n ret) (hM : gx_S L (N + 1) cell s.heap H locs) (hN : N + 1 = N0 + cells) {g : JFrame} (k : H.size = gx_ad L (N + 1) → W p l e R s m args below meth c H locs cells slots Q g) : W p l e R s m args below meth c H locs cells slots Q g := by
  refine gk_sz fun hz => k ?_
  have hL := K.2.1
  have h1 : gx_ad L N < H.size := (hM.1 N _ (gx_ws_get (Nat.lt_succ_self N))).lt
  have h2 := hL.1 N
  have h3 := hL.1 (N + 1)
  have h4 := hL.1 N0
  have h5 := K.2.2.1
  omega
/-- a constructor's call -/
theorem gk_call (K : gx_CK L N0 p s m args meth c own cc n ret) {b : Nat} (hM : gx_S L (b + 1) cell s.heap H locs) (hN : b + 1 = N0 + cells) {y : MethodName} {bytes : ByteArray} {maxL k index mc ms : Nat} {rm : Room} {As st0 : List Value}
    (hY : Met l y (gx_w y bytes maxL none) rm (va_Pc (.ref (gx_ad L b) :: As) (gx_UK L (b + 1) cell)) (va_Qv (fun _ : Unit => True) (fun _ t => gx_UK L (b + 1 + mc) cell' t) (gx_A L)) mc ms (gx_A L)) (hk : gx_k y bytes maxL none k) (hinit : y.name = "<init>") (hi : Cond.instanceMethod y ∈ gx_T) (hl : Cond.methodLink own index y ∈ gx_T ∨ ∃ host, Cond.methodLinkNest own index y host ∈ gx_nw) (hn : As.length = k) (hls : ls.size = n) (hst : st0 = As.reverse ++ .ref (gx_ad L b) :: rest) (hsum : (rest.map fun v => v.category).sum ≤ 8)
    (hr : (rm.cells = mc ∧ rm.slots = ms) ∧ rm.frames + 1 ≤ R.frames ∧ 8 + (maxL + 11) + rm.locals ≤ R.locals) (hf : cells + mc ≤ R.cells ∧ slots + ms ≤ R.slots) (hdg : decode cc pc = .ok (.invokespecial index, 3))
    (kk : ∀ (H : Heap) (locs : List Loc), gx_S L (b + 1 + mc) cell' s.heap H locs → W p l e R s m args below meth c H locs (cells + mc) (slots + ms) Q (F0 m (pc + 3) ls rest)) : W p l e R s m args below meth c H locs cells slots Q (F0 m pc ls st0) := by
  refine gk_size K hM hN fun hsz => ?_
  have K0 := K
  obtain ⟨hC, hL, h0, -, -, hnam⟩ := K0
  obtain ⟨hx, hb, -, -, hml, hown, hts, hK, -, hok, hNw⟩ := hC (b + 1)
  obtain ⟨k1, k2, k3⟩ := hk
  have hrun : va_Run p l e R s m args below meth c H locs cells slots mc ms (F0 m pc ls st0) rest (va_Qv (fun _ : Unit => True) (fun _ t => gx_UK L (b + 1 + mc) cell' t) (gx_A L) (Value.ref (gx_ad L b) :: As).toArray) (gx_A L) := by
    rcases hl with hl | ⟨host, hl⟩
    · exact va_runI (Ts := gx_T) (As := As) (rest := rest) ⟨hx, hb, hml, hown, hts⟩ hY ⟨callB_of k hts (gx_GI k1) rfl hr.1.1 hr.1.2 (hts _ k2) (hts _ hl) k3 hr.2, hinit, hts _ hi⟩ ⟨gx_UK_blind, fun U hU hW => ⟨rfl, gx_UK_of K hM hsz hU hW⟩⟩ rfl hn hls hst (lv_room hsum) hdg hf
    · exact va_runIN (Ts := gx_T) (As := As) (rest := rest) (host := host) ⟨hx, hb, hml, hown, hts⟩ hY ⟨va_cnB (ret := none) k hts (gx_GI k1) rfl hr.1.1 hr.1.2 (hNw _ hl) (hts _ k2) k3 hr.2, hinit, hts _ hi⟩ ⟨gx_UK_blind, fun U hU hW => ⟨rfl, gx_UK_of K hM hsz hU hW⟩⟩ rfl hn hls hst (lv_room hsum) hdg hf
  refine va_callv hrun hM.2 (fun _ _ h => h) (fun _ h => h) fun u t H1 locs1 ht hvm hp hB hz hk1 hS => ?_
  exact kk H1 locs1 ⟨by rw [← ht]; exact hB.1.1, hS⟩
theorem gk_vret (K : gx_CK L N0 p s m args meth c own cc n none) (hM : gx_S L (N + 1) cell s.heap H locs) (hN : N + 1 = N0 + cells) (hdg : decode cc pc = .ok (.return_, 1)) :
    W p l e R s m args below meth c H locs cells slots (MQ below (va_Qv (fun _ : Unit => True) (fun _ t => gx_UK L (N + 1) cell t) (gx_A L)) args s cells slots (gx_A L)) (F0 m pc ls []) := by
  refine gk_size K hM hN fun hsz => ?_
  have K0 := K
  obtain ⟨hC, hL, h0, -, -, hnam⟩ := K0
  obtain ⟨hx, hb, hr, hlk, hml, hown, hts, hK, -, hok, hNw⟩ := hC 0
  exact W.vret hx hb hr (fun t ht hW => ⟨⟨(), rfl, trivial, gx_UK_of K hM hsz ht hW⟩, hM.2.F ht⟩) hM.2.2.2 hdg hlk
theorem gk_enter {y : MethodName} {bytes : ByteArray} {maxL mc ms : Nat} {rm : Room} {As : List Value} {Qc : Array Value → State → Outcome → State → Prop} (hy : plainName y.cls = true) (hyn : y.name = "<init>") (hlen : (lg_sl As).length ≤ maxL)
    (body : ∀ (p : Program) (e : Env) (s : State) (m : MethodId) (below : List Frame) (meth : Method) (c : Code) (ls : Array Slot), gx_CK L N p s m As.toArray meth c y.cls bytes maxL none → gx_S L N cell s.heap s.heap [] → lv_has ls maxL (lv_args 0 As) →
      W p l e rm s m As.toArray below meth c s.heap [] 0 0 (MQ below Qc As.toArray s mc ms (gx_A L)) (F0 m 0 ls [])) :
    Met l y (gx_w y bytes maxL none) rm (va_Pc As (gx_UK L N cell)) Qc mc ms (gx_A L) := by
  refine Met.ofW (cc := bytes) (maxL := maxL) (ret := none) hy rfl ?_
  intro p e s m args below meth c s₁ B hml hv
  obtain ⟨rfl, ⟨hP, hK, hZ, hok, hN⟩, hL, hsz, o4, o6⟩ := hv
  have hts := atoms_spec (ws := gx_w y bytes maxL none) B.pre
  have hown : s.vm.findClass y.cls = some m.cls := findClass_of_methodNamed B.named
  have hl := lv_entry As (n := maxL) hlen
  rw [lg_entry_eq]
  exact body p e s m below meth c _ ⟨fun N => ⟨B.exec, B.bytes, B.returns, B.notSynchronized, hml, hown, fun w hw => hts w (List.mem_cons_of_mem _ hw), hK, hZ, hL.ok N, hN⟩, hL, hsz, o4, o6, fun _ => by rw [(name_of_methodNamed B.named B.method).1]; exact hyn⟩ ⟨hP, va_S.rf⟩ hl
end GK
