/-! THE ENGINE. One store for all cells of a system: a system's cells have numbers 0..N-1 (ids), cell a lies at gx_ad L a; what it holds is cell a : va_E. Rows of the kit over it. -/
abbrev gx_cls : List vw_C := [(RX0, TX0, 2), (RX1, TX1, 4), (RX2, TX2, 15), (RX3, TX3, 4), (RX4, TX4, 12), (RX5, TX5, 2), (RX6, TX6, 10), (RX7, TX7, 8)]
def gx_T : List Cond := lw_tbl.filter goodWord
theorem gx_in {w : Cond} (i : Nat) (h : lw_tbl[i]? = some w) (hg : goodWord w = true) : w ∈ gx_T := List.mem_filter.mpr ⟨List.mem_of_getElem? h, hg⟩
theorem gx_good : gx_T.all goodWord = true := List.all_eq_true.mpr fun _ h => (List.mem_filter.mp h).2
def gx_w (y : MethodName) (cc : ByteArray) (n : Nat) (r : Option FieldType) : List Cond := Cond.code y cc n r :: gx_T
theorem gx_GI {y : MethodName} {cc : ByteArray} {n : Nat} {r : Option FieldType} (h : Cond.code y cc n r ∈ gx_T) : GoodIn gx_T (gx_w y cc n r) := by
  intro w hw
  have hw2 : w ∈ gx_T := by
    rcases List.mem_cons.mp hw with e | e
    · rw [e]; exact h
    · exact e
  exact ⟨hw2, good_of_word (List.all_eq_true.mp gx_good _ hw2)⟩
/-- a layout: the tables' classes and slots; where the cells lie; the addresses that are the system's own; the array classes; the two tables -/
abbrev gx_L : Type := va_G × (Nat → Nat) × (Nat → Prop) × (ClassId × ClassId × ClassId × ClassId × ClassId) × Nat × Nat
def gx_D (L : gx_L) : va_G := L.1
def gx_ad (L : gx_L) (a : Nat) : Nat := L.2.1 a
def gx_A (L : gx_L) : Nat → Prop := L.2.2.1
def gx_cI (L : gx_L) : ClassId := L.2.2.2.1.1
def gx_cZ (L : gx_L) : ClassId := L.2.2.2.1.2.1
def gx_cC (L : gx_L) : ClassId := L.2.2.2.1.2.2.1
def gx_cR (L : gx_L) : ClassId := L.2.2.2.1.2.2.2.1
def gx_cS (L : gx_L) : ClassId := L.2.2.2.1.2.2.2.2
def gx_tC (L : gx_L) : Nat := L.2.2.2.2.1
def gx_tS (L : gx_L) : Nat := L.2.2.2.2.2
def gx_ok (L : gx_L) (N : Nat) : Prop := (∀ a b, a < N → b < N → gx_ad L a = gx_ad L b → a = b) ∧ ∀ a, a < N → gx_A L (gx_ad L a)
abbrev gx_tys (L : gx_L) : List (ClassId × FieldType) := [(gx_cI L, .int), (gx_cZ L, .boolean), (gx_cR L, .object RX4), (gx_cS L, .object RX6)]
def gx_ws (L : gx_L) (N : Nat) (cell : Nat → va_E) : va_W := (List.range N).map (fun a => (gx_ad L a, cell a))
theorem gx_ws_get {L : gx_L} {N : Nat} {cell : Nat → va_E} {a : Nat} (h : a < N) : (gx_ws L N cell)[a]? = some (gx_ad L a, cell a) := by
  simp [gx_ws, h]
theorem gx_ws_of {L : gx_L} {N : Nat} {cell : Nat → va_E} {k : Nat} {q : Nat × va_E} (h : (gx_ws L N cell)[k]? = some q) : k < N ∧ q = (gx_ad L k, cell k) := by
  have hk : k < N := by
    have := (List.getElem?_eq_some_iff.mp h).1
    simpa [gx_ws] using this
  rw [gx_ws_get hk] at h
  exact ⟨hk, (Option.some.inj h).symm⟩
theorem gx_ws_set {L : gx_L} {N : Nat} {cell cell' : Nat → va_E} {a : Nat} {e : va_E} (he : cell' a = e) (h : ∀ b, b ≠ a → cell' b = cell b) : (gx_ws L N cell).set a (gx_ad L a, e) = gx_ws L N cell' := by
  apply List.ext_getElem?
  intro i
  by_cases hi : i < N
  · rw [gx_ws_get hi]
    by_cases hia : i = a
    · subst hia
      rw [List.getElem?_set_self (by simpa [gx_ws] using hi), he]
    · rw [List.getElem?_set_ne (fun q => hia q.symm), gx_ws_get hi, h i hia]
  · have h1 : (gx_ws L N cell').length = N := by simp [gx_ws]
    have h2 : ((gx_ws L N cell).set a (gx_ad L a, e)).length = N := by simp [gx_ws]
    rw [List.getElem?_eq_none (by omega), List.getElem?_eq_none (by omega)]
theorem gx_ws_D {L : gx_L} {N : Nat} (h : gx_ok L N) (cell : Nat → va_E) : va_D (gx_A L) (gx_ws L N cell) := by
  refine ⟨fun i j p q hi hj e => ?_, fun k q hk => ?_⟩
  · obtain ⟨h1, rfl⟩ := gx_ws_of hi
    obtain ⟨h2, rfl⟩ := gx_ws_of hj
    exact h.1 i j h1 h2 e
  · obtain ⟨h1, rfl⟩ := gx_ws_of hk
    exact h.2 k h1
def gx_cos : Nat → Int32 := fun j => [10000, 9659, 8660, 7071, 5000, 2588, 0, -2588, -5000, -7071, -8660, -9659, -10000, -9659, -8660, -7071, -5000, -2588, 0, 2588, 5000, 7071, 8660, 9659].getD j 0
def gx_sin : Nat → Int32 := fun j => [0, 2588, 5000, 7071, 8660, 9659, 10000, 9659, 8660, 7071, 5000, 2588, 0, -2588, -5000, -7071, -8660, -9659, -10000, -9659, -8660, -7071, -5000, -2588].getD j 0
/-- the two tables, at their places, as the Statement gives them -/
def gx_Z (L : gx_L) (U : State) (H : Heap) : Prop :=
  va_Z "RosetteGantry" "COSINES" "[I" (.ref (gx_tC L)) (gx_A L) U H ∧ va_T .int (gx_tC L) 24 (fun j => .int (gx_cos j)) (gx_A L) U H ∧
  va_Z "RosetteGantry" "SINES" "[I" (.ref (gx_tS L)) (gx_A L) U H ∧ va_T .int (gx_tS L) 24 (fun j => .int (gx_sin j)) (gx_A L) U H
theorem gx_Z.moved {L : gx_L} {u U : State} {H : Heap} (hvm : u.vm.Alike U.vm) (h : gx_Z L u H) : gx_Z L U H :=
  ⟨va_Z.moved hvm h.1, va_T.moved hvm h.2.1, va_Z.moved hvm h.2.2.1, va_T.moved hvm h.2.2.2⟩
theorem gx_Z.kept {L : gx_L} {U : State} {H H1 : Heap} (h : gx_Z L U H) (hq : ∀ a : Nat, a < H.size → ¬ gx_A L a → H1[a]? = H[a]?) : gx_Z L U H1 :=
  ⟨va_Z.kept h.1 hq, va_T.kept h.2.1 hq, va_Z.kept h.2.2.1 hq, va_T.kept h.2.2.2 hq⟩
/-- the words that a method's contract carries as facts of its state -/
def gx_nw : List Cond := [Cond.methodLinkNest RX6 33 yX4_init "RosetteGantry", Cond.methodLinkNest RX7 28 yX1_init "RosetteGantry", Cond.methodLinkNest RX7 35 yX3_init "RosetteGantry", Cond.methodLinkNest RX7 42 yX2_init "RosetteGantry", Cond.methodLinkNest RX5 25 yX7_isWithin "RosetteGantry", Cond.methodLinkNest RX2 40 yX7_quotient "RosetteGantry", Cond.methodLinkNest RX2 143 yX7_isAround0 "RosetteGantry", Cond.methodLinkNest RX2 88 yX7_isWithin "RosetteGantry", Cond.fieldLinkNest RX2 98 "RosetteGantry" "COSINES" "[I" "RosetteGantry", Cond.fieldLinkNest RX2 104 "RosetteGantry" "SINES" "[I" "RosetteGantry", Cond.methodLinkNest RX1 51 yX7_isWithin "RosetteGantry"]
def gx_N (U : State) : Prop := ∀ w ∈ gx_nw, va_Nw w U
theorem gx_nw_kind : ∀ w ∈ gx_nw, (∃ a i b n d h, w = .fieldLinkNest a i b n d h) ∨ ∃ a i x h, w = .methodLinkNest a i x h := by
  intro w hw
  simp only [gx_nw, List.mem_cons, List.not_mem_nil, or_false] at hw
  rcases hw with rfl | rfl | rfl | rfl | rfl | rfl | rfl | rfl | rfl | rfl | rfl <;> first | exact Or.inl ⟨_, _, _, _, _, _, rfl⟩ | exact Or.inr ⟨_, _, _, _, rfl⟩
theorem gx_N.moved {s U : State} (hW : s.WarmedH U.vm) (h : gx_N s) : gx_N U := by
  intro w hw
  have h0 := h w hw
  rcases gx_nw_kind w hw with ⟨_, _, _, _, _, _, rfl⟩ | ⟨_, _, _, _, rfl⟩
  · exact va_Nw.warmF hW h0
  · exact va_Nw.warmM hW h0
theorem gx_N.same {s U : State} (hv : s.vm = U.vm) (h : gx_N s) : gx_N U := by
  intro w hw
  have h0 := h w hw
  rcases gx_nw_kind w hw with ⟨_, _, _, _, _, _, rfl⟩ | ⟨_, _, _, _, rfl⟩ <;> exact va_Nw.same rfl hv h0
/-- a state whose heap holds the system -/
def gx_U (L : gx_L) (N : Nat) (cell : Nat → va_E) (U : State) : Prop :=
  va_P (gx_D L) gx_cls (gx_ws L N cell) U.heap ∧ va_K (gx_D L) gx_cls (gx_tys L) U ∧ gx_Z L U U.heap ∧ gx_ok L N ∧ gx_N U
/-- a heap on the way of a method that began with H0 -/
def gx_S (L : gx_L) (N : Nat) (cell : Nat → va_E) (H0 H : Heap) (locs : List Loc) : Prop :=
  va_P (gx_D L) gx_cls (gx_ws L N cell) H ∧ va_S (gx_A L) H0 H locs
/-- what a method's body stands on -/
def gx_C (L : gx_L) (N : Nat) (p : Program) (s : State) (m : MethodId) (args : Array Value) (meth : Method) (c : Code) (own : String) (cc : ByteArray) (n : Nat) (r : Option FieldType) : Prop :=
  p.tables.exec = Jvm.exec ∧ c.code = cc ∧ meth.sig.returnType = r ∧ meth.locks = false ∧ c.maxLocals = n ∧ s.vm.findClass own = some m.cls ∧ (∀ w ∈ gx_T, w.before args s = true) ∧ va_K (gx_D L) gx_cls (gx_tys L) s ∧ gx_Z L s s.heap ∧ gx_ok L N ∧ gx_N s
theorem gx_U_blind {L : gx_L} {N : Nat} {cell : Nat → va_E} {As : List Value} : FrameBlind (va_Pc As (gx_U L N cell)) := by
  intro a U g mk q
  obtain ⟨q1, q2, q3, q4, q5, q6⟩ := q
  exact ⟨q1, q2, va_K.moved (u := U) (U := U.calling g mk a) (Vm.Alike.refl U.vm) q3, gx_Z.moved (u := U) (U := U.calling g mk a) (Vm.Alike.refl U.vm) q4, q5, gx_N.same (s := U) (U := U.calling g mk a) rfl q6⟩
section GX1
variable {p : Program} {l : Launch} {e : Env} {R : Room} {s : State} {m : MethodId} {args : Array Value} {below : List Frame} {meth : Method} {c : Code} {H : Heap} {locs : List Loc} {cells slots : Nat} {Q : State → Prop}
variable {L : gx_L} {N n : Nat} {cell cell' : Nat → va_E} {own : String} {cc : ByteArray} {ret : Option FieldType} {pc : Nat} {ls : Array Slot} {rest : List Value} {a : Nat}
theorem gx_U_of (C : gx_C L N p s m args meth c own cc n ret) (hM : gx_S L N cell s.heap H locs) {U : State} (hU : U.heap = H) (hW : s.WarmedH U.vm) : gx_U L N cell U := by
  obtain ⟨-, -, -, -, -, -, -, hK, hZ, hok, hN⟩ := C
  refine ⟨by rw [hU]; exact hM.1, va_K.moved hW.alike hK, gx_Z.moved hW.alike ?_, hok, hN.moved hW⟩
  rw [hU]
  exact hZ.kept fun q h1 h2 => hM.2.2.1 q h1 h2
/-- a field is read -/
theorem gq_get (C : gx_C L N p s m args meth c own cc n ret) (hM : gx_S L N cell s.heap H locs) (ha : a < N) {ci : Nat} {fs : List Value} {Cn : String} {T : u_T} {Nf : Nat} (hc : cell a = .inr (ci, fs)) (hcl : gx_cls[ci]? = some (Cn, T, Nf)) (hin : ∀ w ∈ u_ws Cn T Nf, w ∈ gx_T) (k : Nat) (hk : k < Nf) {index : Nat}
    (hl : Cond.fieldLink own index (T k).1 (T k).2.1 (T k).2.2.1 ∈ gx_T) {v : Value} (hv : fs[k]? = some v) (hdg : decode cc pc = .ok (.getfield index, 3))
    (kk : W p l e R s m args below meth c H locs cells slots Q (F0 m (pc + 3) ls (v :: rest))) : W p l e R s m args below meth c H locs cells slots Q (F0 m pc ls (.ref (gx_ad L a) :: rest)) := by
  obtain ⟨hx, hb, -, -, -, hown, hts, hK, -, hok, hN⟩ := C
  exact va_get hx hb hts hin hown hK hM.1 a (by rw [gx_ws_get ha, hc]) hcl k hk (hts _ hl) (fun _ h => h) hv hdg kk
/-- a field is written -/
theorem gq_put (C : gx_C L N p s m args meth c own cc n ret) (hM : gx_S L N cell s.heap H locs) (ha : a < N) {ci : Nat} {fs : List Value} {Cn : String} {T : u_T} {Nf : Nat} (hc : cell a = .inr (ci, fs)) (hcl : gx_cls[ci]? = some (Cn, T, Nf)) (hin : ∀ w ∈ u_ws Cn T Nf, w ∈ gx_T) (ty0 : Nat → FieldType) (hty : ∀ k, k < Nf → parseFieldDescriptor (T k).2.2.1 = some (ty0 k)) (hnm : ∀ a, a < Nf → ∀ b, b < Nf → a ≠ b → (T a).2.1 ≠ (T b).2.1) (k : Nat) (hk : k < Nf) {index : Nat}
    (hl : Cond.fieldLink own index (T k).1 (T k).2.1 (T k).2.2.1 ∈ gx_T) (hfin : (T k).2.2.2 = false) {v : Value} (hn : narrow (ty0 k) v = v) (hfit : fits (ty0 k) v = true) (hlen : k < fs.length) (hc' : cell' a = .inr (ci, fs.set k v)) (ho : ∀ b, b ≠ a → cell' b = cell b) (hdg : decode cc pc = .ok (.putfield index, 3))
    (kk : ∀ (H : Heap) (locs : List Loc), gx_S L N cell' s.heap H locs → W p l e R s m args below meth c H locs cells slots Q (F0 m (pc + 3) ls rest)) : W p l e R s m args below meth c H locs cells slots Q (F0 m pc ls (v :: .ref (gx_ad L a) :: rest)) := by
  obtain ⟨hx, hb, -, -, -, hown, hts, hK, -, hok, hN⟩ := C
  refine va_put hx hb hts hin ty0 hty hnm hown hK hM.1 (gx_ws_D hok cell) hM.2 a (by rw [gx_ws_get ha, hc]) hcl k hk (hts _ hl) (fun _ h => h) hfin (hty k hk) hn hfit hlen hdg fun H1 locs1 hP hD hS => ?_
  rw [gx_ws_set hc' ho] at hP
  exact kk H1 locs1 ⟨hP, hS⟩
/-- an int array's element is read -/
theorem gq_iald (C : gx_C L N p s m args meth c own cc n ret) (hM : gx_S L N cell s.heap H locs) (ha : a < N) {k : Nat} {f : Nat → Int32} (hc : cell a = .inl (gx_cI L, k, .inl f)) {i : Int32} (hi : vp_in i k) (hdg : decode cc pc = .ok (.iaload, 1))
    (kk : W p l e R s m args below meth c H locs cells slots Q (F0 m (pc + 1) ls (.int (f i.toNatClampNeg) :: rest))) : W p l e R s m args below meth c H locs cells slots Q (F0 m pc ls (.int i :: .ref (gx_ad L a) :: rest)) := by
  obtain ⟨hx, hb, -, -, -, hown, hts, hK, -, hok, hN⟩ := C
  exact va_iald hx hb hK hM.1 a 0 (by rw [gx_ws_get ha, hc]) rfl hi hdg kk
theorem gq_zald (C : gx_C L N p s m args meth c own cc n ret) (hM : gx_S L N cell s.heap H locs) (ha : a < N) {k : Nat} {f : Nat → Int32} (hc : cell a = .inl (gx_cZ L, k, .inl f)) {i : Int32} (hi : vp_in i k) (hdg : decode cc pc = .ok (.baload, 1))
    (kk : W p l e R s m args below meth c H locs cells slots Q (F0 m (pc + 1) ls (.int (f i.toNatClampNeg) :: rest))) : W p l e R s m args below meth c H locs cells slots Q (F0 m pc ls (.int i :: .ref (gx_ad L a) :: rest)) := by
  obtain ⟨hx, hb, -, -, -, hown, hts, hK, -, hok, hN⟩ := C
  exact va_zald hx hb hK hM.1 a 1 (by rw [gx_ws_get ha, hc]) rfl hi hdg kk
/-- an int array's element is written -/
theorem gq_iast (C : gx_C L N p s m args meth c own cc n ret) (hM : gx_S L N cell s.heap H locs) (ha : a < N) {k : Nat} {f : Nat → Int32} (hc : cell a = .inl (gx_cI L, k, .inl f)) {i x : Int32} (hi : vp_in i k) (hc' : cell' a = .inl (gx_cI L, k, .inl (upd f i.toNatClampNeg x))) (ho : ∀ b, b ≠ a → cell' b = cell b) (hdg : decode cc pc = .ok (.iastore, 1))
    (kk : ∀ (H : Heap) (locs : List Loc), gx_S L N cell' s.heap H locs → W p l e R s m args below meth c H locs cells slots Q (F0 m (pc + 1) ls rest)) : W p l e R s m args below meth c H locs cells slots Q (F0 m pc ls (.int x :: .int i :: .ref (gx_ad L a) :: rest)) := by
  obtain ⟨hx, hb, -, -, -, hown, hts, hK, -, hok, hN⟩ := C
  refine va_iast hx hb hK hM.1 (gx_ws_D hok cell) hM.2 a 0 (by rw [gx_ws_get ha, hc]) rfl hi hdg fun H1 locs1 hP hD hS => ?_
  rw [gx_ws_set hc' ho] at hP
  exact kk H1 locs1 ⟨hP, hS⟩
theorem gq_zast (C : gx_C L N p s m args meth c own cc n ret) (hM : gx_S L N cell s.heap H locs) (ha : a < N) {k : Nat} {f : Nat → Int32} (hc : cell a = .inl (gx_cZ L, k, .inl f)) {i x : Int32} (hi : vp_in i k) (hc' : cell' a = .inl (gx_cZ L, k, .inl (upd f i.toNatClampNeg (vp_nar .boolean x)))) (ho : ∀ b, b ≠ a → cell' b = cell b) (hdg : decode cc pc = .ok (.bastore, 1))
    (kk : ∀ (H : Heap) (locs : List Loc), gx_S L N cell' s.heap H locs → W p l e R s m args below meth c H locs cells slots Q (F0 m (pc + 1) ls rest)) : W p l e R s m args below meth c H locs cells slots Q (F0 m pc ls (.int x :: .int i :: .ref (gx_ad L a) :: rest)) := by
  obtain ⟨hx, hb, -, -, -, hown, hts, hK, -, hok, hN⟩ := C
  refine va_zast hx hb hK hM.1 (gx_ws_D hok cell) hM.2 a 1 (by rw [gx_ws_get ha, hc]) rfl hi hdg fun H1 locs1 hP hD hS => ?_
  rw [gx_ws_set hc' ho] at hP
  exact kk H1 locs1 ⟨hP, hS⟩
/-- an array's length -/
theorem gq_alen (C : gx_C L N p s m args meth c own cc n ret) (hM : gx_S L N cell s.heap H locs) (ha : a < N) {cA : ClassId} {x : vp_A} (hc : cell a = .inl (cA, x)) (t : Nat) {ty : FieldType} (ht : (gx_tys L)[t]? = some (cA, ty)) (hdg : decode cc pc = .ok (.arraylength, 1))
    (kk : W p l e R s m args below meth c H locs cells slots Q (F0 m (pc + 1) ls (.int (nI x.1) :: rest))) : W p l e R s m args below meth c H locs cells slots Q (F0 m pc ls (.ref (gx_ad L a) :: rest)) := by
  obtain ⟨hx, hb, -, -, -, hown, hts, hK, -, hok, hN⟩ := C
  exact va_alen hx hb hK hM.1 a t (by rw [gx_ws_get ha, hc]) ht rfl hdg kk
/-- an element of an array of objects is read -/
theorem gq_aald (C : gx_C L N p s m args meth c own cc n ret) (hM : gx_S L N cell s.heap H locs) (ha : a < N) {cA : ClassId} {k : Nat} {f : Nat → Option Nat} (hc : cell a = .inl (cA, k, .inr (.inr (.inr (.inr f))))) (t : Nat) {Cn : String} (ht : (gx_tys L)[t]? = some (cA, .object Cn)) {i : Int32} (hi : vp_in i k) {b : Nat} (hf : f i.toNatClampNeg = some b) (hdg : decode cc pc = .ok (.aaload, 1))
    (kk : W p l e R s m args below meth c H locs cells slots Q (F0 m (pc + 1) ls (.ref b :: rest))) : W p l e R s m args below meth c H locs cells slots Q (F0 m pc ls (.int i :: .ref (gx_ad L a) :: rest)) := by
  obtain ⟨hx, hb, -, -, -, hown, hts, hK, -, hok, hN⟩ := C
  refine va_aldq hx hb hK hM.1 a t (by rw [gx_ws_get ha, hc]) ht hi hdg ?_
  rw [hf]
  exact kk
/-- an element of an array of objects is written -/
theorem gq_aast (C : gx_C L N p s m args meth c own cc n ret) (hM : gx_S L N cell s.heap H locs) (ha : a < N) {cA : ClassId} {k : Nat} {f : Nat → Option Nat} (hc : cell a = .inl (cA, k, .inr (.inr (.inr (.inr f))))) (t : Nat) {r : vw_C} (ht : (gx_tys L)[t]? = some (cA, .object r.1)) {i : Int32} (hi : vp_in i k) {b ci : Nat} {fs : List Value} (hb' : b < N) (hcb : cell b = .inr (ci, fs)) (hcl : gx_cls[ci]? = some r)
    (hc' : cell' a = .inl (cA, k, .inr (.inr (.inr (.inr (va_up f i.toNatClampNeg (some (gx_ad L b)))))))) (ho : ∀ b, b ≠ a → cell' b = cell b) (hdg : decode cc pc = .ok (.aastore, 1))
    (kk : ∀ (H : Heap) (locs : List Loc), gx_S L N cell' s.heap H locs → W p l e R s m args below meth c H locs cells slots Q (F0 m (pc + 1) ls rest)) : W p l e R s m args below meth c H locs cells slots Q (F0 m pc ls (.ref (gx_ad L b) :: .int i :: .ref (gx_ad L a) :: rest)) := by
  obtain ⟨hx, hb, -, -, -, hown, hts, hK, -, hok, hN⟩ := C
  refine va_astq hx hb hK hM.1 (gx_ws_D hok cell) hM.2 a t b ci (by rw [gx_ws_get ha, hc]) ht (by rw [gx_ws_get hb', hcb]) hcl hi hdg fun H1 locs1 hP hD hS => ?_
  rw [gx_ws_set hc' ho] at hP
  exact kk H1 locs1 ⟨hP, hS⟩
/-- System.arraycopy of ints -/
theorem gq_copyi (C : gx_C L N p s m args meth c own cc n ret) (hM : gx_S L N cell s.heap H locs) {a0 : Nat} (ha0 : a0 < N) (ha : a < N) {n0 n1 : Nat} {f g : Nat → Int32} (hc0 : cell a0 = .inl (gx_cI L, n0, .inl f)) (hc1 : cell a = .inl (gx_cI L, n1, .inl g)) {index : Nat} (hl : Cond.methodLink own index arraycopyName ∈ gx_T) (hnat : Cond.native arraycopyName ∈ gx_T) (hst : Cond.static arraycopyName ∈ gx_T) (hini : Cond.initialized "java/lang/System" ∈ gx_T)
    (hls : ls.size = n) {sp dp k : Int32} (h : (¬ sp < 0 ∧ ¬ dp < 0 ∧ ¬ k < 0) ∧ sp.toNatClampNeg + k.toNatClampNeg ≤ n0 ∧ dp.toNatClampNeg + k.toNatClampNeg ≤ n1) (hr1 : 1 ≤ R.frames) (hr2 : (rest.map fun v => v.category).sum + (nativeFrameWords "java/lang/System" "arraycopy" 5 + 11) ≤ R.locals)
    (hc' : cell' a = .inl (gx_cI L, n1, .inl (va_cpy f g sp.toNatClampNeg dp.toNatClampNeg k.toNatClampNeg))) (ho : ∀ b, b ≠ a → cell' b = cell b) (hdg : decode cc pc = .ok (.invokestatic index, 3))
    (kk : ∀ (H : Heap) (locs : List Loc), gx_S L N cell' s.heap H locs → W p l e R s m args below meth c H locs cells slots Q (F0 m (pc + 3) ls rest)) : W p l e R s m args below meth c H locs cells slots Q (F0 m pc ls (.int k :: .int dp :: .ref (gx_ad L a) :: .int sp :: .ref (gx_ad L a0) :: rest)) := by
  obtain ⟨hx, hb, -, -, hml, hown, hts, hK, -, hok, hN⟩ := C
  refine va_copyi hx hb (by rw [hml, hls]) hown (hts _ hl) (hts _ hnat) (hts _ hst) (hts _ hini) hK hM.1 (gx_ws_D hok cell) hM.2 a0 a 0 0 (by rw [gx_ws_get ha0, hc0]) (by rw [gx_ws_get ha, hc1]) rfl rfl rfl h.1.1 h.1.2.1 h.1.2.2 h.2.1 h.2.2 (fun _ _ => rfl) hr1 hr2 hdg fun H1 locs1 hP hD hS => ?_
  rw [gx_ws_set hc' ho] at hP
  exact kk H1 locs1 ⟨hP, hS⟩
theorem gq_max (C : gx_C L N p s m args meth c own cc n ret) (hls : ls.size = n) {index : Nat} (hl : Cond.methodLink own index Lib.Math.max.name ∈ gx_T) (hst : Cond.static Lib.Math.max.name ∈ gx_T) (hini : Cond.initialized "java/lang/Math" ∈ gx_T) (hcd : Cond.code Lib.Math.max.name Lib.Math.max.code 2 (some .int) ∈ gx_T) (hr1 : 1 ≤ R.frames) (hr2 : (rest.map fun v => v.category).sum + 13 ≤ R.locals) (hc : cells ≤ R.cells) (hs : slots ≤ R.slots) {x y : Int32} (hdg : decode cc pc = .ok (.invokestatic index, 3))
    (kk : W p l e R s m args below meth c H locs cells slots Q (F0 m (pc + 3) ls (.int (if x < y then y else x) :: rest))) : W p l e R s m args below meth c H locs cells slots Q (F0 m pc ls (.int y :: .int x :: rest)) := by
  obtain ⟨hx, hb, -, -, hml, hown, hts, hK, -, hok, hN⟩ := C
  exact va_mmax hx hb (by rw [hml, hls]) hown (hts _ hl) (hts _ hst) (hts _ hini) (hts _ hcd) hr1 hr2 hc hs hdg kk
theorem gq_min (C : gx_C L N p s m args meth c own cc n ret) (hls : ls.size = n) {index : Nat} (hl : Cond.methodLink own index Lib.Math.min.name ∈ gx_T) (hst : Cond.static Lib.Math.min.name ∈ gx_T) (hini : Cond.initialized "java/lang/Math" ∈ gx_T) (hcd : Cond.code Lib.Math.min.name Lib.Math.min.code 2 (some .int) ∈ gx_T) (hr1 : 1 ≤ R.frames) (hr2 : (rest.map fun v => v.category).sum + 13 ≤ R.locals) (hc : cells ≤ R.cells) (hs : slots ≤ R.slots) {x y : Int32} (hdg : decode cc pc = .ok (.invokestatic index, 3))
    (kk : W p l e R s m args below meth c H locs cells slots Q (F0 m (pc + 3) ls (.int (if y < x then y else x) :: rest))) : W p l e R s m args below meth c H locs cells slots Q (F0 m pc ls (.int y :: .int x :: rest)) := by
  obtain ⟨hx, hb, -, -, hml, hown, hts, hK, -, hok, hN⟩ := C
  exact va_mmin hx hb (by rw [hml, hls]) hown (hts _ hl) (hts _ hst) (hts _ hini) (hts _ hcd) hr1 hr2 hc hs hdg kk
theorem gq_abs (C : gx_C L N p s m args meth c own cc n ret) (hls : ls.size = n) {index : Nat} (hl : Cond.methodLink own index Lib.Math.abs.name ∈ gx_T) (hst : Cond.static Lib.Math.abs.name ∈ gx_T) (hini : Cond.initialized "java/lang/Math" ∈ gx_T) (hcd : Cond.code Lib.Math.abs.name Lib.Math.abs.code 1 (some .int) ∈ gx_T) (hr1 : 1 ≤ R.frames) (hr2 : (rest.map fun v => v.category).sum + 13 ≤ R.locals) (hc : cells ≤ R.cells) (hs : slots ≤ R.slots) {x : Int32} (hdg : decode cc pc = .ok (.invokestatic index, 3))
    (kk : W p l e R s m args below meth c H locs cells slots Q (F0 m (pc + 3) ls (.int (if 0 ≤ x then x else 0 - x) :: rest))) : W p l e R s m args below meth c H locs cells slots Q (F0 m pc ls (.int x :: rest)) := by
  obtain ⟨hx, hb, -, -, hml, hown, hts, hK, -, hok, hN⟩ := C
  exact va_mabs hx hb (by rw [hml, hls]) hown (hts _ hl) (hts _ hst) (hts _ hini) (hts _ hcd) hr1 hr2 hc hs hdg kk
theorem gq_gets (C : gx_C L N p s m args meth c own cc n ret) (hM : gx_S L N cell s.heap H locs) {C1 n1 d1 host : String} {v : Value} (hZ : va_Z C1 n1 d1 v (gx_A L) s s.heap) {index : Nat} (hl : Cond.fieldLinkNest own index C1 n1 d1 host ∈ gx_nw) (hdg : decode cc pc = .ok (.getstatic index, 3))
    (kk : W p l e R s m args below meth c H locs cells slots Q (F0 m (pc + 3) ls (v :: rest))) : W p l e R s m args below meth c H locs cells slots Q (F0 m pc ls rest) := by
  obtain ⟨hx, hb, -, -, -, hown, hts, hK, -, hok, hN⟩ := C
  exact va_getsN hx hb hZ hM.2 hown (va_Nw.use rfl (hN _ hl)) (fun _ h => h) hdg kk
theorem gq_tald (C : gx_C L N p s m args meth c own cc n ret) (hM : gx_S L N cell s.heap H locs) {t k : Nat} {f : Nat → Int32} (hT : va_T .int t k (fun j => .int (f j)) (gx_A L) s s.heap) {i : Int32} (hi : vp_in i k) (hdg : decode cc pc = .ok (.iaload, 1))
    (kk : W p l e R s m args below meth c H locs cells slots Q (F0 m (pc + 1) ls (.int (f i.toNatClampNeg) :: rest))) : W p l e R s m args below meth c H locs cells slots Q (F0 m pc ls (.int i :: .ref t :: rest)) := by
  obtain ⟨hx, hb, -, -, -, hown, hts, hK, -, hok, hN⟩ := C
  exact va_ti hx hb hT hM.2 hi rfl hdg kk
theorem gq_ldc (C : gx_C L N p s m args meth c own cc n ret) {index : Nat} {v : Int32} (hl : Cond.constant own index v ∈ gx_T) (hdg : decode cc pc = .ok (.ldc index, 2)) (k : W p l e R s m args below meth c H locs cells slots Q (F0 m (pc + 2) ls (.int v :: rest))) : W p l e R s m args below meth c H locs cells slots Q (F0 m pc ls rest) := by
  obtain ⟨hx, hb, -, -, -, hown, hts, hK, -, hok, hN⟩ := C
  exact lv_ldc hx hb hown (hts _ hl) hdg k
theorem gq_ldcw (C : gx_C L N p s m args meth c own cc n ret) {index : Nat} {v : Int32} (hl : Cond.constant own index v ∈ gx_T) (hdg : decode cc pc = .ok (.ldc_w index, 3)) (k : W p l e R s m args below meth c H locs cells slots Q (F0 m (pc + 3) ls (.int v :: rest))) : W p l e R s m args below meth c H locs cells slots Q (F0 m pc ls rest) := by
  obtain ⟨hx, hb, -, -, -, hown, hts, hK, -, hok, hN⟩ := C
  exact lv_ldcw hx hb hown (hts _ hl) hdg k
theorem gq_ldc2 (C : gx_C L N p s m args meth c own cc n ret) {index : Nat} {v : Int64} (hl : Cond.constantLong own index v ∈ gx_T) (hdg : decode cc pc = .ok (.ldc2_w index, 3)) (k : W p l e R s m args below meth c H locs cells slots Q (F0 m (pc + 3) ls (.long v :: rest))) : W p l e R s m args below meth c H locs cells slots Q (F0 m pc ls rest) := by
  obtain ⟨hx, hb, -, -, -, hown, hts, hK, -, hok, hN⟩ := C
  exact lv_ldc2 hx hb hown (hts _ hl) hdg k
end GX1
/-- the callee's words -/
def gx_k (y : MethodName) (bytes : ByteArray) (maxL : Nat) (ret : Option FieldType) (k : Nat) : Prop :=
  Cond.code y bytes maxL ret ∈ gx_T ∧ Cond.initialized y.cls ∈ gx_T ∧ (y.cls ≠ "java/lang/invoke/MethodHandle" ∧ y.cls ≠ "java/lang/invoke/VarHandle" ∧ (parseMethodDescriptor y.desc).map (fun d => d.parameters.length) = some k)
def gx_kV (y : MethodName) (bytes : ByteArray) (maxL : Nat) (ret : Option FieldType) (k : Nat) : Prop :=
  gx_k y bytes maxL ret k ∧ Cond.instanceMethod y ∈ gx_T ∧ Cond.selects y.cls y y ∈ gx_T
def gx_kS (y : MethodName) (bytes : ByteArray) (maxL : Nat) (ret : Option FieldType) (k : Nat) : Prop :=
  gx_k y bytes maxL ret k ∧ Cond.static y ∈ gx_T
section GX2
variable {p : Program} {l : Launch} {e : Env} {R : Room} {s : State} {m : MethodId} {args : Array Value} {below : List Frame} {meth : Method} {c : Code} {H : Heap} {locs : List Loc} {cells slots : Nat} {Q : State → Prop}
variable {L : gx_L} {N n : Nat} {own : String} {cc : ByteArray} {ret : Option FieldType} {pc : Nat} {ls : Array Slot} {rest st0 : List Value} {a : Nat} {M : Type} {cellOf : M → Nat → va_E} {I : M}
variable {y : MethodName} {bytes : ByteArray} {maxL k index ci : Nat} {r1 : Option FieldType} {rm : Room} {As : List Value} {Qc : Array Value → State → Outcome → State → Prop} {fs : List Value}
/-- a call of a method of an object, run -/
theorem gq_runV (C : gx_C L N p s m args meth c own cc n ret) (hM : gx_S L N (cellOf I) s.heap H locs) (ha : a < N) (hc : cellOf I a = .inr (ci, fs)) {T : u_T} {Nf : Nat} (hcl : gx_cls[ci]? = some (y.cls, T, Nf))
    (hY : Met l y (gx_w y bytes maxL r1) rm (va_Pc (.ref (gx_ad L a) :: As) (gx_U L N (cellOf I))) Qc 0 0 (gx_A L)) (hk : gx_kV y bytes maxL r1 k) (hl : Cond.methodLink own index y ∈ gx_T) (hn : As.length = k) (hls : ls.size = n) (hst : st0 = As.reverse ++ .ref (gx_ad L a) :: rest) (hsum : (rest.map fun v => v.category).sum ≤ 8)
    (hr : (rm.cells = 0 ∧ rm.slots = 0) ∧ rm.frames + 1 ≤ R.frames ∧ 8 + (maxL + 11) + rm.locals ≤ R.locals) (hf : cells ≤ R.cells ∧ slots ≤ R.slots) (hdg : decode cc pc = .ok (.invokevirtual index, 3)) :
    va_Run p l e R s m args below meth c H locs cells slots 0 0 (F0 m pc ls st0) rest (Qc (Value.ref (gx_ad L a) :: As).toArray) (gx_A L) := by
  have C0 := C
  obtain ⟨hx, hb, -, -, hml, hown, hts, hK, -, hok, hN⟩ := C0
  obtain ⟨⟨k1, k2, k3⟩, k4, k5⟩ := hk
  refine va_runV (Ts := gx_T) (As := As) (rest := rest) ⟨hx, hb, hml, hown, hts⟩ hY ⟨callB_of k hts (gx_GI k1) rfl hr.1.1 hr.1.2 (hts _ k2) (hts _ hl) k3 hr.2, hts _ k4, hts _ k5⟩ ⟨gx_U_blind, ?_, fun U hU hW => ⟨rfl, gx_U_of C hM hU hW⟩⟩ rfl hn hls hst (lv_room hsum) hdg ⟨by simpa using hf.1, by simpa using hf.2⟩
  exact va_recv (q := (y.cls, T, Nf)) hK hM.1 hcl (q0 := a) (by rw [gx_ws_get ha, hc])
/-- a call of a static method of the own class -/
theorem gq_runS (C : gx_C L N p s m args meth c own cc n ret) (hM : gx_S L N (cellOf I) s.heap H locs)
    (hY : Met l y (gx_w y bytes maxL r1) rm (va_Pc As (gx_U L N (cellOf I))) Qc 0 0 (gx_A L)) (hk : gx_kS y bytes maxL r1 k) (hl : Cond.methodLink own index y ∈ gx_T) (hn : As.length = k) (hls : ls.size = n) (hst : st0 = As.reverse ++ rest) (hsum : (rest.map fun v => v.category).sum ≤ 8)
    (hr : (rm.cells = 0 ∧ rm.slots = 0) ∧ rm.frames + 1 ≤ R.frames ∧ 8 + (maxL + 11) + rm.locals ≤ R.locals) (hf : cells ≤ R.cells ∧ slots ≤ R.slots) (hdg : decode cc pc = .ok (.invokestatic index, 3)) :
    va_Run p l e R s m args below meth c H locs cells slots 0 0 (F0 m pc ls st0) rest (Qc As.toArray) (gx_A L) := by
  have C0 := C
  obtain ⟨hx, hb, -, -, hml, hown, hts, hK, -, hok, hN⟩ := C0
  obtain ⟨⟨k1, k2, k3⟩, k4⟩ := hk
  exact va_runS (Ts := gx_T) (As := As) (rest := rest) ⟨hx, hb, hml, hown, hts⟩ hY ⟨callB_of k hts (gx_GI k1) rfl hr.1.1 hr.1.2 (hts _ k2) (hts _ hl) k3 hr.2, hts _ k4⟩ ⟨gx_U_blind, fun U hU hW => ⟨rfl, gx_U_of C hM hU hW⟩⟩ rfl hn hls hst (lv_room hsum) hdg ⟨by simpa using hf.1, by simpa using hf.2⟩
/-- a call of a private static method of a nest mate -/
theorem gq_runSN (C : gx_C L N p s m args meth c own cc n ret) (hM : gx_S L N (cellOf I) s.heap H locs) {host : String}
    (hY : Met l y (gx_w y bytes maxL r1) rm (va_Pc As (gx_U L N (cellOf I))) Qc 0 0 (gx_A L)) (hk : gx_kS y bytes maxL r1 k) (hl : Cond.methodLinkNest own index y host ∈ gx_nw) (hn : As.length = k) (hls : ls.size = n) (hst : st0 = As.reverse ++ rest) (hsum : (rest.map fun v => v.category).sum ≤ 8)
    (hr : (rm.cells = 0 ∧ rm.slots = 0) ∧ rm.frames + 1 ≤ R.frames ∧ 8 + (maxL + 11) + rm.locals ≤ R.locals) (hf : cells ≤ R.cells ∧ slots ≤ R.slots) (hdg : decode cc pc = .ok (.invokestatic index, 3)) :
    va_Run p l e R s m args below meth c H locs cells slots 0 0 (F0 m pc ls st0) rest (Qc As.toArray) (gx_A L) := by
  have C0 := C
  obtain ⟨hx, hb, -, -, hml, hown, hts, hK, -, hok, hN⟩ := C0
  obtain ⟨⟨k1, k2, k3⟩, k4⟩ := hk
  refine va_runSN (Ts := gx_T) (As := As) (rest := rest) (host := host) ⟨hx, hb, hml, hown, hts⟩ hY ⟨va_cnB (ret := r1) k hts (gx_GI k1) rfl hr.1.1 hr.1.2 ?_ (hts _ k2) k3 hr.2, hts _ k4, trivial⟩ ⟨gx_U_blind, fun U hU hW => ⟨rfl, gx_U_of C hM hU hW⟩⟩ rfl hn hls hst (lv_room hsum) hdg ⟨by simpa using hf.1, by simpa using hf.2⟩
  exact hN _ hl
/-- the answer comes back -/
theorem gq_backi (C : gx_C L N p s m args meth c own cc n ret) (hM : gx_S L N (cellOf I) s.heap H locs) {Qp : Int32 → M → Prop} {aa : Array Value}
    (hr : va_Run p l e R s m args below meth c H locs cells slots 0 0 (F0 m pc ls st0) rest (va_Qi Qp (fun I' t => gx_U L N (cellOf I') t) (gx_A L) aa) (gx_A L))
    (kk : ∀ (r : Int32) (I : M) (H : Heap) (locs : List Loc), Qp r I → gx_S L N (cellOf I) s.heap H locs → W p l e R s m args below meth c H locs cells slots Q (F0 m (pc + 3) ls (.int r :: rest))) : W p l e R s m args below meth c H locs cells slots Q (F0 m pc ls st0) := by
  refine va_calli hr hM.2 (fun _ _ h => h) (fun _ h => h) fun r u t H1 locs1 ht hvm hp hB hz hk1 hS => ?_
  exact kk r u H1 locs1 hp ⟨by rw [← ht]; exact hB.1, hS⟩
theorem gq_backl (C : gx_C L N p s m args meth c own cc n ret) (hM : gx_S L N (cellOf I) s.heap H locs) {Qp : Int64 → M → Prop} {aa : Array Value}
    (hr : va_Run p l e R s m args below meth c H locs cells slots 0 0 (F0 m pc ls st0) rest (va_Ql Qp (fun I' t => gx_U L N (cellOf I') t) (gx_A L) aa) (gx_A L))
    (kk : ∀ (r : Int64) (I : M) (H : Heap) (locs : List Loc), Qp r I → gx_S L N (cellOf I) s.heap H locs → W p l e R s m args below meth c H locs cells slots Q (F0 m (pc + 3) ls (.long r :: rest))) : W p l e R s m args below meth c H locs cells slots Q (F0 m pc ls st0) := by
  refine va_calll hr hM.2 (fun _ _ h => h) (fun _ h => h) fun r u t H1 locs1 ht hvm hp hB hz hk1 hS => ?_
  exact kk r u H1 locs1 hp ⟨by rw [← ht]; exact hB.1, hS⟩
theorem gq_backv (C : gx_C L N p s m args meth c own cc n ret) (hM : gx_S L N (cellOf I) s.heap H locs) {Qp : M → Prop} {aa : Array Value}
    (hr : va_Run p l e R s m args below meth c H locs cells slots 0 0 (F0 m pc ls st0) rest (va_Qv Qp (fun I' t => gx_U L N (cellOf I') t) (gx_A L) aa) (gx_A L))
    (kk : ∀ (I : M) (H : Heap) (locs : List Loc), Qp I → gx_S L N (cellOf I) s.heap H locs → W p l e R s m args below meth c H locs cells slots Q (F0 m (pc + 3) ls rest)) : W p l e R s m args below meth c H locs cells slots Q (F0 m pc ls st0) := by
  refine va_callv hr hM.2 (fun _ _ h => h) (fun _ h => h) fun u t H1 locs1 ht hvm hp hB hz hk1 hS => ?_
  exact kk u H1 locs1 hp ⟨by rw [← ht]; exact hB.1, hS⟩
theorem gq_backe (C : gx_C L N p s m args meth c own cc n ret) (hM : gx_S L N (cellOf I) s.heap H locs) {Qp : Option Nat → M → Prop} {aa : Array Value}
    (hr : va_Run p l e R s m args below meth c H locs cells slots 0 0 (F0 m pc ls st0) rest (va_Qe (gx_ad L) Qp (fun I' t => gx_U L N (cellOf I') t) (gx_A L) aa) (gx_A L))
    (kk : ∀ (r : Option Nat) (I : M) (H : Heap) (locs : List Loc), Qp r I → gx_S L N (cellOf I) s.heap H locs → W p l e R s m args below meth c H locs cells slots Q (F0 m (pc + 3) ls (va_re (gx_ad L) r :: rest))) : W p l e R s m args below meth c H locs cells slots Q (F0 m pc ls st0) := by
  refine va_calle hr hM.2 (fun _ _ h => h) (fun _ h => h) fun r u t H1 locs1 ht hvm hp hB hz hk1 hS => ?_
  exact kk r u H1 locs1 hp ⟨by rw [← ht]; exact hB.1, hS⟩
/-- returns -/
theorem gq_iret (C : gx_C L N p s m args meth c own cc n (some .int)) (hM : gx_S L N (cellOf I) s.heap H locs) {Qp : Int32 → M → Prop} {v : Int32} (hQ : Qp v I) (hdg : decode cc pc = .ok (.ireturn, 1)) :
    W p l e R s m args below meth c H locs cells slots (MQ below (va_Qi Qp (fun I' t => gx_U L N (cellOf I') t) (gx_A L)) args s cells slots (gx_A L)) (F0 m pc ls [.int v]) := by
  have C0 := C
  obtain ⟨hx, hb, hr, hlk, hml, hown, hts, hK, -, hok, hN⟩ := C0
  exact W.iret hx hb hr (fun t ht hW => ⟨⟨v, I, rfl, hQ, gx_U_of C hM ht hW⟩, hM.2.F ht⟩) hM.2.2.2 hdg hlk
theorem gq_zret (C : gx_C L N p s m args meth c own cc n (some .boolean)) (hM : gx_S L N (cellOf I) s.heap H locs) {Qp : Int32 → M → Prop} {v : Int32} (hQ : Qp v I) (hz : v &&& 1 = v) (hdg : decode cc pc = .ok (.ireturn, 1)) :
    W p l e R s m args below meth c H locs cells slots (MQ below (va_Qi Qp (fun I' t => gx_U L N (cellOf I') t) (gx_A L)) args s cells slots (gx_A L)) (F0 m pc ls [.int v]) := by
  have C0 := C
  obtain ⟨hx, hb, hr, hlk, hml, hown, hts, hK, -, hok, hN⟩ := C0
  exact W.zret hx hb hr (by show Value.int (v &&& 1) = _; rw [hz]) (fun t ht hW => ⟨⟨v, I, rfl, hQ, gx_U_of C hM ht hW⟩, hM.2.F ht⟩) hM.2.2.2 hdg hlk
theorem gq_lret (C : gx_C L N p s m args meth c own cc n (some .long)) (hM : gx_S L N (cellOf I) s.heap H locs) {Qp : Int64 → M → Prop} {v : Int64} (hQ : Qp v I) (hdg : decode cc pc = .ok (.lreturn, 1)) :
    W p l e R s m args below meth c H locs cells slots (MQ below (va_Ql Qp (fun I' t => gx_U L N (cellOf I') t) (gx_A L)) args s cells slots (gx_A L)) (F0 m pc ls [.long v]) := by
  have C0 := C
  obtain ⟨hx, hb, hr, hlk, hml, hown, hts, hK, -, hok, hN⟩ := C0
  exact W.lret hx hb hr (fun t ht hW => ⟨⟨v, I, rfl, hQ, gx_U_of C hM ht hW⟩, hM.2.F ht⟩) hM.2.2.2 hdg hlk
theorem gq_vret (C : gx_C L N p s m args meth c own cc n none) (hM : gx_S L N (cellOf I) s.heap H locs) {Qp : M → Prop} (hQ : Qp I) (hdg : decode cc pc = .ok (.return_, 1)) :
    W p l e R s m args below meth c H locs cells slots (MQ below (va_Qv Qp (fun I' t => gx_U L N (cellOf I') t) (gx_A L)) args s cells slots (gx_A L)) (F0 m pc ls []) := by
  have C0 := C
  obtain ⟨hx, hb, hr, hlk, hml, hown, hts, hK, -, hok, hN⟩ := C0
  exact W.vret hx hb hr (fun t ht hW => ⟨⟨I, rfl, hQ, gx_U_of C hM ht hW⟩, hM.2.F ht⟩) hM.2.2.2 hdg hlk
theorem gq_aret {Cn : String} (C : gx_C L N p s m args meth c own cc n (some (.object Cn))) (hM : gx_S L N (cellOf I) s.heap H locs) {Qp : Option Nat → M → Prop} {b : Nat} (hQ : Qp (some b) I) (hdg : decode cc pc = .ok (.areturn, 1)) :
    W p l e R s m args below meth c H locs cells slots (MQ below (va_Qe (gx_ad L) Qp (fun I' t => gx_U L N (cellOf I') t) (gx_A L)) args s cells slots (gx_A L)) (F0 m pc ls [.ref (gx_ad L b)]) := by
  have C0 := C
  obtain ⟨hx, hb, hr, hlk, hml, hown, hts, hK, -, hok, hN⟩ := C0
  exact W.aret hx hb hr (Or.inl ⟨_, rfl⟩) (Or.inr ⟨_, rfl⟩) (fun t ht hW => ⟨⟨some b, I, rfl, hQ, gx_U_of C hM ht hW⟩, hM.2.F ht⟩) hM.2.2.2 hdg hlk
theorem gq_nret {Cn : String} (C : gx_C L N p s m args meth c own cc n (some (.object Cn))) (hM : gx_S L N (cellOf I) s.heap H locs) {Qp : Option Nat → M → Prop} (hQ : Qp none I) (hdg : decode cc pc = .ok (.areturn, 1)) :
    W p l e R s m args below meth c H locs cells slots (MQ below (va_Qe (gx_ad L) Qp (fun I' t => gx_U L N (cellOf I') t) (gx_A L)) args s cells slots (gx_A L)) (F0 m pc ls [.null]) := by
  have C0 := C
  obtain ⟨hx, hb, hr, hlk, hml, hown, hts, hK, -, hok, hN⟩ := C0
  exact W.aret hx hb hr (Or.inl ⟨_, rfl⟩) (Or.inl rfl) (fun t ht hW => ⟨⟨none, I, rfl, hQ, gx_U_of C hM ht hW⟩, hM.2.F ht⟩) hM.2.2.2 hdg hlk
/-- a method's body is entered -/
theorem gq_enter (hy : plainName y.cls = true) (hlen : (lg_sl As).length ≤ maxL)
    (body : ∀ (p : Program) (e : Env) (s : State) (m : MethodId) (below : List Frame) (meth : Method) (c : Code) (ls : Array Slot), gx_C L N p s m As.toArray meth c y.cls bytes maxL r1 → gx_S L N (cellOf I) s.heap s.heap [] → lv_has ls maxL (lv_args 0 As) →
      W p l e rm s m As.toArray below meth c s.heap [] 0 0 (MQ below Qc As.toArray s 0 0 (gx_A L)) (F0 m 0 ls [])) :
    Met l y (gx_w y bytes maxL r1) rm (va_Pc As (gx_U L N (cellOf I))) Qc 0 0 (gx_A L) := by
  refine Met.ofW (cc := bytes) (maxL := maxL) (ret := r1) hy rfl ?_
  intro p e s m args below meth c s₁ B hml hv
  obtain ⟨rfl, hP, hK, hZ, hok, hN⟩ := hv
  have hts := atoms_spec (ws := gx_w y bytes maxL r1) B.pre
  have hown : s.vm.findClass y.cls = some m.cls := findClass_of_methodNamed B.named
  have hl := lv_entry As (n := maxL) hlen
  rw [lg_entry_eq]
  exact body p e s m below meth c _ ⟨B.exec, B.bytes, B.returns, B.notSynchronized, hml, hown, fun w hw => hts w (List.mem_cons_of_mem _ hw), hK, hZ, hok, hN⟩ ⟨hP, va_S.rf⟩ hl
end GX2
