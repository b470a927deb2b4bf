/-! the pool layer: a module's cells are ONE pool (L, f); a contract speaks of the pool before and behind -/
def jx_isN : Cond → Bool
  | .fieldLinkNest .. => true
  | .methodLinkNest .. => true
  | .arrayOver (.object _) => true
  | _ => false
theorem jx_N_same {w : Cond} (hw : jx_isN w = true) {u U : State} (h : u.vm = U.vm) (hZ : va_Nw w u) : va_Nw w U := by
  cases w <;> first | (simp [jx_isN] at hw; done) | exact va_Nw.same rfl h hZ | (rename_i ty; cases ty <;> first | (simp [jx_isN] at hw; done) | exact va_AO.moved (by rw [h]; exact Vm.Alike.refl _) hZ)
theorem jx_N_warm {w : Cond} (hw : jx_isN w = true) {s U : State} (hW : s.WarmedH U.vm) (hZ : va_Nw w s) : va_Nw w U := by
  cases w <;> first | (simp [jx_isN] at hw; done) | exact va_Nw.warmF hW hZ | exact va_Nw.warmM hW hZ | (rename_i ty; cases ty <;> first | (simp [jx_isN] at hw; done) | exact va_AO.moved hW.alike hZ)
def jx_G (D : va_G) (cl : List vw_C) (tys : List (ClassId × FieldType)) (NW : List Cond) (U : State) : Prop := va_K D cl tys U ∧ (∀ w ∈ NW, va_Nw w U) ∧ ∀ w ∈ NW, jx_isN w = true
theorem jx_G.same {D : va_G} {cl : List vw_C} {tys : List (ClassId × FieldType)} {NW : List Cond} {u U : State} (h : u.vm = U.vm) (hG : jx_G D cl tys NW u) : jx_G D cl tys NW U :=
  ⟨va_K.moved (by rw [h]; exact Vm.Alike.refl _) hG.1, fun w hw => jx_N_same (hG.2.2 w hw) h (hG.2.1 w hw), hG.2.2⟩
theorem jx_G.warm {D : va_G} {cl : List vw_C} {tys : List (ClassId × FieldType)} {NW : List Cond} {s U : State} (hW : s.WarmedH U.vm) (hG : jx_G D cl tys NW s) : jx_G D cl tys NW U :=
  ⟨va_K.moved hW.alike hG.1, fun w hw => jx_N_warm (hG.2.2 w hw) hW (hG.2.1 w hw), hG.2.2⟩
/-- the pool stands in the heap, within A; since H0 nothing outside A has changed -/
def jx_w (D : va_G) (cl : List vw_C) (A : Nat → Prop) (H0 : Heap) (L : List Nat) (f : Nat → va_E) (H : Heap) (locs : List Loc) : Prop :=
  va_P D cl (va_pl L f) H ∧ va_D A (va_pl L f) ∧ va_S A H0 H locs ∧ ∀ q : Nat, H0.size ≤ q → A q
def jx_Pre (D : va_G) (cl : List vw_C) (tys : List (ClassId × FieldType)) (NW : List Cond) (sz : Nat) (L : List Nat) (f : Nat → va_E) : State → Prop := fun U =>
  U.heap.size = sz ∧ va_P D cl (va_pl L f) U.heap ∧ jx_G D cl tys NW U ∧ va_D (fun _ => True) (va_pl L f)
def jx_Q (D : va_G) (cl : List vw_C) (sz : Nat) (L : List Nat) (f : Nat → va_E) (post : Option Value → List Nat → (Nat → va_E) → Prop) : Array Value → State → Outcome → State → Prop := fun _ st oc t =>
  (∃ (v : Option Value) (L' : List Nat) (f' : Nat → va_E), oc = .returned v ∧ post v L' f' ∧ va_P D cl (va_pl L' f') t.heap ∧ va_D (va_A (va_pl L f) sz) (va_pl L' f')) ∧ va_F (va_A (va_pl L f) sz) st t
/-- a contract over the pool -/
def jx_M (l : Launch) (D : va_G) (cl : List vw_C) (tys : List (ClassId × FieldType)) (NW TT : List Cond) (y : MethodName) (bytes : ByteArray) (n : Nat) (ret : Option FieldType) (rm : Room) (av : List Value) (L : List Nat) (f : Nat → va_E) (post : Option Value → List Nat → (Nat → va_E) → Prop) : Prop :=
  ∀ sz : Nat, Met l y (Cond.code y bytes n ret :: TT) rm (va_Pc av (jx_Pre D cl tys NW sz L f)) (jx_Q D cl sz L f post) rm.cells rm.slots (va_A (va_pl L f) sz)
theorem jx_pos {L : List Nat} {f : Nat → va_E} {a : Nat} {e : va_E} (ha : a ∈ L) (hfa : f a = e) : ∃ k : Nat, (va_pl L f)[k]? = some (a, e) := by
  obtain ⟨k, hk⟩ := va_pl_get (X := []) (f := f) ha
  exact ⟨k, by rw [← hfa]; exact hk⟩
theorem jx_set {A : Nat → Prop} {L : List Nat} {f : Nat → va_E} {a k : Nat} {e e' : va_E} (hD : va_D A (va_pl L f)) (ha : a ∈ L) (hfa : f a = e) (hk : (va_pl L f)[k]? = some (a, e)) : (va_pl L f).set k (a, e') = va_pl L (va_up f a e') := by
  subst hfa
  exact va_pl_set (X := []) hD ha hk
theorem jx_RA_inj {U : State} {c1 c2 : ClassId} {ty : FieldType} (h1 : va_RA U c1 ty) (h2 : va_RA U c2 ty) : c1 = c2 := by
  cases ty with
  | object C =>
    obtain ⟨_, _, _, _, _, a⟩ := h1
    obtain ⟨_, _, _, _, _, b⟩ := h2
    exact Option.some.inj (a.symm.trans b)
  | _ =>
    have a : U.vm.findClass _ = some c1 := h1
    have b : U.vm.findClass _ = some c2 := h2
    exact Option.some.inj (a.symm.trans b)
theorem jx_sub {D : va_G} {cl : List vw_C} {A : Nat → Prop} {H0 H : Heap} {L : List Nat} {f : Nat → va_E} {locs : List Loc} (hw : jx_w D cl A H0 L f H locs) : ∀ q, va_A (va_pl L f) H.size q → A q := by
  intro q h
  rcases h with ⟨k, e, h⟩ | h
  · exact hw.2.1.2 k (q, e) h
  · exact hw.2.2.2 q (Nat.le_trans hw.2.2.1.1 h)
section JXR
variable {p : Program} {l : Launch} {e : Env} {R : Room} {s : State} {m : MethodId} {args : Array Value} {below : List Frame} {meth : Method} {c : Code} {H : Heap} {locs : List Loc} {cells slots : Nat} {Q : State → Prop}
variable {cc : ByteArray} {pc : Nat} {ls : Array Slot} {rest : List Value} {D : va_G} {cl : List vw_C} {A : Nat → Prop} {a : Nat} {tys : List (ClassId × FieldType)} {NW TT : List Cond} {H0 : Heap} {L : List Nat} {f : Nat → va_E}
theorem jx_get (hexec : p.tables.exec = Jvm.exec) (hb : c.code = cc) {own ref C : String} {T : u_T} {N ci index : Nat} (hts : ∀ w ∈ TT, w.before args s = true) (hin : ∀ w ∈ u_ws C T N, w ∈ TT) (hown : s.vm.findClass own = some m.cls) (hG : jx_G D cl tys NW s) (hw : jx_w D cl A H0 L f H locs) (ha : a ∈ L) {fs : List Value} (hfa : f a = .inr (ci, fs)) (hc : cl[ci]? = some (C, T, N)) (k : Nat) (hk : k < N) (hlink : Cond.fieldLink own index ref (T k).2.1 (T k).2.2.1 ∈ TT) (hsame : ∀ x, s.fieldFound? (T k).1 (T k).2.1 (T k).2.2.1 = some x → s.fieldFound? ref (T k).2.1 (T k).2.2.1 = some x) {v : Value} (hv : fs[k]? = some v) (hdg : decode cc pc = .ok (.getfield index, 3))
    (kk : W p l e R s m args below meth c H locs cells slots Q (F0 m (pc + 3) ls (v :: rest))) : W p l e R s m args below meth c H locs cells slots Q (F0 m pc ls (.ref a :: rest)) := by
  obtain ⟨q0, hq0⟩ := jx_pos ha hfa
  exact va_get hexec hb hts hin hown hG.1 hw.1 q0 hq0 hc k hk (hts _ hlink) hsame hv hdg kk
theorem jx_getN (hexec : p.tables.exec = Jvm.exec) (hb : c.code = cc) {own ref C host : String} {T : u_T} {N ci index : Nat} (hts : ∀ w ∈ TT, w.before args s = true) (hin : ∀ w ∈ u_ws C T N, w ∈ TT) (hown : s.vm.findClass own = some m.cls) (hG : jx_G D cl tys NW s) (hw : jx_w D cl A H0 L f H locs) (ha : a ∈ L) {fs : List Value} (hfa : f a = .inr (ci, fs)) (hc : cl[ci]? = some (C, T, N)) (k : Nat) (hk : k < N) (hlink : Cond.fieldLinkNest own index ref (T k).2.1 (T k).2.2.1 host ∈ NW) (hsame : ∀ x, s.fieldFound? (T k).1 (T k).2.1 (T k).2.2.1 = some x → s.fieldFound? ref (T k).2.1 (T k).2.2.1 = some x) {v : Value} (hv : fs[k]? = some v) (hdg : decode cc pc = .ok (.getfield index, 3))
    (kk : W p l e R s m args below meth c H locs cells slots Q (F0 m (pc + 3) ls (v :: rest))) : W p l e R s m args below meth c H locs cells slots Q (F0 m pc ls (.ref a :: rest)) := by
  obtain ⟨q0, hq0⟩ := jx_pos ha hfa
  exact va_getN hexec hb hts hin hown hG.1 hw.1 q0 hq0 hc k hk (va_Nw.use rfl (hG.2.1 _ hlink)) hsame hv hdg kk
theorem jx_put (hexec : p.tables.exec = Jvm.exec) (hb : c.code = cc) {own ref C : String} {T : u_T} {N ci index : Nat} (hts : ∀ w ∈ TT, w.before args s = true) (hin : ∀ w ∈ u_ws C T N, w ∈ TT) (ty0 : Nat → FieldType) (hty : ∀ k, k < N → parseFieldDescriptor (T k).2.2.1 = some (ty0 k)) (hnm : ∀ a, a < N → ∀ b, b < N → a ≠ b → (T a).2.1 ≠ (T b).2.1) (hown : s.vm.findClass own = some m.cls) (hG : jx_G D cl tys NW s) (hw : jx_w D cl A H0 L f H locs) (ha : a ∈ L) {fs : List Value} (hfa : f a = .inr (ci, fs)) (hc : cl[ci]? = some (C, T, N)) (k : Nat) (hk : k < N) (hlink : Cond.fieldLink own index ref (T k).2.1 (T k).2.2.1 ∈ TT) (hsame : ∀ x, s.fieldFound? (T k).1 (T k).2.1 (T k).2.2.1 = some x → s.fieldFound? ref (T k).2.1 (T k).2.2.1 = some x) (hfin : (T k).2.2.2 = false) {ty : FieldType} {v : Value} (hd : parseFieldDescriptor (T k).2.2.1 = some ty) (hn : narrow ty v = v) (hfit : fits ty v = true) (hl : k < fs.length) (hdg : decode cc pc = .ok (.putfield index, 3))
    (kk : ∀ (H1 : Heap) (locs1 : List Loc), jx_w D cl A H0 L (va_up f a (.inr (ci, fs.set k v))) H1 locs1 → W p l e R s m args below meth c H1 locs1 cells slots Q (F0 m (pc + 3) ls rest)) : W p l e R s m args below meth c H locs cells slots Q (F0 m pc ls (v :: .ref a :: rest)) := by
  obtain ⟨q0, hq0⟩ := jx_pos ha hfa
  refine va_put hexec hb hts hin ty0 hty hnm hown hG.1 hw.1 hw.2.1 hw.2.2.1 q0 hq0 hc k hk (hts _ hlink) hsame hfin hd hn hfit hl hdg fun H1 locs1 h1 h2 h3 => ?_
  rw [jx_set hw.2.1 ha hfa hq0] at h1 h2
  exact kk H1 locs1 ⟨h1, h2, h3, hw.2.2.2⟩
theorem jx_putN (hexec : p.tables.exec = Jvm.exec) (hb : c.code = cc) {own ref C host : String} {T : u_T} {N ci index : Nat} (hts : ∀ w ∈ TT, w.before args s = true) (hin : ∀ w ∈ u_ws C T N, w ∈ TT) (ty0 : Nat → FieldType) (hty : ∀ k, k < N → parseFieldDescriptor (T k).2.2.1 = some (ty0 k)) (hnm : ∀ a, a < N → ∀ b, b < N → a ≠ b → (T a).2.1 ≠ (T b).2.1) (hown : s.vm.findClass own = some m.cls) (hG : jx_G D cl tys NW s) (hw : jx_w D cl A H0 L f H locs) (ha : a ∈ L) {fs : List Value} (hfa : f a = .inr (ci, fs)) (hc : cl[ci]? = some (C, T, N)) (k : Nat) (hk : k < N) (hlink : Cond.fieldLinkNest own index ref (T k).2.1 (T k).2.2.1 host ∈ NW) (hsame : ∀ x, s.fieldFound? (T k).1 (T k).2.1 (T k).2.2.1 = some x → s.fieldFound? ref (T k).2.1 (T k).2.2.1 = some x) (hfin : (T k).2.2.2 = false) {ty : FieldType} {v : Value} (hd : parseFieldDescriptor (T k).2.2.1 = some ty) (hn : narrow ty v = v) (hfit : fits ty v = true) (hl : k < fs.length) (hdg : decode cc pc = .ok (.putfield index, 3))
    (kk : ∀ (H1 : Heap) (locs1 : List Loc), jx_w D cl A H0 L (va_up f a (.inr (ci, fs.set k v))) H1 locs1 → W p l e R s m args below meth c H1 locs1 cells slots Q (F0 m (pc + 3) ls rest)) : W p l e R s m args below meth c H locs cells slots Q (F0 m pc ls (v :: .ref a :: rest)) := by
  obtain ⟨q0, hq0⟩ := jx_pos ha hfa
  refine va_putN hexec hb hts hin ty0 hty hnm hown hG.1 hw.1 hw.2.1 hw.2.2.1 q0 hq0 hc k hk (va_Nw.use rfl (hG.2.1 _ hlink)) hsame hfin hd hn hfit hl hdg fun H1 locs1 h1 h2 h3 => ?_
  rw [jx_set hw.2.1 ha hfa hq0] at h1 h2
  exact kk H1 locs1 ⟨h1, h2, h3, hw.2.2.2⟩
theorem jx_putF (hexec : p.tables.exec = Jvm.exec) (hb : c.code = cc) {own ref C : String} {T : u_T} {N ci index : Nat} (hts : ∀ w ∈ TT, w.before args s = true) (hin : ∀ w ∈ u_ws C T N, w ∈ TT) (ty0 : Nat → FieldType) (hty : ∀ k, k < N → parseFieldDescriptor (T k).2.2.1 = some (ty0 k)) (hnm : ∀ a, a < N → ∀ b, b < N → a ≠ b → (T a).2.1 ≠ (T b).2.1) (hown : s.vm.findClass own = some m.cls) (hG : jx_G D cl tys NW s) (hw : jx_w D cl A H0 L f H locs) (ha : a ∈ L) {fs : List Value} (hfa : f a = .inr (ci, fs)) (hc : cl[ci]? = some (C, T, N)) (k : Nat) (hk : k < N) (hlink : Cond.fieldLink own index ref (T k).2.1 (T k).2.2.1 ∈ TT) (hsame : ∀ x, s.fieldFound? (T k).1 (T k).2.1 (T k).2.2.1 = some x → s.fieldFound? ref (T k).2.1 (T k).2.2.1 = some x) (hfin : (T k).2.2.2 = true) (hin2 : meth.name = "<init>") (hdecl : (T k).1 = own) {ty : FieldType} {v : Value} (hd : parseFieldDescriptor (T k).2.2.1 = some ty) (hn : narrow ty v = v) (hfit : fits ty v = true) (hl : k < fs.length) (hdg : decode cc pc = .ok (.putfield index, 3))
    (kk : ∀ (H1 : Heap) (locs1 : List Loc), jx_w D cl A H0 L (va_up f a (.inr (ci, fs.set k v))) H1 locs1 → W p l e R s m args below meth c H1 locs1 cells slots Q (F0 m (pc + 3) ls rest)) : W p l e R s m args below meth c H locs cells slots Q (F0 m pc ls (v :: .ref a :: rest)) := by
  obtain ⟨q0, hq0⟩ := jx_pos ha hfa
  refine va_putF hexec hb hts hin ty0 hty hnm hown hG.1 hw.1 hw.2.1 hw.2.2.1 q0 hq0 hc k hk (hts _ hlink) hsame hfin hin2 hdecl hd hn hfit hl hdg fun H1 locs1 h1 h2 h3 => ?_
  rw [jx_set hw.2.1 ha hfa hq0] at h1 h2
  exact kk H1 locs1 ⟨h1, h2, h3, hw.2.2.2⟩
theorem jx_iald (hexec : p.tables.exec = Jvm.exec) (hb : c.code = cc) (hG : jx_G D cl tys NW s) (hw : jx_w D cl A H0 L f H locs) (ha : a ∈ L) (t0 : Nat) {cA : ClassId} {n : Nat} {g : Nat → Int32} (hfa : f a = .inl (cA, n, .inl g)) (ht : tys[t0]? = some (cA, .int)) {i : Int32} (hin : vp_in i n) (hdg : decode cc pc = .ok (.iaload, 1))
    (kk : W p l e R s m args below meth c H locs cells slots Q (F0 m (pc + 1) ls (.int (g i.toNatClampNeg) :: rest))) : W p l e R s m args below meth c H locs cells slots Q (F0 m pc ls (.int i :: .ref a :: rest)) := by
  obtain ⟨q0, hq0⟩ := jx_pos ha hfa
  exact va_iald hexec hb hG.1 hw.1 q0 t0 hq0 ht hin hdg kk
theorem jx_lald (hexec : p.tables.exec = Jvm.exec) (hb : c.code = cc) (hG : jx_G D cl tys NW s) (hw : jx_w D cl A H0 L f H locs) (ha : a ∈ L) (t0 : Nat) {cA : ClassId} {n : Nat} {g : Nat → Int64} (hfa : f a = .inl (cA, n, .inr (.inl g))) (ht : tys[t0]? = some (cA, .long)) {i : Int32} (hin : vp_in i n) (hdg : decode cc pc = .ok (.laload, 1))
    (kk : W p l e R s m args below meth c H locs cells slots Q (F0 m (pc + 1) ls (.long (g i.toNatClampNeg) :: rest))) : W p l e R s m args below meth c H locs cells slots Q (F0 m pc ls (.int i :: .ref a :: rest)) := by
  obtain ⟨q0, hq0⟩ := jx_pos ha hfa
  exact va_lald hexec hb hG.1 hw.1 q0 t0 hq0 ht hin hdg kk
theorem jx_zald (hexec : p.tables.exec = Jvm.exec) (hb : c.code = cc) (hG : jx_G D cl tys NW s) (hw : jx_w D cl A H0 L f H locs) (ha : a ∈ L) (t0 : Nat) {cA : ClassId} {n : Nat} {g : Nat → Int32} (hfa : f a = .inl (cA, n, .inl g)) (ht : tys[t0]? = some (cA, .boolean)) {i : Int32} (hin : vp_in i n) (hdg : decode cc pc = .ok (.baload, 1))
    (kk : W p l e R s m args below meth c H locs cells slots Q (F0 m (pc + 1) ls (.int (g i.toNatClampNeg) :: rest))) : W p l e R s m args below meth c H locs cells slots Q (F0 m pc ls (.int i :: .ref a :: rest)) := by
  obtain ⟨q0, hq0⟩ := jx_pos ha hfa
  exact va_zald hexec hb hG.1 hw.1 q0 t0 hq0 ht hin hdg kk
theorem jx_aldq (hexec : p.tables.exec = Jvm.exec) (hb : c.code = cc) (hG : jx_G D cl tys NW s) (hw : jx_w D cl A H0 L f H locs) (ha : a ∈ L) (t0 : Nat) {cA : ClassId} {C : String} {n : Nat} {g : Nat → Option Nat} (hfa : f a = .inl (cA, n, .inr (.inr (.inr (.inr g))))) (ht : tys[t0]? = some (cA, .object C)) {i : Int32} (hin : vp_in i n) (hdg : decode cc pc = .ok (.aaload, 1))
    (kk : W p l e R s m args below meth c H locs cells slots Q (F0 m (pc + 1) ls (va_rf (g i.toNatClampNeg) :: rest))) : W p l e R s m args below meth c H locs cells slots Q (F0 m pc ls (.int i :: .ref a :: rest)) := by
  obtain ⟨q0, hq0⟩ := jx_pos ha hfa
  exact va_aldq hexec hb hG.1 hw.1 q0 t0 hq0 ht hin hdg kk
theorem jx_iast (hexec : p.tables.exec = Jvm.exec) (hb : c.code = cc) (hG : jx_G D cl tys NW s) (hw : jx_w D cl A H0 L f H locs) (ha : a ∈ L) (t0 : Nat) {cA : ClassId} {n : Nat} {g : Nat → Int32} (hfa : f a = .inl (cA, n, .inl g)) (ht : tys[t0]? = some (cA, .int)) {i x : Int32} (hin : vp_in i n) (hdg : decode cc pc = .ok (.iastore, 1))
    (kk : ∀ (H1 : Heap) (locs1 : List Loc), jx_w D cl A H0 L (va_up f a (.inl (cA, n, .inl (upd g i.toNatClampNeg x)))) H1 locs1 → W p l e R s m args below meth c H1 locs1 cells slots Q (F0 m (pc + 1) ls rest)) : W p l e R s m args below meth c H locs cells slots Q (F0 m pc ls (.int x :: .int i :: .ref a :: rest)) := by
  obtain ⟨q0, hq0⟩ := jx_pos ha hfa
  refine va_iast hexec hb hG.1 hw.1 hw.2.1 hw.2.2.1 q0 t0 hq0 ht hin hdg fun H1 locs1 h1 h2 h3 => ?_
  rw [jx_set hw.2.1 ha hfa hq0] at h1 h2
  exact kk H1 locs1 ⟨h1, h2, h3, hw.2.2.2⟩
theorem jx_last (hexec : p.tables.exec = Jvm.exec) (hb : c.code = cc) (hG : jx_G D cl tys NW s) (hw : jx_w D cl A H0 L f H locs) (ha : a ∈ L) (t0 : Nat) {cA : ClassId} {n : Nat} {g : Nat → Int64} (hfa : f a = .inl (cA, n, .inr (.inl g))) (ht : tys[t0]? = some (cA, .long)) {i : Int32} {x : Int64} (hin : vp_in i n) (hdg : decode cc pc = .ok (.lastore, 1))
    (kk : ∀ (H1 : Heap) (locs1 : List Loc), jx_w D cl A H0 L (va_up f a (.inl (cA, n, .inr (.inl (vp_updL g i.toNatClampNeg x))))) H1 locs1 → W p l e R s m args below meth c H1 locs1 cells slots Q (F0 m (pc + 1) ls rest)) : W p l e R s m args below meth c H locs cells slots Q (F0 m pc ls (.long x :: .int i :: .ref a :: rest)) := by
  obtain ⟨q0, hq0⟩ := jx_pos ha hfa
  refine va_last hexec hb hG.1 hw.1 hw.2.1 hw.2.2.1 q0 t0 hq0 ht hin hdg fun H1 locs1 h1 h2 h3 => ?_
  rw [jx_set hw.2.1 ha hfa hq0] at h1 h2
  exact kk H1 locs1 ⟨h1, h2, h3, hw.2.2.2⟩
theorem jx_astq (hexec : p.tables.exec = Jvm.exec) (hb : c.code = cc) (hG : jx_G D cl tys NW s) (hw : jx_w D cl A H0 L f H locs) (ha : a ∈ L) (t0 ci : Nat) {cA : ClassId} {r : vw_C} {n v : Nat} {vs : List Value} {g : Nat → Option Nat} (hfa : f a = .inl (cA, n, .inr (.inr (.inr (.inr g))))) (ht : tys[t0]? = some (cA, .object r.1)) (hvL : v ∈ L) (hv : f v = .inr (ci, vs)) (hc : cl[ci]? = some r) {i : Int32} (hin : vp_in i n) (hdg : decode cc pc = .ok (.aastore, 1))
    (kk : ∀ (H1 : Heap) (locs1 : List Loc), jx_w D cl A H0 L (va_up f a (.inl (cA, n, .inr (.inr (.inr (.inr (va_up g i.toNatClampNeg (some v)))))))) H1 locs1 → W p l e R s m args below meth c H1 locs1 cells slots Q (F0 m (pc + 1) ls rest)) : W p l e R s m args below meth c H locs cells slots Q (F0 m pc ls (.ref v :: .int i :: .ref a :: rest)) := by
  obtain ⟨q0, hq0⟩ := jx_pos ha hfa
  obtain ⟨qk, hqk⟩ := jx_pos hvL hv
  refine va_astq hexec hb hG.1 hw.1 hw.2.1 hw.2.2.1 q0 t0 qk ci hq0 ht hqk hc hin hdg fun H1 locs1 h1 h2 h3 => ?_
  rw [jx_set hw.2.1 ha hfa hq0] at h1 h2
  exact kk H1 locs1 ⟨h1, h2, h3, hw.2.2.2⟩
theorem jx_astqN (hexec : p.tables.exec = Jvm.exec) (hb : c.code = cc) (hG : jx_G D cl tys NW s) (hw : jx_w D cl A H0 L f H locs) (ha : a ∈ L) (t0 : Nat) {cA : ClassId} {C : String} {n : Nat} {g : Nat → Option Nat} (hfa : f a = .inl (cA, n, .inr (.inr (.inr (.inr g))))) (ht : tys[t0]? = some (cA, .object C)) {i : Int32} (hin : vp_in i n) (hdg : decode cc pc = .ok (.aastore, 1))
    (kk : ∀ (H1 : Heap) (locs1 : List Loc), jx_w D cl A H0 L (va_up f a (.inl (cA, n, .inr (.inr (.inr (.inr (va_up g i.toNatClampNeg none))))))) H1 locs1 → W p l e R s m args below meth c H1 locs1 cells slots Q (F0 m (pc + 1) ls rest)) : W p l e R s m args below meth c H locs cells slots Q (F0 m pc ls (.null :: .int i :: .ref a :: rest)) := by
  obtain ⟨q0, hq0⟩ := jx_pos ha hfa
  refine va_astqN hexec hb hG.1 hw.1 hw.2.1 hw.2.2.1 q0 t0 hq0 ht hin hdg fun H1 locs1 h1 h2 h3 => ?_
  rw [jx_set hw.2.1 ha hfa hq0] at h1 h2
  exact kk H1 locs1 ⟨h1, h2, h3, hw.2.2.2⟩
theorem jx_pushw {q : Nat} {e0 : va_E} {H1 : Heap} (hw : jx_w D cl A H0 L f H locs) (h1 : va_P D cl (va_pl L f ++ [(q, e0)]) H1) (h2 : va_D A (va_pl L f ++ [(q, e0)])) (h3 : va_S A H0 H1 locs) : q ∉ L ∧ jx_w D cl A H0 (L ++ [q]) (va_up f q e0) H1 locs := by
  have hq : q ∉ L := va_pl_fresh2 (X := []) h2
  rw [va_pl_push hq] at h1 h2
  exact ⟨hq, h1, h2, h3, hw.2.2.2⟩
theorem jx_new (hexec : p.tables.exec = Jvm.exec) (hb : c.code = cc) {own C : String} {T : u_T} {N ci index : Nat} (hts : ∀ w ∈ TT, w.before args s = true) (hin : ∀ w ∈ u_ws C T N, w ∈ TT) (ty : Nat → FieldType) (hty : ∀ k, k < N → parseFieldDescriptor (T k).2.2.1 = some (ty k)) (hown : s.vm.findClass own = some m.cls) (hcl : Cond.classLink own index C ∈ TT) (hinst : Cond.instantiable C N ∈ TT) (hini : Cond.initialized C ∈ TT)
    (hG : jx_G D cl tys NW s) (hw : jx_w D cl A H0 L f H locs) (hc : cl[ci]? = some (C, T, N)) {fs : List Value} (hfs : ∀ j, j < N → defaultValue (ty j) = vp_V fs j) (hcells : cells + 1 ≤ R.cells) (hslots : slots + N ≤ R.slots) (hdg : decode cc pc = .ok (.new index, 3))
    (kk : ∀ (q : Nat) (H1 : Heap), q ∉ L → jx_w D cl A H0 (L ++ [q]) (va_up f q (.inr (ci, fs))) H1 locs → W p l e R s m args below meth c H1 locs (cells + 1) (slots + N) Q (F0 m (pc + 3) ls (.ref q :: rest))) : W p l e R s m args below meth c H locs cells slots Q (F0 m pc ls rest) := by
  refine va_new hexec hb hts hin ty hty hown (hts _ hcl) (hts _ hinst) (hts _ hini) hG.1 hw.1 hw.2.1 hw.2.2.1 hw.2.2.2 hc hfs hcells hslots hdg fun q H1 h1 h2 h3 => ?_
  obtain ⟨hq, hw1⟩ := jx_pushw hw h1 h2 h3
  exact kk q H1 hq hw1
theorem jx_last1 {tys : List (ClassId × FieldType)} {x : ClassId × FieldType} : (tys ++ [x])[tys.length]? = some x := by simp
theorem jx_newa (hexec : p.tables.exec = Jvm.exec) (hb : c.code = cc) {atype : ArrayType} (hts : ∀ w ∈ TT, w.before args s = true) (harr : Cond.arrayClass (newarray.typeOf atype) ∈ TT) {ty : FieldType} (hty : newarray.typeOf atype = ty) (hG : jx_G D cl tys NW s) (hw : jx_w D cl A H0 L f H locs) (t0 : Nat) {cA : ClassId} (ht : tys[t0]? = some (cA, ty))
    {n : Int32} {N' : Nat} {a0 : vp_A} (ha : ∀ cA : ClassId, vp_cell cA a0 = arrV cA N' (fun _ => defaultValue ty)) (hn : ¬ n < 0) (hN : n.toNatClampNeg = N') (hbytes : N' * componentBytes ty ≤ 536870912) (hcells : cells + 1 ≤ R.cells) (hslots : slots + N' ≤ R.slots) (hdg : decode cc pc = .ok (.newarray atype, 2))
    (kk : ∀ (q : Nat) (H1 : Heap), q ∉ L → jx_w D cl A H0 (L ++ [q]) (va_up f q (.inl (cA, a0))) H1 locs → W p l e R s m args below meth c H1 locs (cells + 1) (slots + N') Q (F0 m (pc + 2) ls (.ref q :: rest))) : W p l e R s m args below meth c H locs cells slots Q (F0 m pc ls (.int n :: rest)) := by
  refine va_newa hexec hb (hts _ harr) hty hG.1 hw.1 hw.2.1 hw.2.2.1 hw.2.2.2 ha hn hN hbytes hcells hslots hdg fun q cA' H1 hK1 h1 h2 h3 => ?_
  have e1 : cA' = cA := jx_RA_inj (hK1.2 _ _ jx_last1).2 (hG.1.2 t0 _ ht).2
  subst e1
  obtain ⟨hq, hw1⟩ := jx_pushw hw h1 h2 h3
  exact kk q H1 hq hw1
theorem jx_newq (hexec : p.tables.exec = Jvm.exec) (hb : c.code = cc) {own C : String} {index : Nat} (hts : ∀ w ∈ TT, w.before args s = true) (hown : s.vm.findClass own = some m.cls) (hclink : Cond.classLink own index C ∈ TT) (hover : Cond.arrayOver (.object C) ∈ NW) (hG : jx_G D cl tys NW s) (hw : jx_w D cl A H0 L f H locs) (t0 : Nat) {cA : ClassId} (ht : tys[t0]? = some (cA, .object C))
    {n : Int32} {N' : Nat} (hn : ¬ n < 0) (hN : n.toNatClampNeg = N') (hbytes : N' * 4 ≤ 536870912) (hcells : cells + 1 ≤ R.cells) (hslots : slots + N' ≤ R.slots) (hdg : decode cc pc = .ok (.anewarray index, 3))
    (kk : ∀ (q : Nat) (H1 : Heap), q ∉ L → jx_w D cl A H0 (L ++ [q]) (va_up f q (.inl (cA, N', .inr (.inr (.inr (.inr (fun _ => none))))))) H1 locs → W p l e R s m args below meth c H1 locs (cells + 1) (slots + N') Q (F0 m (pc + 3) ls (.ref q :: rest))) : W p l e R s m args below meth c H locs cells slots Q (F0 m pc ls (.int n :: rest)) := by
  refine va_newq hexec hb hown (hts _ hclink) (hG.2.1 _ hover) hG.1 hw.1 hw.2.1 hw.2.2.1 hw.2.2.2 hn hN hbytes hcells hslots hdg fun q cA' H1 hK1 h1 h2 h3 => ?_
  have e1 : cA' = cA := jx_RA_inj (hK1.2 _ _ jx_last1).2 (hG.1.2 t0 _ ht).2
  subst e1
  obtain ⟨hq, hw1⟩ := jx_pushw hw h1 h2 h3
  exact kk q H1 hq hw1
/-! an index that is a Nat; references that may be null -/
theorem jx_ialdI (hexec : p.tables.exec = Jvm.exec) (hb : c.code = cc) (hG : jx_G D cl tys NW s) (hw : jx_w D cl A H0 L f H locs) (ha : a ∈ L) (t0 : Nat) {cA : ClassId} {n : Nat} {g : Nat → Int32} (hfa : f a = .inl (cA, n, .inl g)) (ht : tys[t0]? = some (cA, .int)) {j : Nat} (hj : j < n) (hn : n < 2 ^ 31) (hdg : decode cc pc = .ok (.iaload, 1))
    (kk : W p l e R s m args below meth c H locs cells slots Q (F0 m (pc + 1) ls (.int (g j) :: rest))) : W p l e R s m args below meth c H locs cells slots Q (F0 m pc ls (.int (nI j) :: .ref a :: rest)) := by
  refine jx_iald hexec hb hG hw ha t0 hfa ht (vp_in_nI hj hn) hdg ?_
  rw [nI_clamp (Nat.lt_trans hj hn)]
  exact kk
theorem jx_laldI (hexec : p.tables.exec = Jvm.exec) (hb : c.code = cc) (hG : jx_G D cl tys NW s) (hw : jx_w D cl A H0 L f H locs) (ha : a ∈ L) (t0 : Nat) {cA : ClassId} {n : Nat} {g : Nat → Int64} (hfa : f a = .inl (cA, n, .inr (.inl g))) (ht : tys[t0]? = some (cA, .long)) {j : Nat} (hj : j < n) (hn : n < 2 ^ 31) (hdg : decode cc pc = .ok (.laload, 1))
    (kk : W p l e R s m args below meth c H locs cells slots Q (F0 m (pc + 1) ls (.long (g j) :: rest))) : W p l e R s m args below meth c H locs cells slots Q (F0 m pc ls (.int (nI j) :: .ref a :: rest)) := by
  refine jx_lald hexec hb hG hw ha t0 hfa ht (vp_in_nI hj hn) hdg ?_
  rw [nI_clamp (Nat.lt_trans hj hn)]
  exact kk
theorem jx_aldqI (hexec : p.tables.exec = Jvm.exec) (hb : c.code = cc) (hG : jx_G D cl tys NW s) (hw : jx_w D cl A H0 L f H locs) (ha : a ∈ L) (t0 : Nat) {cA : ClassId} {C : String} {n : Nat} {g : Nat → Option Nat} (hfa : f a = .inl (cA, n, .inr (.inr (.inr (.inr g))))) (ht : tys[t0]? = some (cA, .object C)) {j : Nat} (hj : j < n) (hn : n < 2 ^ 31) (hdg : decode cc pc = .ok (.aaload, 1))
    (kk : W p l e R s m args below meth c H locs cells slots Q (F0 m (pc + 1) ls (va_rf (g j) :: rest))) : W p l e R s m args below meth c H locs cells slots Q (F0 m pc ls (.int (nI j) :: .ref a :: rest)) := by
  refine jx_aldq hexec hb hG hw ha t0 hfa ht (vp_in_nI hj hn) hdg ?_
  rw [nI_clamp (Nat.lt_trans hj hn)]
  exact kk
theorem jx_iastI (hexec : p.tables.exec = Jvm.exec) (hb : c.code = cc) (hG : jx_G D cl tys NW s) (hw : jx_w D cl A H0 L f H locs) (ha : a ∈ L) (t0 : Nat) {cA : ClassId} {n : Nat} {g : Nat → Int32} (hfa : f a = .inl (cA, n, .inl g)) (ht : tys[t0]? = some (cA, .int)) {j : Nat} {x : Int32} (hj : j < n) (hn : n < 2 ^ 31) (hdg : decode cc pc = .ok (.iastore, 1))
    (kk : ∀ (H1 : Heap) (locs1 : List Loc), jx_w D cl A H0 L (va_up f a (.inl (cA, n, .inl (upd g j x)))) H1 locs1 → W p l e R s m args below meth c H1 locs1 cells slots Q (F0 m (pc + 1) ls rest)) : W p l e R s m args below meth c H locs cells slots Q (F0 m pc ls (.int x :: .int (nI j) :: .ref a :: rest)) := by
  refine jx_iast hexec hb hG hw ha t0 hfa ht (vp_in_nI hj hn) hdg ?_
  rw [nI_clamp (Nat.lt_trans hj hn)]
  exact kk
theorem jx_lastI (hexec : p.tables.exec = Jvm.exec) (hb : c.code = cc) (hG : jx_G D cl tys NW s) (hw : jx_w D cl A H0 L f H locs) (ha : a ∈ L) (t0 : Nat) {cA : ClassId} {n : Nat} {g : Nat → Int64} (hfa : f a = .inl (cA, n, .inr (.inl g))) (ht : tys[t0]? = some (cA, .long)) {j : Nat} {x : Int64} (hj : j < n) (hn : n < 2 ^ 31) (hdg : decode cc pc = .ok (.lastore, 1))
    (kk : ∀ (H1 : Heap) (locs1 : List Loc), jx_w D cl A H0 L (va_up f a (.inl (cA, n, .inr (.inl (vp_updL g j x))))) H1 locs1 → W p l e R s m args below meth c H1 locs1 cells slots Q (F0 m (pc + 1) ls rest)) : W p l e R s m args below meth c H locs cells slots Q (F0 m pc ls (.long x :: .int (nI j) :: .ref a :: rest)) := by
  refine jx_last hexec hb hG hw ha t0 hfa ht (vp_in_nI hj hn) hdg ?_
  rw [nI_clamp (Nat.lt_trans hj hn)]
  exact kk
/-- any reference of a kind goes into an array of that kind -/
theorem jx_astqI (hexec : p.tables.exec = Jvm.exec) (hb : c.code = cc) (hG : jx_G D cl tys NW s) (hw : jx_w D cl A H0 L f H locs) (ha : a ∈ L) (t0 ci : Nat) {cA : ClassId} {r : vw_C} {n : Nat} {v : Option Nat} {g : Nat → Option Nat} (hfa : f a = .inl (cA, n, .inr (.inr (.inr (.inr g))))) (ht : tys[t0]? = some (cA, .object r.1)) (hv : ∀ x, v = some x → x ∈ L ∧ ∃ vs, f x = .inr (ci, vs)) (hc : cl[ci]? = some r) {j : Nat} (hj : j < n) (hn : n < 2 ^ 31) (hdg : decode cc pc = .ok (.aastore, 1))
    (kk : ∀ (H1 : Heap) (locs1 : List Loc), jx_w D cl A H0 L (va_up f a (.inl (cA, n, .inr (.inr (.inr (.inr (va_up g j v))))))) H1 locs1 → W p l e R s m args below meth c H1 locs1 cells slots Q (F0 m (pc + 1) ls rest)) : W p l e R s m args below meth c H locs cells slots Q (F0 m pc ls (va_rf v :: .int (nI j) :: .ref a :: rest)) := by
  cases v with
  | none =>
    refine jx_astqN hexec hb hG hw ha t0 hfa ht (vp_in_nI hj hn) hdg ?_
    rw [nI_clamp (Nat.lt_trans hj hn)]
    exact kk
  | some x =>
    obtain ⟨h1, vs, h2⟩ := hv x rfl
    refine jx_astq hexec hb hG hw ha t0 ci hfa ht h1 h2 hc (vp_in_nI hj hn) hdg ?_
    rw [nI_clamp (Nat.lt_trans hj hn)]
    exact kk
theorem jx_aload_nq (hexec : p.tables.exec = Jvm.exec) (hb : c.code = cc) {k : Fin 4} {i : Nat} {r : Option Nat} (hdg : decode cc pc = .ok (.aload_n k, 1)) (hi : (k : Nat) = i) (hl : ls[i]? = some (.val (va_rf r)))
    (kk : W p l e R s m args below meth c H locs cells slots Q (F0 m (pc + 1) ls (va_rf r :: rest))) : W p l e R s m args below meth c H locs cells slots Q (F0 m pc ls rest) := by
  cases r with
  | none => exact lv_aload_nN hexec hb hdg hi hl kk
  | some x => exact lv_aload_n hexec hb hdg hi hl kk
theorem jx_aloadq (hexec : p.tables.exec = Jvm.exec) (hb : c.code = cc) {i : Nat} {r : Option Nat} (hdg : decode cc pc = .ok (.aload i, 2)) (hl : ls[i]? = some (.val (va_rf r)))
    (kk : W p l e R s m args below meth c H locs cells slots Q (F0 m (pc + 2) ls (va_rf r :: rest))) : W p l e R s m args below meth c H locs cells slots Q (F0 m pc ls rest) := by
  cases r with
  | none => exact lv_aloadN hexec hb hdg hl kk
  | some x => exact lv_aload hexec hb hdg hl kk
theorem jx_astore_nq (hexec : p.tables.exec = Jvm.exec) (hb : c.code = cc) {k : Fin 4} {i nL : Nat} {r : Option Nat} {lv lv' : List (Nat × Value)} (hdg : decode cc pc = .ok (.astore_n k, 1)) (hi : (k : Nat) = i) (h : lv_has ls nL lv) (hn : i < nL) (hl : (i, va_rf r) :: lv.filter (fun q => !(q.1 == i) && !(q.1 + 1 == i && q.2.category == 2)) = lv')
    (kk : ∀ ls' : Array Slot, lv_has ls' nL lv' → W p l e R s m args below meth c H locs cells slots Q (F0 m (pc + 1) ls' rest)) : W p l e R s m args below meth c H locs cells slots Q (F0 m pc ls (va_rf r :: rest)) := by
  cases r with
  | none => exact lv_astore_nN hexec hb hdg hi h hn hl kk
  | some x => exact lv_astore_n hexec hb hdg hi h hn hl kk
theorem jx_astoreq (hexec : p.tables.exec = Jvm.exec) (hb : c.code = cc) {i nL : Nat} {r : Option Nat} {lv lv' : List (Nat × Value)} (hdg : decode cc pc = .ok (.astore i, 2)) (h : lv_has ls nL lv) (hn : i < nL) (hl : (i, va_rf r) :: lv.filter (fun q => !(q.1 == i) && !(q.1 + 1 == i && q.2.category == 2)) = lv')
    (kk : ∀ ls' : Array Slot, lv_has ls' nL lv' → W p l e R s m args below meth c H locs cells slots Q (F0 m (pc + 2) ls' rest)) : W p l e R s m args below meth c H locs cells slots Q (F0 m pc ls (va_rf r :: rest)) := by
  cases r with
  | none => exact lv_astoreN hexec hb hdg h hn hl kk
  | some x => exact lv_astore hexec hb hdg h hn hl kk
theorem jx_ifnullq (hexec : p.tables.exec = Jvm.exec) (hb : c.code = cc) {r : Option Nat} {off : Int} {tgt : Nat} (hdg : decode cc pc = .ok (.ifnull off, 3)) (ht : (pc : Int) + off = (tgt : Int)) (kn : r = none → W p l e R s m args below meth c H locs cells slots Q (F0 m tgt ls rest)) (ks : ∀ x, r = some x → W p l e R s m args below meth c H locs cells slots Q (F0 m (pc + 3) ls rest)) : W p l e R s m args below meth c H locs cells slots Q (F0 m pc ls (va_rf r :: rest)) := by
  cases r with
  | none => exact lv_ifnullN hexec hb hdg ht (kn rfl)
  | some x => exact lv_ifnull hexec hb hdg (ks x rfl)
theorem jx_ifnonnullq (hexec : p.tables.exec = Jvm.exec) (hb : c.code = cc) {r : Option Nat} {off : Int} {tgt : Nat} (hdg : decode cc pc = .ok (.ifnonnull off, 3)) (ht : (pc : Int) + off = (tgt : Int)) (kn : r = none → W p l e R s m args below meth c H locs cells slots Q (F0 m (pc + 3) ls rest)) (ks : ∀ x, r = some x → W p l e R s m args below meth c H locs cells slots Q (F0 m tgt ls rest)) : W p l e R s m args below meth c H locs cells slots Q (F0 m pc ls (va_rf r :: rest)) := by
  cases r with
  | none => exact lv_ifnonnullN hexec hb hdg (kn rfl)
  | some x => exact lv_ifnonnull hexec hb hdg ht (ks x rfl)
/-! ends -/
theorem jx_iret {L0 : List Nat} {f0 : Nat → va_E} {post : Option Value → List Nat → (Nat → va_E) → Prop} {mc ms : Nat} {v : Int32} (hexec : p.tables.exec = Jvm.exec) (hb : c.code = cc) (hr : meth.sig.returnType = some .int) (hlk : meth.locks = false) (hw : jx_w D cl (va_A (va_pl L0 f0) s.heap.size) s.heap L f H locs) (hcl : cells ≤ mc) (hsl : slots ≤ ms) (hdg : decode cc pc = .ok (.ireturn, 1)) (hp : post (some (.int v)) L f) :
    W p l e R s m args below meth c H locs cells slots (MQ below (jx_Q D cl s.heap.size L0 f0 post) args s mc ms (va_A (va_pl L0 f0) s.heap.size)) (F0 m pc ls [.int v]) :=
  W.widen hcl hsl (W.iret hexec hb hr (fun t ht _ => ⟨⟨some (.int v), L, f, rfl, hp, by rw [ht]; exact hw.1, hw.2.1⟩, hw.2.2.1.F ht⟩) (fun q hq => hw.2.2.1.2.2 q hq) hdg hlk)
theorem jx_zret {L0 : List Nat} {f0 : Nat → va_E} {post : Option Value → List Nat → (Nat → va_E) → Prop} {mc ms : Nat} {v : Int32} (hexec : p.tables.exec = Jvm.exec) (hb : c.code = cc) (hr : meth.sig.returnType = some .boolean) (hn : narrow .boolean (.int v) = .int v) (hlk : meth.locks = false) (hw : jx_w D cl (va_A (va_pl L0 f0) s.heap.size) s.heap L f H locs) (hcl : cells ≤ mc) (hsl : slots ≤ ms) (hdg : decode cc pc = .ok (.ireturn, 1)) (hp : post (some (.int v)) L f) :
    W p l e R s m args below meth c H locs cells slots (MQ below (jx_Q D cl s.heap.size L0 f0 post) args s mc ms (va_A (va_pl L0 f0) s.heap.size)) (F0 m pc ls [.int v]) :=
  W.widen hcl hsl (W.zret hexec hb hr hn (fun t ht _ => ⟨⟨some (.int v), L, f, rfl, hp, by rw [ht]; exact hw.1, hw.2.1⟩, hw.2.2.1.F ht⟩) (fun q hq => hw.2.2.1.2.2 q hq) hdg hlk)
theorem jx_lret {L0 : List Nat} {f0 : Nat → va_E} {post : Option Value → List Nat → (Nat → va_E) → Prop} {mc ms : Nat} {v : Int64} (hexec : p.tables.exec = Jvm.exec) (hb : c.code = cc) (hr : meth.sig.returnType = some .long) (hlk : meth.locks = false) (hw : jx_w D cl (va_A (va_pl L0 f0) s.heap.size) s.heap L f H locs) (hcl : cells ≤ mc) (hsl : slots ≤ ms) (hdg : decode cc pc = .ok (.lreturn, 1)) (hp : post (some (.long v)) L f) :
    W p l e R s m args below meth c H locs cells slots (MQ below (jx_Q D cl s.heap.size L0 f0 post) args s mc ms (va_A (va_pl L0 f0) s.heap.size)) (F0 m pc ls [.long v]) :=
  W.widen hcl hsl (W.lret hexec hb hr (fun t ht _ => ⟨⟨some (.long v), L, f, rfl, hp, by rw [ht]; exact hw.1, hw.2.1⟩, hw.2.2.1.F ht⟩) (fun q hq => hw.2.2.1.2.2 q hq) hdg hlk)
theorem jx_vret {L0 : List Nat} {f0 : Nat → va_E} {post : Option Value → List Nat → (Nat → va_E) → Prop} {mc ms : Nat} (hexec : p.tables.exec = Jvm.exec) (hb : c.code = cc) (hr : meth.sig.returnType = none) (hlk : meth.locks = false) (hw : jx_w D cl (va_A (va_pl L0 f0) s.heap.size) s.heap L f H locs) (hcl : cells ≤ mc) (hsl : slots ≤ ms) (hdg : decode cc pc = .ok (.return_, 1)) (hp : post none L f) :
    W p l e R s m args below meth c H locs cells slots (MQ below (jx_Q D cl s.heap.size L0 f0 post) args s mc ms (va_A (va_pl L0 f0) s.heap.size)) (F0 m pc ls []) :=
  W.widen hcl hsl (W.vret hexec hb hr (fun t ht _ => ⟨⟨none, L, f, rfl, hp, by rw [ht]; exact hw.1, hw.2.1⟩, hw.2.2.1.F ht⟩) (fun q hq => hw.2.2.1.2.2 q hq) hdg hlk)
theorem jx_aret {L0 : List Nat} {f0 : Nat → va_E} {post : Option Value → List Nat → (Nat → va_E) → Prop} {mc ms : Nat} {v : Value} {rn : String} (hexec : p.tables.exec = Jvm.exec) (hb : c.code = cc) (hr : meth.sig.returnType = some (.object rn)) (hv : v = .null ∨ ∃ a, v = .ref a) (hlk : meth.locks = false) (hw : jx_w D cl (va_A (va_pl L0 f0) s.heap.size) s.heap L f H locs) (hcl : cells ≤ mc) (hsl : slots ≤ ms) (hdg : decode cc pc = .ok (.areturn, 1)) (hp : post (some v) L f) :
    W p l e R s m args below meth c H locs cells slots (MQ below (jx_Q D cl s.heap.size L0 f0 post) args s mc ms (va_A (va_pl L0 f0) s.heap.size)) (F0 m pc ls [v]) :=
  W.widen hcl hsl (W.aret hexec hb hr (Or.inl ⟨rn, rfl⟩) hv (fun t ht _ => ⟨⟨some v, L, f, rfl, hp, by rw [ht]; exact hw.1, hw.2.1⟩, hw.2.2.1.F ht⟩) (fun q hq => hw.2.2.1.2.2 q hq) hdg hlk)
/-! calls -/
theorem jx_call {mc ms : Nat} {st0 : List Value} {av : Array Value} {post : Option Value → List Nat → (Nat → va_E) → Prop} (hr : va_Run p l e R s m args below meth c H locs cells slots mc ms (F0 m pc ls st0) rest (jx_Q D cl H.size L f post av) (va_A (va_pl L f) H.size)) (hw : jx_w D cl A H0 L f H locs)
    (kk : ∀ (v : Option Value) (L' : List Nat) (f' : Nat → va_E) (H1 : Heap) (locs1 : List Loc), post v L' f' → jx_w D cl A H0 L' f' H1 locs1 → (H.size ≤ H1.size ∧ (∀ q : Nat, q < H.size → ¬ va_A (va_pl L f) H.size q → H1[q]? = H[q]?) ∧ va_D (va_A (va_pl L f) H.size) (va_pl L' f')) → W p l e R s m args below meth c H1 locs1 (cells + mc) (slots + ms) Q (F0 m (pc + 3) ls (v.toList ++ rest))) : W p l e R s m args below meth c H locs cells slots Q (F0 m pc ls st0) := by
  intro T hT X
  obtain ⟨v, st₀, t, T', Lo, h0, X', hL, e1, e2, ⟨⟨v', L', f', hv, hp, hP1, hD1⟩, hz, hk⟩, st⟩ := hr T hT X
  cases hv
  rw [h0] at hz hk
  have hAs := jx_sub hw
  have hS := hw.2.2.1
  obtain ⟨t2, a1, b1⟩ := kk v L' f' T'.heap (locs ++ Lo) hp ⟨by rw [e1]; exact hP1, hD1.weaken (fun k q _ h => hAs q.1 h), ⟨Nat.le_trans hS.1 (by rw [e1]; exact hz), fun q h1 h2 => by rw [e1, hk q (Nat.lt_of_lt_of_le h1 hS.1) (fun z => h2 (hAs q z))]; exact hS.2.1 q h1 h2, fun q hq => by
      rcases List.mem_append.mp hq with h | h
      · exact hS.2.2 q h
      · exact hAs _ (hL q h)⟩, hw.2.2.2⟩ ⟨by rw [e1]; exact hz, fun q h1 h2 => by rw [e1]; exact hk q h1 h2, hD1⟩ T' rfl X'
  exact ⟨t2, st t2 a1, b1⟩
theorem jx_blind {sz : Nat} {av : List Value} : FrameBlind (va_Pc av (jx_Pre D cl tys NW sz L f)) := fun a U g mk q => ⟨q.1, q.2.1, q.2.2.1, jx_G.same (u := U) (U := U.calling g mk a) rfl q.2.2.2.1, q.2.2.2.2⟩
theorem jx_pre {av : List Value} (hG : jx_G D cl tys NW s) (hw : jx_w D cl A H0 L f H locs) : ∀ U : State, U.heap = H → s.WarmedH U.vm → va_Pc av (jx_Pre D cl tys NW H.size L f) av.toArray U := fun U hU hW => ⟨rfl, by rw [hU], by rw [hU]; exact hw.1, hG.warm hW, hw.2.1.weaken (fun _ _ _ _ => trivial)⟩
theorem jx_recv {b ci : Nat} {fs : List Value} {r : vw_C} (hG : jx_G D cl tys NW s) (hw : jx_w D cl A H0 L f H locs) (hbL : b ∈ L) (hfb : f b = .inr (ci, fs)) (hc : cl[ci]? = some r) : ∃ cell : Cell, H[b]? = some cell ∧ cell.vm.isStatics = false ∧ s.vm.findClass r.1 = some cell.cls := by
  obtain ⟨q0, hq0⟩ := jx_pos hbL hfb
  exact va_recv hG.1 hw.1 hc hq0
theorem jx_goodV {own : String} {index : Nat} {y : MethodName} {bytes : ByteArray} {n : Nat} {ret : Option FieldType} {C : String} (hTT : GoodIn TT TT) (hcode : Cond.code y bytes n ret ∈ TT) (hl : Cond.methodLink own index y ∈ TT) (hi : Cond.instanceMethod y ∈ TT) (hse : Cond.selects C y y ∈ TT) (hini : Cond.initialized C ∈ TT) : GoodIn TT (wsV own index C y (Cond.code y bytes n ret :: TT)) := by
  intro w h
  simp only [wsV, List.mem_append, List.mem_cons, List.not_mem_nil, or_false] at h
  rcases h with (h | h | h | h) | h | h
  · exact h ▸ hTT _ hl
  · exact h ▸ hTT _ hi
  · exact h ▸ hTT _ hse
  · exact h ▸ hTT _ hini
  · exact h ▸ hTT _ hcode
  · exact hTT _ h
theorem jx_goodC {y : MethodName} {bytes : ByteArray} {n : Nat} {ret : Option FieldType} (hTT : GoodIn TT TT) (hcode : Cond.code y bytes n ret ∈ TT) : GoodIn TT (Cond.code y bytes n ret :: TT) := by
  intro w h
  rcases List.mem_cons.mp h with h | h
  · exact h ▸ hTT _ hcode
  · exact hTT _ h
theorem jx_callV {own C : String} {y : MethodName} {bytes : ByteArray} {n index nL b ci : Nat} {ret : Option FieldType} {rm : Room} {As st0 fs : List Value} {r : vw_C} {post : Option Value → List Nat → (Nat → va_E) → Prop} (hx : p.tables.exec = Jvm.exec) (hb : c.code = cc) (hml : c.maxLocals = nL) (hown : s.vm.findClass own = some m.cls) (hts : ∀ w ∈ TT, w.before args s = true) (hTT : GoodIn TT TT) (hG : jx_G D cl tys NW s) (hw : jx_w D cl A H0 L f H locs)
    (hM : jx_M l D cl tys NW TT y bytes n ret rm (.ref b :: As) L f post) (hcode : Cond.code y bytes n ret ∈ TT) (hl : Cond.methodLink own index y ∈ TT) (hi : Cond.instanceMethod y ∈ TT) (hse : Cond.selects C y y ∈ TT) (hini : Cond.initialized C ∈ TT)
    (hd : y.cls = C ∧ y.cls ≠ "java/lang/invoke/MethodHandle" ∧ y.cls ≠ "java/lang/invoke/VarHandle" ∧ (parseMethodDescriptor y.desc).map (fun d => d.parameters.length) = some As.length) (hR : rm.frames + 1 ≤ R.frames ∧ 8 + (n + 11) + rm.locals ≤ R.locals)
    (hbL : b ∈ L) (hfb : f b = .inr (ci, fs)) (hc : cl[ci]? = some r) (hrC : r.1 = C) (hsize : ls.size = nL) (hstack : st0 = As.reverse ++ .ref b :: rest) (hst : (rest.map fun v => v.category).sum ≤ 8) (hdg : decode cc pc = .ok (.invokevirtual index, 3)) (hf : cells + rm.cells ≤ R.cells ∧ slots + rm.slots ≤ R.slots)
    (kk : ∀ (v : Option Value) (L' : List Nat) (f' : Nat → va_E) (H1 : Heap) (locs1 : List Loc), post v L' f' → jx_w D cl A H0 L' f' H1 locs1 → (H.size ≤ H1.size ∧ (∀ q : Nat, q < H.size → ¬ va_A (va_pl L f) H.size q → H1[q]? = H[q]?) ∧ va_D (va_A (va_pl L f) H.size) (va_pl L' f')) → W p l e R s m args below meth c H1 locs1 (cells + rm.cells) (slots + rm.slots) Q (F0 m (pc + 3) ls (v.toList ++ rest))) : W p l e R s m args below meth c H locs cells slots Q (F0 m pc ls st0) := by
  subst hrC
  exact jx_call (va_runV (As := As) (rest := rest) (C := r.1) ⟨hx, hb, hml, hown, hts⟩ (hM H.size) (cwV As.length hts (jx_goodV hTT hcode hl hi hse hini) rfl rfl rfl hd hR) ⟨jx_blind, jx_recv hG hw hbL hfb hc, jx_pre hG hw⟩ rfl rfl hsize hstack (lv_room hst) hdg hf) hw kk
theorem jx_callVN {own C host : String} {y : MethodName} {bytes : ByteArray} {n index nL b ci : Nat} {ret : Option FieldType} {rm : Room} {As st0 fs : List Value} {r : vw_C} {post : Option Value → List Nat → (Nat → va_E) → Prop} (hx : p.tables.exec = Jvm.exec) (hb : c.code = cc) (hml : c.maxLocals = nL) (hown : s.vm.findClass own = some m.cls) (hts : ∀ w ∈ TT, w.before args s = true) (hTT : GoodIn TT TT) (hG : jx_G D cl tys NW s) (hw : jx_w D cl A H0 L f H locs)
    (hM : jx_M l D cl tys NW TT y bytes n ret rm (.ref b :: As) L f post) (hcode : Cond.code y bytes n ret ∈ TT) (hl : Cond.methodLinkNest own index y host ∈ NW) (hi : Cond.instanceMethod y ∈ TT) (hse : Cond.selects C y y ∈ TT) (hini : Cond.initialized y.cls ∈ TT)
    (hd : y.cls ≠ "java/lang/invoke/MethodHandle" ∧ y.cls ≠ "java/lang/invoke/VarHandle" ∧ (parseMethodDescriptor y.desc).map (fun d => d.parameters.length) = some As.length) (hR : rm.frames + 1 ≤ R.frames ∧ 8 + (n + 11) + rm.locals ≤ R.locals)
    (hbL : b ∈ L) (hfb : f b = .inr (ci, fs)) (hc : cl[ci]? = some r) (hrC : r.1 = C) (hsize : ls.size = nL) (hstack : st0 = As.reverse ++ .ref b :: rest) (hst : (rest.map fun v => v.category).sum ≤ 8) (hdg : decode cc pc = .ok (.invokevirtual index, 3)) (hf : cells + rm.cells ≤ R.cells ∧ slots + rm.slots ≤ R.slots)
    (kk : ∀ (v : Option Value) (L' : List Nat) (f' : Nat → va_E) (H1 : Heap) (locs1 : List Loc), post v L' f' → jx_w D cl A H0 L' f' H1 locs1 → (H.size ≤ H1.size ∧ (∀ q : Nat, q < H.size → ¬ va_A (va_pl L f) H.size q → H1[q]? = H[q]?) ∧ va_D (va_A (va_pl L f) H.size) (va_pl L' f')) → W p l e R s m args below meth c H1 locs1 (cells + rm.cells) (slots + rm.slots) Q (F0 m (pc + 3) ls (v.toList ++ rest))) : W p l e R s m args below meth c H locs cells slots Q (F0 m pc ls st0) := by
  subst hrC
  exact jx_call (va_runVN (As := As) (rest := rest) (C := r.1) ⟨hx, hb, hml, hown, hts⟩ (hM H.size) ⟨va_cnB As.length hts (jx_goodC hTT hcode) rfl rfl rfl (hG.2.1 _ hl) (hts _ hini) hd hR, hts _ hi, hts _ hse⟩ ⟨jx_blind, jx_recv hG hw hbL hfb hc, jx_pre hG hw⟩ rfl rfl hsize hstack (lv_room hst) hdg hf) hw kk
theorem jx_callS {own : String} {y : MethodName} {bytes : ByteArray} {n index nL : Nat} {ret : Option FieldType} {rm : Room} {As st0 : List Value} {post : Option Value → List Nat → (Nat → va_E) → Prop} (hx : p.tables.exec = Jvm.exec) (hb : c.code = cc) (hml : c.maxLocals = nL) (hown : s.vm.findClass own = some m.cls) (hts : ∀ w ∈ TT, w.before args s = true) (hTT : GoodIn TT TT) (hG : jx_G D cl tys NW s) (hw : jx_w D cl A H0 L f H locs)
    (hM : jx_M l D cl tys NW TT y bytes n ret rm As L f post) (hcode : Cond.code y bytes n ret ∈ TT) (hl : Cond.methodLink own index y ∈ TT) (hsta : Cond.static y ∈ TT) (hini : Cond.initialized y.cls ∈ TT)
    (hd : y.cls ≠ "java/lang/invoke/MethodHandle" ∧ y.cls ≠ "java/lang/invoke/VarHandle" ∧ (parseMethodDescriptor y.desc).map (fun d => d.parameters.length) = some As.length) (hR : rm.frames + 1 ≤ R.frames ∧ 8 + (n + 11) + rm.locals ≤ R.locals)
    (hsize : ls.size = nL) (hstack : st0 = As.reverse ++ rest) (hst : (rest.map fun v => v.category).sum ≤ 8) (hdg : decode cc pc = .ok (.invokestatic index, 3)) (hf : cells + rm.cells ≤ R.cells ∧ slots + rm.slots ≤ R.slots)
    (kk : ∀ (v : Option Value) (L' : List Nat) (f' : Nat → va_E) (H1 : Heap) (locs1 : List Loc), post v L' f' → jx_w D cl A H0 L' f' H1 locs1 → (H.size ≤ H1.size ∧ (∀ q : Nat, q < H.size → ¬ va_A (va_pl L f) H.size q → H1[q]? = H[q]?) ∧ va_D (va_A (va_pl L f) H.size) (va_pl L' f')) → W p l e R s m args below meth c H1 locs1 (cells + rm.cells) (slots + rm.slots) Q (F0 m (pc + 3) ls (v.toList ++ rest))) : W p l e R s m args below meth c H locs cells slots Q (F0 m pc ls st0) :=
  jx_call (va_runS (As := As) (rest := rest) ⟨hx, hb, hml, hown, hts⟩ (hM H.size) ⟨callB_of As.length hts (jx_goodC hTT hcode) rfl rfl rfl (hts _ hini) (hts _ hl) hd hR, hts _ hsta⟩ ⟨jx_blind, jx_pre hG hw⟩ rfl rfl hsize hstack (lv_room hst) hdg hf) hw kk
theorem jx_callSN {own host : String} {y : MethodName} {bytes : ByteArray} {n index nL : Nat} {ret : Option FieldType} {rm : Room} {As st0 : List Value} {post : Option Value → List Nat → (Nat → va_E) → Prop} (hx : p.tables.exec = Jvm.exec) (hb : c.code = cc) (hml : c.maxLocals = nL) (hown : s.vm.findClass own = some m.cls) (hts : ∀ w ∈ TT, w.before args s = true) (hTT : GoodIn TT TT) (hG : jx_G D cl tys NW s) (hw : jx_w D cl A H0 L f H locs)
    (hM : jx_M l D cl tys NW TT y bytes n ret rm As L f post) (hcode : Cond.code y bytes n ret ∈ TT) (hl : Cond.methodLinkNest own index y host ∈ NW) (hsta : Cond.static y ∈ TT) (hini : Cond.initialized y.cls ∈ TT)
    (hd : y.cls ≠ "java/lang/invoke/MethodHandle" ∧ y.cls ≠ "java/lang/invoke/VarHandle" ∧ (parseMethodDescriptor y.desc).map (fun d => d.parameters.length) = some As.length) (hR : rm.frames + 1 ≤ R.frames ∧ 8 + (n + 11) + rm.locals ≤ R.locals)
    (hsize : ls.size = nL) (hstack : st0 = As.reverse ++ rest) (hst : (rest.map fun v => v.category).sum ≤ 8) (hdg : decode cc pc = .ok (.invokestatic index, 3)) (hf : cells + rm.cells ≤ R.cells ∧ slots + rm.slots ≤ R.slots)
    (kk : ∀ (v : Option Value) (L' : List Nat) (f' : Nat → va_E) (H1 : Heap) (locs1 : List Loc), post v L' f' → jx_w D cl A H0 L' f' H1 locs1 → (H.size ≤ H1.size ∧ (∀ q : Nat, q < H.size → ¬ va_A (va_pl L f) H.size q → H1[q]? = H[q]?) ∧ va_D (va_A (va_pl L f) H.size) (va_pl L' f')) → W p l e R s m args below meth c H1 locs1 (cells + rm.cells) (slots + rm.slots) Q (F0 m (pc + 3) ls (v.toList ++ rest))) : W p l e R s m args below meth c H locs cells slots Q (F0 m pc ls st0) :=
  jx_call (va_runSN (As := As) (rest := rest) ⟨hx, hb, hml, hown, hts⟩ (hM H.size) ⟨va_cnB As.length hts (jx_goodC hTT hcode) rfl rfl rfl (hG.2.1 _ hl) (hts _ hini) hd hR, hts _ hsta, trivial⟩ ⟨jx_blind, jx_pre hG hw⟩ rfl rfl hsize hstack (lv_room hst) hdg hf) hw kk
theorem jx_callI {own : String} {y : MethodName} {bytes : ByteArray} {n index nL b : Nat} {rm : Room} {As st0 : List Value} {post : Option Value → List Nat → (Nat → va_E) → Prop} (hx : p.tables.exec = Jvm.exec) (hb : c.code = cc) (hml : c.maxLocals = nL) (hown : s.vm.findClass own = some m.cls) (hts : ∀ w ∈ TT, w.before args s = true) (hTT : GoodIn TT TT) (hG : jx_G D cl tys NW s) (hw : jx_w D cl A H0 L f H locs)
    (hM : jx_M l D cl tys NW TT y bytes n none rm (.ref b :: As) L f post) (hcode : Cond.code y bytes n none ∈ TT) (hl : Cond.methodLink own index y ∈ TT) (hi : Cond.instanceMethod y ∈ TT) (hini : Cond.initialized y.cls ∈ TT) (hy1 : y.name = "<init>")
    (hd : y.cls ≠ "java/lang/invoke/MethodHandle" ∧ y.cls ≠ "java/lang/invoke/VarHandle" ∧ (parseMethodDescriptor y.desc).map (fun d => d.parameters.length) = some As.length) (hR : rm.frames + 1 ≤ R.frames ∧ 8 + (n + 11) + rm.locals ≤ R.locals)
    (hsize : ls.size = nL) (hstack : st0 = As.reverse ++ .ref b :: rest) (hst : (rest.map fun v => v.category).sum ≤ 8) (hdg : decode cc pc = .ok (.invokespecial index, 3)) (hf : cells + rm.cells ≤ R.cells ∧ slots + rm.slots ≤ R.slots)
    (kk : ∀ (v : Option Value) (L' : List Nat) (f' : Nat → va_E) (H1 : Heap) (locs1 : List Loc), post v L' f' → jx_w D cl A H0 L' f' H1 locs1 → (H.size ≤ H1.size ∧ (∀ q : Nat, q < H.size → ¬ va_A (va_pl L f) H.size q → H1[q]? = H[q]?) ∧ va_D (va_A (va_pl L f) H.size) (va_pl L' f')) → W p l e R s m args below meth c H1 locs1 (cells + rm.cells) (slots + rm.slots) Q (F0 m (pc + 3) ls (v.toList ++ rest))) : W p l e R s m args below meth c H locs cells slots Q (F0 m pc ls st0) :=
  jx_call (va_runI (As := As) (rest := rest) ⟨hx, hb, hml, hown, hts⟩ (hM H.size) ⟨callB_of As.length hts (jx_goodC hTT hcode) rfl rfl rfl (hts _ hini) (hts _ hl) hd hR, hy1, hts _ hi⟩ ⟨jx_blind, jx_pre hG hw⟩ rfl rfl hsize hstack (lv_room hst) hdg hf) hw kk
theorem jx_callIN {own host : String} {y : MethodName} {bytes : ByteArray} {n index nL b : Nat} {rm : Room} {As st0 : List Value} {post : Option Value → List Nat → (Nat → va_E) → Prop} (hx : p.tables.exec = Jvm.exec) (hb : c.code = cc) (hml : c.maxLocals = nL) (hown : s.vm.findClass own = some m.cls) (hts : ∀ w ∈ TT, w.before args s = true) (hTT : GoodIn TT TT) (hG : jx_G D cl tys NW s) (hw : jx_w D cl A H0 L f H locs)
    (hM : jx_M l D cl tys NW TT y bytes n none rm (.ref b :: As) L f post) (hcode : Cond.code y bytes n none ∈ TT) (hl : Cond.methodLinkNest own index y host ∈ NW) (hi : Cond.instanceMethod y ∈ TT) (hini : Cond.initialized y.cls ∈ TT) (hy1 : y.name = "<init>")
    (hd : y.cls ≠ "java/lang/invoke/MethodHandle" ∧ y.cls ≠ "java/lang/invoke/VarHandle" ∧ (parseMethodDescriptor y.desc).map (fun d => d.parameters.length) = some As.length) (hR : rm.frames + 1 ≤ R.frames ∧ 8 + (n + 11) + rm.locals ≤ R.locals)
    (hsize : ls.size = nL) (hstack : st0 = As.reverse ++ .ref b :: rest) (hst : (rest.map fun v => v.category).sum ≤ 8) (hdg : decode cc pc = .ok (.invokespecial index, 3)) (hf : cells + rm.cells ≤ R.cells ∧ slots + rm.slots ≤ R.slots)
    (kk : ∀ (v : Option Value) (L' : List Nat) (f' : Nat → va_E) (H1 : Heap) (locs1 : List Loc), post v L' f' → jx_w D cl A H0 L' f' H1 locs1 → (H.size ≤ H1.size ∧ (∀ q : Nat, q < H.size → ¬ va_A (va_pl L f) H.size q → H1[q]? = H[q]?) ∧ va_D (va_A (va_pl L f) H.size) (va_pl L' f')) → W p l e R s m args below meth c H1 locs1 (cells + rm.cells) (slots + rm.slots) Q (F0 m (pc + 3) ls (v.toList ++ rest))) : W p l e R s m args below meth c H locs cells slots Q (F0 m pc ls st0) :=
  jx_call (va_runIN (As := As) (rest := rest) ⟨hx, hb, hml, hown, hts⟩ (hM H.size) ⟨va_cnB As.length hts (jx_goodC hTT hcode) rfl rfl rfl (hG.2.1 _ hl) (hts _ hini) hd hR, hy1, hts _ hi⟩ ⟨jx_blind, jx_pre hG hw⟩ rfl rfl hsize hstack (lv_room hst) hdg hf) hw kk
end JXR
/-- what a method's body may use -/
def jx_C (D : va_G) (cl : List vw_C) (tys : List (ClassId × FieldType)) (NW TT : List Cond) (p : Program) (s : State) (m : MethodId) (args : Array Value) (meth : Method) (c : Code) (y : MethodName) (cc : ByteArray) (n : Nat) (ret : Option FieldType) : Prop :=
  p.tables.exec = Jvm.exec ∧ c.code = cc ∧ meth.sig.returnType = ret ∧ meth.locks = false ∧ meth.name = y.name ∧ c.maxLocals = n ∧ s.vm.findClass y.cls = some m.cls ∧ (∀ w ∈ TT, w.before args s = true) ∧ jx_G D cl tys NW s
theorem jx_enter {l : Launch} {D : va_G} {cl : List vw_C} {tys : List (ClassId × FieldType)} {NW TT : List Cond} {y : MethodName} {bytes : ByteArray} {n : Nat} {ret : Option FieldType} {rm : Room} {av : List Value} {L : List Nat} {f : Nat → va_E} {post : Option Value → List Nat → (Nat → va_E) → Prop} (hy : plainName y.cls = true) (hn : (lg_sl av).length ≤ n)
    (body : ∀ (p : Program) (e : Env) (s : State) (m : MethodId) (below : List Frame) (meth : Method) (c : Code), jx_C D cl tys NW TT p s m av.toArray meth c y bytes n ret → jx_w D cl (va_A (va_pl L f) s.heap.size) s.heap L f s.heap [] → ∀ ls : Array Slot, lv_has ls n (lv_args 0 av) →
      W p l e rm s m av.toArray below meth c s.heap [] 0 0 (MQ below (jx_Q D cl s.heap.size L f post) av.toArray s rm.cells rm.slots (va_A (va_pl L f) s.heap.size)) (F0 m 0 ls [])) : jx_M l D cl tys NW TT y bytes n ret rm av L f post := by
  intro sz
  refine Met.ofW (cc := bytes) (maxL := n) (ret := ret) hy rfl ?_
  intro p e s m args below meth c s₁ B hml hv
  obtain ⟨rfl, hsz, hP, hG, hD0⟩ := hv
  subst hsz
  have hts := atoms_spec (ws := Cond.code y bytes n ret :: TT) B.pre
  have hl := lv_entry av (n := n) hn
  rw [lg_entry_eq]
  exact body p e s m below meth c ⟨B.exec, B.bytes, B.returns, B.notSynchronized, (name_of_methodNamed B.named B.method).1, hml, findClass_of_methodNamed B.named, fun w h => hts w (List.mem_cons_of_mem _ h), hG⟩ ⟨hP, hD0.self (sz := s.heap.size), va_S.rf, fun q h => Or.inr h⟩ _ hl
