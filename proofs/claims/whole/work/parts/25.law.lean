/-! THE CLAIM OUT OF ONE WALK OF THE LAW'S BODY. Your part is whole_start (and what it stands on); all else here is the same for every law, but numbers. -/
def R_law : String := "JumpOrderLaw"
def lw_P (b : Addr) (xs : List Int32) (args : Array Value) (s : State) : Prop := args = #[.ref b] ∧ s.IntsAt b xs ∧ xs.length ≤ 2560 ∧ (Jvm.Cond.and given_1 narrow_1).before args s = true
def lw_Q (_ : Array Value) (s : State) (o : Outcome) (t : State) : Prop := o = .returned (some (.int 1)) ∧ Framed s o t [] 600000 7302250
def lw_Z (below : List Frame) (a : Array Value) (s : State) : State → Prop := fun t => ∃ o, t.status = .running ∧ Ended t below o ∧ lw_Q a s o t
/-- the law's own end, with 1 on the stack, nothing written that was there before, its room as the claim has it -/
theorem lw_ret {p : Program} {l : Launch} {e : Env} {s : State} {m : MethodId} {below : List Frame} {meth : Method} {c : Code} {b : Nat} (hx : p.tables.exec = Jvm.exec) (hb : c.code = code) (hr : meth.sig.returnType = ret) (hlocks : meth.locks = false) {pc : Nat} {H : Heap} {ls : Array Slot} (hdg : decode code pc = .ok (.ireturn, 1)) : W p l e room_1 s m #[Value.ref b] below meth c H [] 600000 7302250 (lw_Z below #[Value.ref b] s) (F0 m pc ls [.int 1]) := by
  intro T hT X
  obtain ⟨fs, hret, hrun, hended, hW, hframe⟩ := X.leave (v := some (.int 1)) (hlocks := hlocks) (fun h => by rw [hr] at h; cases h)
  have hmeth' : T.vm.method? m = some meth := X.method'
  refine ⟨T.setFrames fs, ?_, .returned (some (.int 1)), hrun, hended, rfl, ⟨_, rfl⟩, hW, hframe⟩
  jvm_step X.here [X.here.top, hx, hb, hdg, hmeth', hr, ret, narrow_b1]
  (try refine ⟨rfl, ?_⟩); (try refine ⟨rfl, ?_⟩)
  first | (intro acts; rw [hret _ acts rfl rfl rfl]) | rw [hret _ _ rfl rfl rfl]
  exact Steps.refl _
/-- what holds at the law's entry: the machine, the code, the tables' words (any of lw_tbl by 'hts w (by decide +kernel)'), the script of L ints xs at the cell b, what the Statement gives of the start (any of its parts by flat_of_before) -/
def lw_At (p : Program) (s : State) (m : MethodId) (meth : Method) (c : Code) (b L : Nat) (xs : Nat → Int32) : Prop :=
  p.tables.exec = Jvm.exec ∧ c.code = code ∧ meth.sig.returnType = ret ∧ c.maxLocals = 4 ∧ s.vm.findClass R_law = some m.cls ∧ (∀ w ∈ lw_tbl, w.before #[Value.ref b] s = true) ∧ va_X b L xs s s.heap ∧ b < s.heap.size ∧ meth.locks = false ∧ (Jvm.Cond.and given_1 narrow_1).before #[Value.ref b] s = true
section JL
variable {p : Program} {l : Launch} {e : Env} {R : Room} {s : State} {m : MethodId} {args : Array Value} {below : List Frame} {meth : Method} {c : Code} {H : Heap} {locs : List Loc} {cells slots : Nat} {Q : State → Prop}
variable {cc : ByteArray} {pc : Nat} {ls : Array Slot} {rest : List Value} {D : va_G} {cl : List vw_C} {A : Nat → Prop} {H0 : Heap}
theorem jl_sld (hexec : p.tables.exec = Jvm.exec) (hb : c.code = cc) {b L : Nat} {xs : Nat → Int32} (hX : va_X b L xs s H0) (hbl : b < H0.size) (hbA : ¬ A b) (hS : va_S A H0 H locs) {j : Nat} (hj : j < L) (hL : L < 2 ^ 31) (hdg : decode cc pc = .ok (.iaload, 1))
    (kk : W p l e R s m args below meth c H locs cells slots Q (F0 m (pc + 1) ls (.int (xs j) :: rest))) : W p l e R s m args below meth c H locs cells slots Q (F0 m pc ls (.int (nI j) :: .ref b :: rest)) := by
  refine va_sld hexec hb hX hbl hbA hS (vp_in_nI hj hL) hdg ?_
  rw [nI_clamp (Nat.lt_trans hj hL)]
  exact kk
/-- the other pool stands beside a call -/
theorem jl_other {L Lm L' : List Nat} {f fm f' : Nat → va_E} {H1 : Heap} {locs1 : List Loc} (hm : jx_w D cl A H0 Lm fm H locs) (hd : ∀ q ∈ L, q ∉ Lm) (hw' : jx_w D cl A H0 L' f' H1 locs1) (hc : H.size ≤ H1.size ∧ (∀ q : Nat, q < H.size → ¬ va_A (va_pl L f) H.size q → H1[q]? = H[q]?) ∧ va_D (va_A (va_pl L f) H.size) (va_pl L' f')) : jx_w D cl A H0 Lm fm H1 locs1 ∧ ∀ q ∈ L', q ∉ Lm := by
  obtain ⟨h1, h2, h3⟩ := hc
  have hlt : ∀ q ∈ Lm, q < H.size := fun q hq => va_pl_lt (X := []) hm.1 hq
  have hinL : ∀ (k : Nat) (q : Nat) (e0 : va_E), (va_pl L f)[k]? = some (q, e0) → q ∈ L := fun k q e0 hk => by
    obtain ⟨a, ha, e1⟩ := List.mem_map.mp (List.mem_of_getElem? hk)
    have : a = q := congrArg Prod.fst e1
    exact this ▸ ha
  have hno : ∀ q ∈ Lm, ¬ va_A (va_pl L f) H.size q := fun q hq h => by
    rcases h with ⟨k, e0, hk⟩ | h
    · exact hd q (hinL k q e0 hk) hq
    · have := hlt q hq
      omega
  refine ⟨⟨hm.1.kept (fun k q hk => ?_), hm.2.1, hw'.2.2.1, hm.2.2.2⟩, fun q hq hqm => ?_⟩
  · obtain ⟨a, ha, e1⟩ := List.mem_map.mp (List.mem_of_getElem? hk)
    have e2 : a = q.1 := congrArg Prod.fst e1
    exact h2 q.1 (hlt _ (e2 ▸ ha)) (hno _ (e2 ▸ ha))
  · obtain ⟨k, hk⟩ := jx_pos (f := f') hq rfl
    exact hno q hqm (h3.2 k _ hk)
/-- a new cell gets a pool of its own -/
theorem jl_split {L : List Nat} {f : Nat → va_E} {q : Nat} {e0 : va_E} (hq : q ∉ L) (hw : jx_w D cl A H0 (L ++ [q]) (va_up f q e0) H locs) : jx_w D cl A H0 L f H locs ∧ jx_w D cl A H0 [q] (va_up f q e0) H locs := by
  obtain ⟨h1, h2, h3, h4⟩ := hw
  have e1 : va_pl (L ++ [q]) (va_up f q e0) = va_pl L f ++ [(q, e0)] := (va_pl_push hq).symm
  have e2 : va_pl [q] (va_up f q e0) = [(q, e0)] := by simp [va_pl, va_up]
  rw [e1] at h1 h2
  have up1 : ∀ (k : Nat) (x : Nat × va_E), (va_pl L f)[k]? = some x → (va_pl L f ++ [(q, e0)])[k]? = some x := fun k x hk => by
    rw [List.getElem?_append_left (List.getElem?_eq_some_iff.mp hk).1]; exact hk
  have up2 : ∀ (k : Nat) (x : Nat × va_E), [(q, e0)][k]? = some x → (va_pl L f ++ [(q, e0)])[(va_pl L f).length + k]? = some x := fun k x hk => by
    rw [List.getElem?_append_right (by omega), Nat.add_sub_cancel_left]; exact hk
  refine ⟨⟨fun k x hk => h1 k x (up1 k x hk), ⟨fun i j x y hi hj e => h2.1 i j x y (up1 i x hi) (up1 j y hj) e, fun k x hk => h2.2 k x (up1 k x hk)⟩, h3, h4⟩, ?_⟩
  unfold jx_w
  rw [e2]
  exact ⟨fun k x hk => h1 _ x (up2 k x hk), ⟨fun i j x y hi hj e => by have := h2.1 _ _ x y (up2 i x hi) (up2 j y hj) e; omega, fun k x hk => h2.2 _ x (up2 k x hk)⟩, h3, h4⟩
end JL
theorem jl_arrP {s : State} {args : Array Value} {ty : FieldType} (h : (Cond.arrayClass ty).before args s = true) : ∃ cA : ClassId, ArrOfT s cA ty ∧ s.vm.findClass ("[" ++ ty.toString) = some cA := by
  obtain ⟨cA, kA, comp, h1, h2, h3⟩ := Cond.arrayClass_spec h
  exact ⟨cA, fun n z => ⟨fun k h => (by cases h), kA, h2, comp, h3⟩, h1⟩
theorem jl_arrO {s : State} {args : Array Value} {C : String} (h : (Cond.arrayOver (.object C)).before args s = true) : ∃ cA : ClassId, ArrOfT s cA (.object C) ∧ va_RA s cA (.object C) := by
  obtain ⟨comp, cA, k, h1, h2, h3, h4, h5⟩ := Cond.arrayOver_spec h
  exact ⟨cA, fun n z => ⟨fun k h => (by cases h), k, h3, comp, h4⟩, k, comp, h3, h4, h1, h5⟩
/-- all that the contracts take as given, at the law's entry -/
theorem jl_G {s : State} {b : Nat} (hts : ∀ w ∈ lw_tbl, w.before #[Value.ref b] s = true) : ∃ (D : va_G) (ct : Nat → ClassId), jz_G D ct s := by
  have ht : ∀ w ∈ jz_TT, w.before #[Value.ref b] s = true := fun w h => hts w (List.mem_filter.mp h).1
  obtain ⟨c0, i0, k0⟩ := u_known (C := RX2) (T := TX2) (N := 1) (n := 1) ht jz_inX (ht (.instantiable RX2 1) (by decide +kernel))
  obtain ⟨c1, i1, k1⟩ := u_known (C := RX0) (T := TX0) (N := 5) (n := 5) ht jz_inO (ht (.instantiable RX0 5) (by decide +kernel))
  obtain ⟨c2, i2, k2⟩ := u_known (C := RX1) (T := TX1) (N := 7) (n := 7) ht jz_inP (ht (.instantiable RX1 7) (by decide +kernel))
  obtain ⟨c3, i3, k3⟩ := u_known (C := RX3) (T := TX3) (N := 4) (n := 4) ht jz_inM (ht (.instantiable RX3 4) (by decide +kernel))
  obtain ⟨a0, p0, q0⟩ := jl_arrP (ht (.arrayClass .int) (by decide +kernel))
  obtain ⟨a1, p1, q1⟩ := jl_arrO (hts (.arrayOver (.object "JumpOrder$Place")) (by decide +kernel))
  obtain ⟨a2, p2, q2⟩ := jl_arrO (hts (.arrayOver (.object "JumpOrder$Order")) (by decide +kernel))
  obtain ⟨a3, p3, q3⟩ := jl_arrP (ht (.arrayClass .short) (by decide +kernel))
  obtain ⟨a4, p4, q4⟩ := jl_arrP (ht (.arrayClass .long) (by decide +kernel))
  obtain ⟨a5, p5, q5⟩ := jl_arrP (ht (.arrayClass .boolean) (by decide +kernel))
  refine ⟨(fun k => if k = 0 then c0 else if k = 1 then c1 else if k = 2 then c2 else c3, fun k => if k = 0 then i0 else if k = 1 then i1 else if k = 2 then i2 else i3), fun k => if k = 0 then a0 else if k = 1 then a1 else if k = 2 then a2 else if k = 3 then a3 else if k = 4 then a4 else a5, ⟨fun k q hq => ?_, fun k q hq => ?_⟩, fun w hw => ?_, fun w hw => (List.mem_filter.mp hw).2⟩
  · match k, hq with
    | 0, hq => cases hq; exact k0
    | 1, hq => cases hq; exact k1
    | 2, hq => cases hq; exact k2
    | 3, hq => cases hq; exact k3
    | k + 4, hq => simp [jz_cl] at hq
  · match k, hq with
    | 0, hq => cases hq; exact ⟨p0, q0⟩
    | 1, hq => cases hq; exact ⟨p1, q1⟩
    | 2, hq => cases hq; exact ⟨p2, q2⟩
    | 3, hq => cases hq; exact ⟨p3, q3⟩
    | 4, hq => cases hq; exact ⟨p4, q4⟩
    | 5, hq => cases hq; exact ⟨p5, q5⟩
    | k + 6, hq => simp [jz_tys] at hq
  · have h1 := hts w (List.mem_filter.mp hw).1
    have h2 := (List.mem_filter.mp hw).2
    cases w <;> first | (simp [jx_isN] at h2; done) | exact va_Nw.of rfl h1 | (rename_i ty; cases ty <;> first | (simp [jx_isN] at h2; done) | exact h1)
