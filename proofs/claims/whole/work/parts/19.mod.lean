section JXM
variable {p : Program} {l : Launch} {e : Env} {R : Room} {s : State} {m : MethodId} {args : Array Value} {below : List Frame} {meth : Method} {c : Code} {H : Heap} {locs : List Loc} {cells slots : Nat} {Q : State → Prop}
variable {cc : ByteArray} {pc : Nat} {ls : Array Slot} {rest : List Value} {D : va_G} {cl : List vw_C} {A : Nat → Prop} {a : Nat} {tys : List (ClassId × FieldType)} {NW TT : List Cond} {H0 : Heap} {L : List Nat} {f : Nat → va_E}
theorem jx_saldI (hexec : p.tables.exec = Jvm.exec) (hb : c.code = cc) (hG : jx_G D cl tys NW s) (hw : jx_w D cl A H0 L f H locs) (ha : a ∈ L) (t0 : Nat) {cA : ClassId} {n : Nat} {g : Nat → Int32} (hfa : f a = .inl (cA, n, .inl g)) (ht : tys[t0]? = some (cA, .short)) {j : Nat} (hj : j < n) (hn : n < 2 ^ 31) (hdg : decode cc pc = .ok (.saload, 1))
    (kk : W p l e R s m args below meth c H locs cells slots Q (F0 m (pc + 1) ls (.int (g j) :: rest))) : W p l e R s m args below meth c H locs cells slots Q (F0 m pc ls (.int (nI j) :: .ref a :: rest)) := by
  obtain ⟨q0, hq0⟩ := jx_pos ha hfa
  refine va_sald hexec hb hG.1 hw.1 q0 t0 hq0 ht (vp_in_nI hj hn) hdg ?_
  rw [nI_clamp (Nat.lt_trans hj hn)]
  exact kk
theorem jx_zaldI (hexec : p.tables.exec = Jvm.exec) (hb : c.code = cc) (hG : jx_G D cl tys NW s) (hw : jx_w D cl A H0 L f H locs) (ha : a ∈ L) (t0 : Nat) {cA : ClassId} {n : Nat} {g : Nat → Int32} (hfa : f a = .inl (cA, n, .inl g)) (ht : tys[t0]? = some (cA, .boolean)) {j : Nat} (hj : j < n) (hn : n < 2 ^ 31) (hdg : decode cc pc = .ok (.baload, 1))
    (kk : W p l e R s m args below meth c H locs cells slots Q (F0 m (pc + 1) ls (.int (g j) :: rest))) : W p l e R s m args below meth c H locs cells slots Q (F0 m pc ls (.int (nI j) :: .ref a :: rest)) := by
  refine jx_zald hexec hb hG hw ha t0 hfa ht (vp_in_nI hj hn) hdg ?_
  rw [nI_clamp (Nat.lt_trans hj hn)]
  exact kk
theorem jx_sastI (hexec : p.tables.exec = Jvm.exec) (hb : c.code = cc) (hG : jx_G D cl tys NW s) (hw : jx_w D cl A H0 L f H locs) (ha : a ∈ L) (t0 : Nat) {cA : ClassId} {n : Nat} {g : Nat → Int32} (hfa : f a = .inl (cA, n, .inl g)) (ht : tys[t0]? = some (cA, .short)) {j : Nat} {x : Int32} (hj : j < n) (hn : n < 2 ^ 31) (hx : vp_nar .short x = x) (hdg : decode cc pc = .ok (.sastore, 1))
    (kk : ∀ (H1 : Heap) (locs1 : List Loc), jx_w D cl A H0 L (va_up f a (.inl (cA, n, .inl (upd g j x)))) H1 locs1 → W p l e R s m args below meth c H1 locs1 cells slots Q (F0 m (pc + 1) ls rest)) : W p l e R s m args below meth c H locs cells slots Q (F0 m pc ls (.int x :: .int (nI j) :: .ref a :: rest)) := by
  obtain ⟨q0, hq0⟩ := jx_pos ha hfa
  refine va_sast hexec hb hG.1 hw.1 hw.2.1 hw.2.2.1 q0 t0 hq0 ht (vp_in_nI hj hn) hdg fun H1 locs1 h1 h2 h3 => ?_
  rw [nI_clamp (Nat.lt_trans hj hn), hx, jx_set hw.2.1 ha hfa hq0] at h1 h2
  exact kk H1 locs1 ⟨h1, h2, h3, hw.2.2.2⟩
theorem jx_zastI (hexec : p.tables.exec = Jvm.exec) (hb : c.code = cc) (hG : jx_G D cl tys NW s) (hw : jx_w D cl A H0 L f H locs) (ha : a ∈ L) (t0 : Nat) {cA : ClassId} {n : Nat} {g : Nat → Int32} (hfa : f a = .inl (cA, n, .inl g)) (ht : tys[t0]? = some (cA, .boolean)) {j : Nat} {x : Int32} (hj : j < n) (hn : n < 2 ^ 31) (hx : vp_nar .boolean x = x) (hdg : decode cc pc = .ok (.bastore, 1))
    (kk : ∀ (H1 : Heap) (locs1 : List Loc), jx_w D cl A H0 L (va_up f a (.inl (cA, n, .inl (upd g j x)))) H1 locs1 → W p l e R s m args below meth c H1 locs1 cells slots Q (F0 m (pc + 1) ls rest)) : W p l e R s m args below meth c H locs cells slots Q (F0 m pc ls (.int x :: .int (nI j) :: .ref a :: rest)) := by
  obtain ⟨q0, hq0⟩ := jx_pos ha hfa
  refine va_zast hexec hb hG.1 hw.1 hw.2.1 hw.2.2.1 q0 t0 hq0 ht (vp_in_nI hj hn) hdg fun H1 locs1 h1 h2 h3 => ?_
  rw [nI_clamp (Nat.lt_trans hj hn), hx, jx_set hw.2.1 ha hfa hq0] at h1 h2
  exact kk H1 locs1 ⟨h1, h2, h3, hw.2.2.2⟩
end JXM
/-! the reference's cells -/
def jm_S (ct : Nat → ClassId) (y rw sc th sz : Nat) (L : List Nat) (f : Nat → va_E) (ro : Nat → Int32) (ss : Nat → Int64) (tt zz : Nat → Int32) : Prop :=
  (y ∈ L ∧ rw ∈ L ∧ sc ∈ L ∧ th ∈ L ∧ sz ∈ L ∧ rw ≠ th) ∧ f y = .inr (3, [.ref rw, .ref sc, .ref th, .ref sz]) ∧ f rw = .inl (ct 3, 4000, .inl ro) ∧ f sc = .inl (ct 4, 4000, .inr (.inl ss)) ∧ f th = .inl (ct 5, 4000, .inl tt) ∧ f sz = .inl (ct 0, 4, .inl zz)
section JMS
variable {ct : Nat → ClassId} {y rw sc th sz : Nat} {L : List Nat} {f : Nat → va_E} {ro tt zz : Nat → Int32} {ss : Nat → Int64}
theorem jm_S.ap (h : jm_S ct y rw sc th sz L f ro ss tt zz) : y ≠ rw ∧ y ≠ sc ∧ y ≠ th ∧ y ≠ sz ∧ rw ≠ sc ∧ rw ≠ th ∧ rw ≠ sz ∧ sc ≠ th ∧ sc ≠ sz ∧ th ≠ sz := by
  obtain ⟨⟨-, -, -, -, -, h0⟩, h1, h2, h3, h4, h5⟩ := h
  refine ⟨jo_ne h1 h2 (fun e => by cases e), jo_ne h1 h3 (fun e => by cases e), jo_ne h1 h4 (fun e => by cases e), jo_ne h1 h5 (fun e => by cases e), jo_ne h2 h3 (fun e => by injection e with e; injection e with _ e; injection e with _ e; cases e), h0, jo_ne h2 h5 (fun e => by injection e with e; injection e with _ e; injection e with e _; exact absurd e (by decide)), jo_ne h3 h4 (fun e => by injection e with e; injection e with _ e; injection e with _ e; cases e), jo_ne h3 h5 (fun e => by injection e with e; injection e with _ e; injection e with _ e; cases e), jo_ne h4 h5 (fun e => by injection e with e; injection e with _ e; injection e with e _; exact absurd e (by decide))⟩
theorem jm_S.putR (h : jm_S ct y rw sc th sz L f ro ss tt zz) (g : Nat → Int32) : jm_S ct y rw sc th sz L (va_up f rw (.inl (ct 3, 4000, .inl g))) g ss tt zz := by
  obtain ⟨a1, a2, a3, a4, a5, a6, a7, a8, a9, a10⟩ := h.ap
  obtain ⟨h0, h1, h2, h3, h4, h5⟩ := h
  exact ⟨h0, by rw [va_up_ne _ _ a1]; exact h1, va_up_self _ _ _, by rw [va_up_ne _ _ a5.symm]; exact h3, by rw [va_up_ne _ _ a6.symm]; exact h4, by rw [va_up_ne _ _ a7.symm]; exact h5⟩
theorem jm_S.putS (h : jm_S ct y rw sc th sz L f ro ss tt zz) (g : Nat → Int64) : jm_S ct y rw sc th sz L (va_up f sc (.inl (ct 4, 4000, .inr (.inl g)))) ro g tt zz := by
  obtain ⟨a1, a2, a3, a4, a5, a6, a7, a8, a9, a10⟩ := h.ap
  obtain ⟨h0, h1, h2, h3, h4, h5⟩ := h
  exact ⟨h0, by rw [va_up_ne _ _ a2]; exact h1, by rw [va_up_ne _ _ a5]; exact h2, va_up_self _ _ _, by rw [va_up_ne _ _ a8.symm]; exact h4, by rw [va_up_ne _ _ a9.symm]; exact h5⟩
theorem jm_S.putT (h : jm_S ct y rw sc th sz L f ro ss tt zz) (g : Nat → Int32) : jm_S ct y rw sc th sz L (va_up f th (.inl (ct 5, 4000, .inl g))) ro ss g zz := by
  obtain ⟨a1, a2, a3, a4, a5, a6, a7, a8, a9, a10⟩ := h.ap
  obtain ⟨h0, h1, h2, h3, h4, h5⟩ := h
  exact ⟨h0, by rw [va_up_ne _ _ a3]; exact h1, by rw [va_up_ne _ _ a6]; exact h2, by rw [va_up_ne _ _ a8]; exact h3, va_up_self _ _ _, by rw [va_up_ne _ _ a10.symm]; exact h5⟩
theorem jm_S.putZ (h : jm_S ct y rw sc th sz L f ro ss tt zz) (g : Nat → Int32) : jm_S ct y rw sc th sz L (va_up f sz (.inl (ct 0, 4, .inl g))) ro ss tt g := by
  obtain ⟨a1, a2, a3, a4, a5, a6, a7, a8, a9, a10⟩ := h.ap
  obtain ⟨h0, h1, h2, h3, h4, h5⟩ := h
  exact ⟨h0, by rw [va_up_ne _ _ a4]; exact h1, by rw [va_up_ne _ _ a7]; exact h2, by rw [va_up_ne _ _ a9]; exact h3, by rw [va_up_ne _ _ a10]; exact h4, va_up_self _ _ _⟩
end JMS
/-- what the arrays say of order i -/
def jm_R (N i : Nat) (A : List (Nat × Int64)) (ro : Nat → Int32) (ss : Nat → Int64) (tt zz : Nat → Int32) : Prop :=
  jq_wf A ∧ A.length ≤ N ∧ zz i = nI A.length ∧ (∀ j x, A[j]? = some x → ro (1000 * i + j) = nI x.1) ∧ (∀ x ∈ A, ss (1000 * i + x.1) = x.2) ∧ ∀ j, j < 1000 → (tt (1000 * i + j) = 1 ∧ ∃ s, jq_get A j = some s) ∨ (tt (1000 * i + j) = 0 ∧ jq_get A j = none)
theorem jm_R.keep {N N' i : Nat} {A : List (Nat × Int64)} {ro ro' tt tt' zz zz' : Nat → Int32} {ss ss' : Nat → Int64} (h : jm_R N i A ro ss tt zz) (hN : N ≤ N') (h1000 : N ≤ 1000) (er : ∀ j, j < 1000 → ro' (1000 * i + j) = ro (1000 * i + j)) (es : ∀ j, j < 1000 → ss' (1000 * i + j) = ss (1000 * i + j)) (et : ∀ j, j < 1000 → tt' (1000 * i + j) = tt (1000 * i + j)) (ez : zz' i = zz i) : jm_R N' i A ro' ss' tt' zz' := by
  obtain ⟨h1, h2, h3, h4, h5, h6⟩ := h
  refine ⟨h1, Nat.le_trans h2 hN, by rw [ez]; exact h3, fun j x hx => ?_, fun x hx => ?_, fun j hj => ?_⟩
  · have hj : j < A.length := (List.getElem?_eq_some_iff.mp hx).1
    rw [er j (by omega)]
    exact h4 j x hx
  · rw [es x.1 (h1.2.2 x hx)]
    exact h5 x hx
  · rw [et j hj]
    exact h6 j hj
def jM (N : Nat) (ct : Nat → ClassId) (y : Nat) (L : List Nat) (f : Nat → va_E) (As : jq_S) : Prop :=
  ∃ (rw sc th sz : Nat) (ro : Nat → Int32) (ss : Nat → Int64) (tt zz : Nat → Int32), jm_S ct y rw sc th sz L f ro ss tt zz ∧ ∀ i, i < 4 → jm_R N i (As i) ro ss tt zz
theorem jM.mono {N N' : Nat} {ct : Nat → ClassId} {y : Nat} {L : List Nat} {f : Nat → va_E} {As : jq_S} (h : jM N ct y L f As) (hN : N ≤ N') : jM N' ct y L f As := by
  obtain ⟨rw, sc, th, sz, ro, ss, tt, zz, h1, h2⟩ := h
  refine ⟨rw, sc, th, sz, ro, ss, tt, zz, h1, fun i hi => ?_⟩
  obtain ⟨g1, g2, g3⟩ := h2 i hi
  exact ⟨g1, Nat.le_trans g2 hN, g3⟩
/-- order i alone has changed -/
theorem jM.upd {N N' i : Nat} {As : jq_S} {A' : List (Nat × Int64)} {ro ro' tt tt' zz zz' : Nat → Int32} {ss ss' : Nat → Int64} (h : ∀ j, j < 4 → jm_R N j (As j) ro ss tt zz) (hN : N ≤ N') (h1000 : N ≤ 1000) (hi : i < 4) (h' : jm_R N' i A' ro' ss' tt' zz') (er : ∀ q, (q < 1000 * i ∨ 1000 * i + 1000 ≤ q) → ro' q = ro q ∧ ss' q = ss q ∧ tt' q = tt q) (ez : ∀ j, j ≠ i → zz' j = zz j) : ∀ j, j < 4 → jm_R N' j (va_up As i A' j) ro' ss' tt' zz' := by
  intro j hj
  by_cases q : j = i
  · subst q
    rw [va_up_self]
    exact h'
  · rw [va_up_ne _ _ q]
    have hout : ∀ t, t < 1000 → (1000 * j + t < 1000 * i ∨ 1000 * i + 1000 ≤ 1000 * j + t) := fun t ht => by omega
    exact (h j hj).keep hN h1000 (fun t ht => (er _ (hout t ht)).1) (fun t ht => (er _ (hout t ht)).2.1) (fun t ht => (er _ (hout t ht)).2.2) (ez j q)
theorem jm_get_ap {A1 A2 : List (Nat × Int64)} {j : Nat} {s : Int64} (hn : ((A1 ++ (j, s) :: A2).map (fun x => x.1)).Nodup) : jq_get (A1 ++ A2) j = none := by
  rw [List.map_append, List.map_cons] at hn
  have hd := List.nodup_append.mp hn
  refine jq_get_none (fun x hx q => ?_)
  rcases List.mem_append.mp hx with h | h
  · exact hd.2.2 x.1 (List.mem_map.mpr ⟨x, h, rfl⟩) j List.mem_cons_self q
  · exact (List.nodup_cons.mp hd.2.1).1 (List.mem_map.mpr ⟨x, h, q⟩)
theorem jm_get_ne {A1 A2 : List (Nat × Int64)} {j t : Nat} {s : Int64} (h : t ≠ j) : jq_get (A1 ++ (j, s) :: A2) t = jq_get (A1 ++ A2) t := by
  have e : ((j == t) : Bool) = false := by simpa using (fun q => h q.symm)
  simp [jq_get, List.find?_append, List.find?_cons, e]
theorem jm_R.del {N i j : Nat} {A A1 A2 : List (Nat × Int64)} {s : Int64} {ro ro' tt zz : Nat → Int32} {ss : Nat → Int64} (h : jm_R N i A ro ss tt zz) (hN : N ≤ 1000) (e : A = A1 ++ (j, s) :: A2) (hro : ∀ q, ro' q = if 1000 * i + A1.length ≤ q ∧ q < 1000 * i + (A1 ++ A2).length then ro (q + 1) else ro q) :
    jm_R N i (A1 ++ A2) ro' ss (upd tt (1000 * i + j) 0) (upd zz i (nI (A1 ++ A2).length)) := by
  obtain ⟨h1, h2, h3, h4, h5, h6⟩ := h
  have hj : j < 1000 := h1.2.2 (j, s) (by rw [e]; simp)
  have hlen : A.length = (A1 ++ A2).length + 1 := by rw [e]; simp; omega
  have hsub : (A1 ++ A2).Sublist A := by rw [e]; exact List.Sublist.append (List.Sublist.refl _) (List.sublist_cons_self _ _)
  refine ⟨⟨h1.1.sublist hsub, h1.2.1.sublist (hsub.map _), fun x hx => h1.2.2 x (hsub.subset hx)⟩, by omega, pk_us, fun t x hx => ?_, fun x hx => h5 x (hsub.subset hx), fun t ht => ?_⟩
  · have htl : t < (A1 ++ A2).length := (List.getElem?_eq_some_iff.mp hx).1
    rw [hro]
    rcases Nat.lt_or_ge t A1.length with q | q
    · rw [if_neg (by omega)]
      refine h4 t x ?_
      rw [e, List.getElem?_append_left q]
      rwa [List.getElem?_append_left q] at hx
    · rw [if_pos (by omega)]
      refine h4 (t + 1) x ?_
      rw [e, List.getElem?_append_right (by omega), show t + 1 - A1.length = (t - A1.length) + 1 by omega, List.getElem?_cons_succ]
      rwa [List.getElem?_append_right q] at hx
  · by_cases q : t = j
    · subst q
      have hn := h1.2.1
      rw [e] at hn
      exact Or.inr ⟨pk_us, jm_get_ap hn⟩
    · rw [pk_un (by omega)]
      have := h6 t ht
      rw [e, jm_get_ne q] at this
      exact this
theorem jm_R.ins {N i j : Nat} {A A1 A2 : List (Nat × Int64)} {s : Int64} {ro ro' tt zz : Nat → Int32} {ss : Nat → Int64} (h : jm_R N i A ro ss tt zz) (hj : j < 1000) (habs : jq_get A j = none) (e : A = A1 ++ A2) (g1 : ∀ x ∈ A1, jz_ah x.2 (jz_word (nI x.1)) s (jz_word (nI j))) (g2 : ∀ x ∈ A2, ¬ jz_ah x.2 (jz_word (nI x.1)) s (jz_word (nI j)))
    (hro : ∀ q, ro' q = if q = 1000 * i + A1.length then nI j else if 1000 * i + A1.length < q ∧ q ≤ 1000 * i + A.length then ro (q - 1) else ro q) :
    jz_insR A j s (A1 ++ (j, s) :: A2) ∧ jm_R (N + 1) i (A1 ++ (j, s) :: A2) ro' (vp_updL ss (1000 * i + j) s) (upd tt (1000 * i + j) 1) (upd zz i (nI (A.length + 1))) := by
  obtain ⟨h1, h2, h3, h4, h5, h6⟩ := h
  have hne : ∀ x ∈ A, x.1 ≠ j := fun x hx q => by
    have := jq_get_some h1.2.1 (show (x.1, x.2) ∈ A from hx)
    rw [q, habs] at this
    cases this
  have hlt2 : ∀ x ∈ A2, jz_lt (j, s) x := fun x hx => by
    have hxA : x ∈ A := by rw [e]; simp [hx]
    exact jz_ah_tot (g2 x hx) (jz_word_ne (h1.2.2 x hxA) hj (hne x hxA))
  have hs := h1.1
  rw [e, List.pairwise_append] at hs
  have hlen : (A1 ++ (j, s) :: A2).length = A.length + 1 := by rw [e]; simp; omega
  have hperm : (A1 ++ (j, s) :: A2).Perm ((j, s) :: A) := by rw [e]; exact List.perm_middle
  refine ⟨⟨A1, A2, e, rfl, g1, hlt2⟩, ⟨?_, ?_, fun x hx => ?_⟩, by omega, by rw [pk_us, hlen], fun t x hx => ?_, fun x hx => ?_, fun t ht => ?_⟩
  · rw [List.pairwise_append, List.pairwise_cons]
    refine ⟨hs.1, ⟨hlt2, hs.2.1⟩, fun x hx y hy => ?_⟩
    rcases List.mem_cons.mp hy with q | q
    · rw [q]; exact g1 x hx
    · exact hs.2.2 x hx y q
  · rw [(hperm.map _).nodup_iff, List.map_cons, List.nodup_cons]
    exact ⟨fun q => by
      obtain ⟨x, hx, hq⟩ := List.mem_map.mp q
      exact hne x hx hq, h1.2.1⟩
  · rcases List.mem_cons.mp (hperm.subset hx) with q | q
    · rw [q]; exact hj
    · exact h1.2.2 x q
  · have htl : t < A.length + 1 := by rw [← hlen]; exact (List.getElem?_eq_some_iff.mp hx).1
    rw [hro]
    rcases Nat.lt_trichotomy t A1.length with q | q | q
    · rw [if_neg (by omega), if_neg (by omega)]
      refine h4 t x ?_
      rw [e, List.getElem?_append_left q]
      rwa [List.getElem?_append_left q] at hx
    · rw [if_pos (by omega)]
      rw [q, List.getElem?_append_right (Nat.le_refl _), Nat.sub_self] at hx
      cases hx
      rfl
    · rw [if_neg (by omega), if_pos (by omega), show 1000 * i + t - 1 = 1000 * i + (t - 1) by omega]
      refine h4 (t - 1) x ?_
      rw [e, List.getElem?_append_right (by omega)]
      rw [List.getElem?_append_right (by omega), show t - A1.length = (t - 1 - A1.length) + 1 by omega, List.getElem?_cons_succ] at hx
      exact hx
  · rcases List.mem_cons.mp (hperm.subset hx) with q | q
    · rw [q, pk_uLs]
    · rw [pk_uLn (fun z => hne x q (by omega))]
      exact h5 x q
  · by_cases q : t = j
    · subst q
      refine Or.inl ⟨pk_us, s, jq_get_some ?_ (by simp)⟩
      rw [(hperm.map _).nodup_iff, List.map_cons, List.nodup_cons]
      exact ⟨fun z => by
        obtain ⟨x, hx, hq⟩ := List.mem_map.mp z
        exact hne x hx hq, h1.2.1⟩
    · rw [pk_un (by omega), jm_get_ne q, ← e]
      exact h6 t ht
/-- the reference's word -/
def jm_wd (j : Nat) : Nat := if j < 10 then 121 * (j + 1) else if j < 100 then 121 * (j / 10 + 1) + 11 * (j % 10 + 1) else 121 * (j / 100 + 1) + 11 * (j / 10 % 10 + 1) + j % 10 + 1
theorem jm_wd_lt {j : Nat} (h : j < 1000) : jm_wd j < 2000 := by
  unfold jm_wd
  split
  · omega
  · split <;> omega
theorem jm_wd_iff {a b : Nat} (ha : a < 1000) (hb : b < 1000) : jm_wd a < jm_wd b ↔ jz_wd a < jz_wd b := by
  unfold jm_wd jz_wd
  split <;> split <;> (try split) <;> (try split) <;> first | omega | (rcases Nat.lt_trichotomy (a / 100) (b / 100) with h | h | h <;> rcases Nat.lt_trichotomy (a / 10 % 10) (b / 10 % 10) with g | g | g <;> omega)
theorem jm_word_iff {a b : Nat} (ha : a < 1000) (hb : b < 1000) : nI (jm_wd a) < nI (jm_wd b) ↔ jz_word (nI a) < jz_word (nI b) := by
  have h1 := jm_wd_lt ha
  have h2 := jm_wd_lt hb
  have h3 := (jz_wd_lt ha).2
  have h4 := (jz_wd_lt hb).2
  rw [jz_word_nI ha, jz_word_nI hb, nI_ltI (by omega) (by omega), nI_ltI (by omega) (by omega)]
  exact jm_wd_iff ha hb
theorem jm_nar {m : Nat} (h : m < 1000) : vp_nar .short (nI m) = nI m := by
  rw [vp_nar_short]
  exact lg_i2s_small (by rw [nI_toInt (by omega)]; omega) (by rw [nI_toInt (by omega)]; omega)
