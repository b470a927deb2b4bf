/-! what the calls answer, over the members in their order -/
def jq_get (A : List (Nat × Int64)) (j : Nat) : Option Int64 := (A.find? (fun x => x.1 == j)).map (fun x => x.2)
def jq_del (A : List (Nat × Int64)) (j : Nat) : List (Nat × Int64) := A.filter (fun x => !(x.1 == j))
def jq_ahb (x : Nat × Int64) (sc : Int64) (wd : Int32) : Bool := decide (x.2 < sc) || (decide (x.2 = sc) && decide (jz_word (nI x.1) < wd))
def jq_ins (A : List (Nat × Int64)) (j : Nat) (s : Int64) : List (Nat × Int64) := A.filter (fun x => jq_ahb x s (jz_word (nI j))) ++ (j, s) :: A.filter (fun x => !jq_ahb x s (jz_word (nI j)))
def jq_idx (A : List (Nat × Int64)) (j : Nat) : Nat := A.findIdx (fun x => x.1 == j)
def jq_low (sc : Int64) (too : Int32) (x : Nat × Int64) : Bool := decide (x.2 < sc) || (!(decide (too = 0)) && decide (x.2 = sc))
def jq_sum : Int32 → List (Nat × Int64) → Int32
  | s, [] => s
  | s, x :: t => jq_sum (31 * s + nI x.1) t
def jq_wf (A : List (Nat × Int64)) : Prop := A.Pairwise jz_lt ∧ (A.map (fun x => x.1)).Nodup ∧ ∀ x ∈ A, x.1 < 1000
def sq_set (A : List (Nat × Int64)) (j : Nat) (s : Int64) : Int32 × List (Nat × Int64) := match jq_get A j with
  | none => (1, jq_ins A j s)
  | some t => if t = s then (0, A) else (2, jq_ins (jq_del A j) j s)
def sq_rem (A : List (Nat × Int64)) (j : Nat) : Int32 × List (Nat × Int64) := match jq_get A j with
  | none => (0, A)
  | some _ => (1, jq_del A j)
abbrev jq_S : Type := Nat → List (Nat × Int64)
abbrev jq_o (o : Int32) : Prop := 0 ≤ o ∧ o < 4
abbrev jq_m (m : Int32) : Prop := 0 ≤ m ∧ m < 1000
def sp_set (As : jq_S) (o m : Int32) (s : Int64) : Int32 × jq_S := if jq_o o ∧ jq_m m then ((sq_set (As o.toNatClampNeg) m.toNatClampNeg s).1, va_up As o.toNatClampNeg (sq_set (As o.toNatClampNeg) m.toNatClampNeg s).2) else (-1, As)
def sp_rem (As : jq_S) (o m : Int32) : Int32 × jq_S := if jq_o o ∧ jq_m m then ((sq_rem (As o.toNatClampNeg) m.toNatClampNeg).1, va_up As o.toNatClampNeg (sq_rem (As o.toNatClampNeg) m.toNatClampNeg).2) else (-1, As)
def sp_clr (As : jq_S) (o : Int32) : Int32 × jq_S := if jq_o o then (nI (As o.toNatClampNeg).length, va_up As o.toNatClampNeg []) else (-1, As)
def sp_score (As : jq_S) (o m : Int32) : Int64 := if jq_o o ∧ jq_m m then (jq_get (As o.toNatClampNeg) m.toNatClampNeg).getD 0 else -1
def sp_rank (As : jq_S) (o m : Int32) : Int32 := if jq_o o ∧ jq_m m then (match jq_get (As o.toNatClampNeg) m.toNatClampNeg with
  | none => -1
  | some _ => nI (jq_idx (As o.toNatClampNeg) m.toNatClampNeg)) else -1
def sp_at (As : jq_S) (o r : Int32) : Int32 := if jq_o o ∧ 0 ≤ r ∧ r < nI (As o.toNatClampNeg).length then (match (As o.toNatClampNeg)[r.toNatClampNeg]? with
  | none => -1
  | some x => nI x.1) else -1
def sp_below (As : jq_S) (o : Int32) (sc : Int64) (too : Int32) : Int32 := if jq_o o then nI ((As o.toNatClampNeg).countP (jq_low sc too)) else -1
def sp_size (As : jq_S) (o : Int32) : Int32 := if jq_o o then nI (As o.toNatClampNeg).length else -1
def sp_walk (As : jq_S) (o fr n : Int32) : Int32 := if jq_o o ∧ ¬ fr < 0 ∧ ¬ n < 0 ∧ n ≤ 1000 then jq_sum 7 (((As o.toNatClampNeg).drop fr.toNatClampNeg).take n.toNatClampNeg) else -1
theorem jq_oN {o : Int32} (h : jq_o o) : ∃ i, i < 4 ∧ o = nI i ∧ o.toNatClampNeg = i := by
  obtain ⟨i, h1, h2⟩ := nI_of (Int32.not_lt.mpr h.1)
  have h3 : nI i < nI 4 := by rw [← h2]; exact h.2
  have h4 : i < 4 := (nI_ltI h1 (by decide)).mp h3
  exact ⟨i, h4, h2, by rw [h2]; exact nI_clamp h1⟩
theorem jq_mN {m : Int32} (h : jq_m m) : ∃ j, j < 1000 ∧ m = nI j ∧ m.toNatClampNeg = j := by
  obtain ⟨i, h1, h2⟩ := nI_of (Int32.not_lt.mpr h.1)
  have h3 : nI i < nI 1000 := by rw [← h2]; exact h.2
  have h4 : i < 1000 := (nI_ltI h1 (by decide)).mp h3
  exact ⟨i, h4, h2, by rw [h2]; exact nI_clamp h1⟩
theorem jq_oI {i : Nat} (h : i < 4) : jq_o (nI i) ∧ (nI i).toNatClampNeg = i := ⟨⟨nI_pos' (by omega), nI_lt h (by decide)⟩, nI_clamp (by omega)⟩
theorem jq_mI {i : Nat} (h : i < 1000) : jq_m (nI i) ∧ (nI i).toNatClampNeg = i := ⟨⟨nI_pos' (by omega), nI_lt h (by decide)⟩, nI_clamp (by omega)⟩
theorem jq_get_none {A : List (Nat × Int64)} {j : Nat} (h : ∀ x ∈ A, x.1 ≠ j) : jq_get A j = none := by
  have : A.find? (fun x => x.1 == j) = none := List.find?_eq_none.mpr (fun x hx => by simpa using h x hx)
  rw [jq_get, this]
  rfl
theorem jq_get_mem {A : List (Nat × Int64)} {j : Nat} {s : Int64} (h : jq_get A j = some s) : (j, s) ∈ A := by
  rw [jq_get] at h
  cases e : A.find? (fun x => x.1 == j) with
  | none => rw [e] at h; cases h
  | some x =>
    rw [e] at h
    have h1 := List.find?_some e
    have h2 := List.mem_of_find?_eq_some e
    have h3 : x.1 = j := by simpa using h1
    have h4 : x.2 = s := Option.some.inj h
    rw [← h3, ← h4]
    exact h2
theorem jq_uniq {A : List (Nat × Int64)} (hn : (A.map (fun x => x.1)).Nodup) {j : Nat} {s t : Int64} (h1 : (j, s) ∈ A) (h2 : (j, t) ∈ A) : s = t := by
  induction A with
  | nil => exact absurd h1 List.not_mem_nil
  | cons y u ih =>
    rw [List.map_cons, List.nodup_cons] at hn
    rcases List.mem_cons.mp h1 with q | q
    · rcases List.mem_cons.mp h2 with z | z
      · have := q.trans z.symm
        exact congrArg Prod.snd this
      · exact absurd (List.mem_map.mpr ⟨_, z, by rw [← q]⟩) hn.1
    · rcases List.mem_cons.mp h2 with z | z
      · exact absurd (List.mem_map.mpr ⟨_, q, by rw [← z]⟩) hn.1
      · exact ih hn.2 q z
theorem jq_get_some {A : List (Nat × Int64)} (hn : (A.map (fun x => x.1)).Nodup) {j : Nat} {s : Int64} (h : (j, s) ∈ A) : jq_get A j = some s := by
  cases e : jq_get A j with
  | none =>
    rw [jq_get, Option.map_eq_none_iff, List.find?_eq_none] at e
    exact absurd (by simp) (e _ h)
  | some t => rw [jq_uniq hn h (jq_get_mem e)]
theorem jq_ahb_iff {x : Nat × Int64} {sc : Int64} {wd : Int32} : jq_ahb x sc wd = true ↔ jz_ah x.2 (jz_word (nI x.1)) sc wd := by
  simp [jq_ahb, jz_ah]
theorem jq_ins_of {A A' : List (Nat × Int64)} {j : Nat} {s : Int64} (h : jz_insR A j s A') : A' = jq_ins A j s := by
  obtain ⟨A1, A2, e1, e2, h1, h2⟩ := h
  have f1 : ∀ x ∈ A1, jq_ahb x s (jz_word (nI j)) = true := fun x hx => jq_ahb_iff.mpr (h1 x hx)
  have f2 : ∀ x ∈ A2, ¬ jq_ahb x s (jz_word (nI j)) = true := fun x hx q => jz_ah_irr (jz_ah_trans (h2 x hx) (jq_ahb_iff.mp q))
  rw [e2, jq_ins, e1, List.filter_append, List.filter_append, List.filter_eq_self.mpr f1, List.filter_eq_nil_iff.mpr f2, List.filter_eq_nil_iff.mpr (fun x hx q => by rw [f1 x hx] at q; cases q), List.filter_eq_self.mpr (fun x hx => by simpa using f2 x hx)]
  simp
theorem jq_del_of {A A' : List (Nat × Int64)} {j : Nat} (hn : (A.map (fun x => x.1)).Nodup) (h : jz_delR A j A') : A' = jq_del A j := by
  obtain ⟨A1, A2, s, e1, e2⟩ := h
  rw [e1, List.map_append, List.map_cons] at hn
  have hd := List.nodup_append.mp hn
  have f1 : ∀ x ∈ A1, (!(x.1 == j)) = true := fun x hx => by
    have : x.1 ≠ j := hd.2.2 x.1 (List.mem_map.mpr ⟨x, hx, rfl⟩) j List.mem_cons_self
    simpa using this
  have f2 : ∀ x ∈ A2, (!(x.1 == j)) = true := fun x hx => by
    have : x.1 ≠ j := fun q => (List.nodup_cons.mp hd.2.1).1 (List.mem_map.mpr ⟨x, hx, q⟩)
    simpa using this
  rw [e2, jq_del, e1, List.filter_append, List.filter_eq_self.mpr f1, List.filter_cons, if_neg (by simp), List.filter_eq_self.mpr f2]
theorem jq_idx_of {A1 A2 : List (Nat × Int64)} {j : Nat} {s : Int64} (h : ∀ x ∈ A1, x.1 ≠ j) : jq_idx (A1 ++ (j, s) :: A2) j = A1.length := by
  rw [jq_idx]
  induction A1 with
  | nil => simp [List.findIdx_cons]
  | cons y u ih =>
    have hy : y.1 ≠ j := h y List.mem_cons_self
    rw [List.cons_append, List.findIdx_cons]
    have e : (y.1 == j) = false := by simpa using hy
    rw [e]
    simp only [cond_false, List.length_cons]
    rw [ih (fun x hx => h x (List.mem_cons_of_mem _ hx))]
theorem jq_upSelf {As : jq_S} {i : Nat} : va_up As i (As i) = As := by
  funext x
  by_cases q : x = i
  · rw [q, va_up_self]
  · rw [va_up_ne _ _ q]
section OKW
variable {N : Nat} {k : jK} {u : jS} {PS : List Nat} {hd : Nat} {qs : List Nat} {S : Nat → Option Nat} {As : List (Nat × Int64)}
theorem jo_Ok.wf (h : jo_Ok (fun _ => False) N k u PS hd qs S As) : jq_wf As := by
  refine ⟨h.sorted, ?_, fun x hx => ?_⟩
  · rw [h.eqA, List.map_map]
    refine List.pairwise_map.mpr (List.Pairwise.imp_of_mem ?_ (List.nodup_cons.mp h.2.1).2)
    intro x y hx hy hne e
    refine hne ?_
    obtain ⟨m, h1, h2, -, -, h5⟩ := h.mem hx
    obtain ⟨n, g1, g2, -, -, g5⟩ := h.mem hy
    have e2 : (k.1 x).toNatClampNeg = (k.1 y).toNatClampNeg := e
    rw [h5, g5] at e2
    rw [e2, g2] at h2
    exact (Option.some.inj h2).symm
  · rw [h.eqA] at hx
    obtain ⟨y, hy, rfl⟩ := List.mem_map.mp hx
    obtain ⟨m, h1, -, -, -, h5⟩ := h.mem hy
    show (k.1 y).toNatClampNeg < 1000
    rw [h5]
    exact h1
theorem jo_Ok.getS (h : jo_Ok (fun _ => False) N k u PS hd qs S As) {j a : Nat} (hj : j < 1000) (hS : S j = some a) (hin : ¬ u.2.1 a = 0) : jq_get As j = some (u.1 a) ∧ a ∈ qs := by
  obtain ⟨haP, hah, hka⟩ := h.tab j a hj hS
  obtain ⟨m0, -, -, -, -, -, -, g7⟩ := h.six a haP hah
  have haq : a ∈ qs := by
    rcases g7 with z | ⟨z1, z2⟩ | ⟨z1, z2⟩
    · exact z.elim
    · exact z2
    · exact absurd z1 hin
  refine ⟨jq_get_some h.wf.2.1 ?_, haq⟩
  rw [h.eqA]
  exact List.mem_map.mpr ⟨a, haq, by rw [hka, nI_clamp (by omega)]⟩
theorem jo_Ok.getN (h : jo_Ok (fun _ => False) N k u PS hd qs S As) {j : Nat} (hS : ∀ a, S j = some a → u.2.1 a = 0) : jq_get As j = none := by
  refine jq_get_none (fun x hx q => ?_)
  rw [h.eqA] at hx
  obtain ⟨y, hy, rfl⟩ := List.mem_map.mp hx
  obtain ⟨m, h1, h2, h3, -, h5⟩ := h.mem hy
  have e : m = j := h5.symm.trans q
  rw [e] at h2
  have hz := hS y h2
  obtain ⟨m0, -, -, -, -, -, -, g7⟩ := h.six y (h.2.2.1 y hy) (h.nhd hy)
  rcases g7 with z | ⟨z1, z2⟩ | ⟨z1, z2⟩
  · exact z
  · rw [hz] at z1; exact absurd z1 (by decide)
  · exact z2 hy
end OKW
