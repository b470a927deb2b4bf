/-! the order of keys -/
def jz_wd (m : Nat) : Nat := if m < 10 then m * 400 + 1 else if m < 100 then m * 40 + 2 else m * 4 + 3
theorem jz_word_nI {m : Nat} (h : m < 1000) : jz_word (nI m) = nI (jz_wd m) := by
  unfold jz_word jz_wd
  show (if nI m < nI 10 then nI m * 100 * 4 + 1 else if nI m < nI 100 then nI m * 10 * 4 + 2 else nI m * 4 + 3) = _
  by_cases h1 : m < 10
  · rw [if_pos h1, if_pos (nI_lt h1 (by decide))]
    show nI m * nI 100 * nI 4 + nI 1 = _
    rw [pk_mul, pk_mul, nI_add]
    congr 1
    omega
  · rw [if_neg h1, if_neg (nI_nlt (Nat.not_lt.mp h1) (by omega))]
    by_cases h2 : m < 100
    · rw [if_pos h2, if_pos (nI_lt h2 (by decide))]
      show nI m * nI 10 * nI 4 + nI 2 = _
      rw [pk_mul, pk_mul, nI_add]
      congr 1
      omega
    · rw [if_neg h2, if_neg (nI_nlt (Nat.not_lt.mp h2) (by omega))]
      show nI m * nI 4 + nI 3 = _
      rw [pk_mul, nI_add]
theorem jz_wd_lt {m : Nat} (h : m < 1000) : 0 < jz_wd m ∧ jz_wd m < 4000 := by
  unfold jz_wd
  split
  · omega
  · split <;> omega
theorem jz_wd_inj {m n : Nat} (hm : m < 1000) (hn : n < 1000) (h : jz_wd m = jz_wd n) : m = n := by
  unfold jz_wd at h
  split at h <;> split at h <;> (try split at h) <;> (try split at h) <;> omega
theorem jz_ah_irr {s : Int64} {w : Int32} : ¬ jz_ah s w s w := fun h => h.elim (fun q => Int64.lt_irrefl q) (fun q => Int32.lt_irrefl q.2)
theorem jz_ah_trans {s1 s2 s3 : Int64} {w1 w2 w3 : Int32} (h1 : jz_ah s1 w1 s2 w2) (h2 : jz_ah s2 w2 s3 w3) : jz_ah s1 w1 s3 w3 := by
  rcases h1 with h1 | ⟨h1, g1⟩
  · rcases h2 with h2 | ⟨h2, g2⟩
    · exact Or.inl (Int64.lt_trans h1 h2)
    · exact Or.inl (h2 ▸ h1)
  · rcases h2 with h2 | ⟨h2, g2⟩
    · exact Or.inl (h1 ▸ h2)
    · exact Or.inr ⟨h1.trans h2, Int32.lt_trans g1 g2⟩
theorem jz_ah_tot {s1 s2 : Int64} {w1 w2 : Int32} (h : ¬ jz_ah s1 w1 s2 w2) (hn : ¬ w1 = w2) : jz_ah s2 w2 s1 w1 := by
  rcases Int64.lt_or_le s1 s2 with q | q
  · exact absurd (Or.inl q) h
  · rcases Int64.lt_or_eq_of_le q with q | q
    · exact Or.inl q
    · refine Or.inr ⟨q, ?_⟩
      rcases Int32.lt_or_le w1 w2 with g | g
      · exact absurd (Or.inr ⟨q.symm, g⟩) h
      · rcases Int32.lt_or_eq_of_le g with g | g
        · exact g
        · exact absurd g.symm hn
/-- a member with its score ahead of another -/
def jz_lt (x y : Nat × Int64) : Prop := jz_ah x.2 (jz_word (nI x.1)) y.2 (jz_word (nI y.1))
/-- a sorted list is cut by a key -/
theorem jz_cutBy {A : List (Nat × Int64)} (hs : A.Pairwise jz_lt) (sc : Int64) (wd : Int32) : ∃ A1 A2, A = A1 ++ A2 ∧ (∀ x ∈ A1, jz_ah x.2 (jz_word (nI x.1)) sc wd) ∧ ∀ x ∈ A2, ¬ jz_ah x.2 (jz_word (nI x.1)) sc wd := by
  induction A with
  | nil => exact ⟨[], [], rfl, fun x h => absurd h List.not_mem_nil, fun x h => absurd h List.not_mem_nil⟩
  | cons y t ih =>
    obtain ⟨h1, h2⟩ := List.pairwise_cons.mp hs
    by_cases hy : jz_ah y.2 (jz_word (nI y.1)) sc wd
    · obtain ⟨A1, A2, e, g1, g2⟩ := ih h2
      refine ⟨y :: A1, A2, by rw [e]; rfl, fun x hx => ?_, g2⟩
      rcases List.mem_cons.mp hx with q | q
      · rw [q]; exact hy
      · exact g1 x q
    · refine ⟨[], y :: t, rfl, fun x h => absurd h List.not_mem_nil, fun x hx => ?_⟩
      rcases List.mem_cons.mp hx with q | q
      · rw [q]; exact hy
      · exact fun g => hy (jz_ah_trans (h1 x q) g)
/-- what an order holds: qs the places that are in, in their order; As the members with their scores; of places in ex nothing is said of isIn -/
def jo_Ok (ex : Nat → Prop) (N : Nat) (k : jK) (u : jS) (PS : List Nat) (hd : Nat) (qs : List Nat) (S : Nat → Option Nat) (As : List (Nat × Int64)) : Prop :=
  (hd ∈ PS ∧ k.2.2.1 hd = 4) ∧ (hd :: qs).Nodup ∧ (∀ a ∈ qs, a ∈ PS) ∧ (∀ r, r < 4 → jr_ok k.2.2.1 u.2.2.1 u.2.2.2 r (hd :: qs)) ∧ qs.length ≤ N ∧
  (∀ a ∈ PS, a ≠ hd → ∃ m, m < 1000 ∧ S m = some a ∧ k.1 a = nI m ∧ k.2.1 a = jz_word (nI m) ∧ 1 ≤ k.2.2.1 a ∧ k.2.2.1 a ≤ 4 ∧ (ex a ∨ u.2.1 a = 1 ∧ a ∈ qs ∨ u.2.1 a = 0 ∧ a ∉ qs)) ∧
  (∀ m a, m < 1000 → S m = some a → a ∈ PS ∧ a ≠ hd ∧ k.1 a = nI m) ∧
  As = qs.map (fun a => ((k.1 a).toNatClampNeg, u.1 a)) ∧ As.Pairwise jz_lt
section OK
variable {ex : Nat → Prop} {N : Nat} {k : jK} {u : jS} {PS : List Nat} {hd : Nat} {qs : List Nat} {S : Nat → Option Nat} {As : List (Nat × Int64)}
theorem jo_Ok.rows (h : jo_Ok ex N k u PS hd qs S As) : ∀ r, r < 4 → jr_ok k.2.2.1 u.2.2.1 u.2.2.2 r (hd :: qs) := h.2.2.2.1
theorem jo_Ok.len (h : jo_Ok ex N k u PS hd qs S As) : qs.length ≤ N := h.2.2.2.2.1
theorem jo_Ok.six (h : jo_Ok ex N k u PS hd qs S As) : ∀ a ∈ PS, a ≠ hd → ∃ m, m < 1000 ∧ S m = some a ∧ k.1 a = nI m ∧ k.2.1 a = jz_word (nI m) ∧ 1 ≤ k.2.2.1 a ∧ k.2.2.1 a ≤ 4 ∧ (ex a ∨ u.2.1 a = 1 ∧ a ∈ qs ∨ u.2.1 a = 0 ∧ a ∉ qs) := h.2.2.2.2.2.1
theorem jo_Ok.tab (h : jo_Ok ex N k u PS hd qs S As) : ∀ m a, m < 1000 → S m = some a → a ∈ PS ∧ a ≠ hd ∧ k.1 a = nI m := h.2.2.2.2.2.2.1
theorem jo_Ok.eqA (h : jo_Ok ex N k u PS hd qs S As) : As = qs.map (fun a => ((k.1 a).toNatClampNeg, u.1 a)) := h.2.2.2.2.2.2.2.1
theorem jo_Ok.sorted (h : jo_Ok ex N k u PS hd qs S As) : As.Pairwise jz_lt := h.2.2.2.2.2.2.2.2
theorem jo_Ok.lenA (h : jo_Ok ex N k u PS hd qs S As) : As.length = qs.length := by rw [h.eqA, List.length_map]
theorem jo_Ok.nhd (h : jo_Ok ex N k u PS hd qs S As) {a : Nat} (ha : a ∈ qs) : a ≠ hd := fun q => (List.nodup_cons.mp h.2.1).1 (q ▸ ha)
theorem jo_Ok.sub (h : jo_Ok ex N k u PS hd qs S As) : ∀ x ∈ hd :: qs, x ∈ PS := fun x hx => by
  rcases List.mem_cons.mp hx with q | q
  · rw [q]; exact h.1.1
  · exact h.2.2.1 x q
theorem jo_Ok.h1 (h : jo_Ok ex N k u PS hd qs S As) : ∀ x ∈ hd :: qs, 1 ≤ k.2.2.1 x := fun x hx => by
  rcases List.mem_cons.mp hx with q | q
  · rw [q, h.1.2]; decide
  · obtain ⟨m, -, -, -, -, g, -⟩ := h.six x (h.2.2.1 x q) (h.nhd q)
    exact g
theorem jo_Ok.mem (h : jo_Ok ex N k u PS hd qs S As) {a : Nat} (ha : a ∈ qs) : ∃ m, m < 1000 ∧ S m = some a ∧ k.1 a = nI m ∧ k.2.1 a = jz_word (nI m) ∧ (k.1 a).toNatClampNeg = m := by
  obtain ⟨m, h1, h2, h3, h4, -⟩ := h.six a (h.2.2.1 a ha) (h.nhd ha)
  exact ⟨m, h1, h2, h3, h4, by rw [h3]; exact nI_clamp (by omega)⟩
theorem jo_Ok.weaken (h : jo_Ok (fun _ => False) N k u PS hd qs S As) : jo_Ok ex N k u PS hd qs S As := by
  refine ⟨h.1, h.2.1, h.2.2.1, h.rows, h.len, fun a ha hn => ?_, h.tab, h.eqA, h.sorted⟩
  obtain ⟨m, h1, h2, h3, h4, h5, h6, h7⟩ := h.six a ha hn
  exact ⟨m, h1, h2, h3, h4, h5, h6, h7.elim (fun q => q.elim) Or.inr⟩
/-- the places cut by a key -/
theorem jo_Ok.cut (h : jo_Ok ex N k u PS hd qs S As) (sc : Int64) (wd : Int32) : ∃ p1 p2, qs = p1 ++ p2 ∧ (∀ x ∈ p1, jz_ah (u.1 x) (k.2.1 x) sc wd) ∧ (∀ x ∈ p2, ¬ jz_ah (u.1 x) (k.2.1 x) sc wd) := by
  obtain ⟨A1, A2, e, g1, g2⟩ := jz_cutBy h.sorted sc wd
  rw [h.eqA] at e
  obtain ⟨p1, p2, e1, e2, e3⟩ := List.map_eq_append_iff.mp e
  have key : ∀ x ∈ qs, (jz_ah (u.1 x) (jz_word (nI (k.1 x).toNatClampNeg)) sc wd ↔ jz_ah (u.1 x) (k.2.1 x) sc wd) := fun x hx => by
    obtain ⟨m, -, -, -, h4, h5⟩ := h.mem hx
    rw [h4, h5]
  refine ⟨p1, p2, e1, fun x hx => ?_, fun x hx => ?_⟩
  · have hm : ((k.1 x).toNatClampNeg, u.1 x) ∈ A1 := by
      rw [← e2]
      exact List.mem_map.mpr ⟨x, hx, rfl⟩
    have hq : x ∈ qs := by rw [e1]; simp [hx]
    exact (key x hq).mp (g1 _ hm)
  · have hm : ((k.1 x).toNatClampNeg, u.1 x) ∈ A2 := by
      rw [← e3]
      exact List.mem_map.mpr ⟨x, hx, rfl⟩
    have hq : x ∈ qs := by rw [e1]; simp [hx]
    exact fun q => g2 _ hm ((key x hq).mpr q)
/-- where the member comes in -/
def jz_insR (As : List (Nat × Int64)) (i : Nat) (sc : Int64) (As' : List (Nat × Int64)) : Prop := ∃ A1 A2, As = A1 ++ A2 ∧ As' = A1 ++ (i, sc) :: A2 ∧ (∀ x ∈ A1, jz_lt x (i, sc)) ∧ ∀ x ∈ A2, jz_lt (i, sc) x
def jz_delR (As : List (Nat × Int64)) (i : Nat) (As' : List (Nat × Int64)) : Prop := ∃ A1 A2 s, As = A1 ++ (i, s) :: A2 ∧ As' = A1 ++ A2
theorem jz_word_ne {m n : Nat} (hm : m < 1000) (hn : n < 1000) (h : m ≠ n) : ¬ jz_word (nI m) = jz_word (nI n) := fun q => by
  rw [jz_word_nI hm, jz_word_nI hn] at q
  exact h (jz_wd_inj hm hn ((nI_eq (by have := (jz_wd_lt hm).2; omega) (by have := (jz_wd_lt hn).2; omega)).mp q))
theorem jo_Ok.ins {i a : Nat} {sc : Int64} (h : jo_Ok (fun x => x = a) N k u PS hd qs S As) (hi : i < 1000) (hSi : S i = some a) (haq : a ∉ qs) (hsc : u.1 a = sc) (hin : u.2.1 a = 1) :
    ∃ p1 p2, qs = p1 ++ p2 ∧ (∀ x ∈ p1, jz_ah (u.1 x) (k.2.1 x) (u.1 a) (k.2.1 a)) ∧ (∀ x ∈ p2, ¬ jz_ah (u.1 x) (k.2.1 x) (u.1 a) (k.2.1 a)) ∧ ∀ u' : jS, u'.1 = u.1 → u'.2.1 = u.2.1 → (∀ r, r < 4 → jr_ok k.2.2.1 u'.2.2.1 u'.2.2.2 r (hd :: (p1 ++ a :: p2))) →
      ∃ As', jz_insR As i sc As' ∧ jo_Ok (fun _ => False) (N + 1) k u' PS hd (p1 ++ a :: p2) S As' := by
  obtain ⟨haP, hah, hka⟩ := h.tab i a hi hSi
  obtain ⟨i', hi', hSi', hka', hwa, hh1, hh4, -⟩ := h.six a haP hah
  have eii : i' = i := (nI_eq (by omega) (by omega)).mp (hka'.symm.trans hka)
  subst eii
  have hcl : (k.1 a).toNatClampNeg = i' := by rw [hka]; exact nI_clamp (by omega)
  obtain ⟨p1, p2, e, g1, g2⟩ := h.cut (u.1 a) (k.2.1 a)
  refine ⟨p1, p2, e, g1, g2, fun u' eS eI hrow => ?_⟩
  have hlt1 : ∀ x ∈ p1, jz_lt ((k.1 x).toNatClampNeg, u.1 x) (i', sc) := fun x hx => by
    obtain ⟨m, -, -, -, h4, h5⟩ := h.mem (show x ∈ qs by rw [e]; simp [hx])
    have := g1 x hx
    rw [hwa, h4, hsc] at this
    show jz_ah (u.1 x) (jz_word (nI (k.1 x).toNatClampNeg)) sc (jz_word (nI i'))
    rw [h5]
    exact this
  have hlt2 : ∀ x ∈ p2, jz_lt (i', sc) ((k.1 x).toNatClampNeg, u.1 x) := fun x hx => by
    have hxq : x ∈ qs := by rw [e]; simp [hx]
    obtain ⟨m, hm, hSm, -, h4, h5⟩ := h.mem hxq
    have hne : m ≠ i' := fun q => haq (by rw [q, hSi] at hSm; cases hSm; exact hxq)
    have := g2 x hx
    rw [hwa, h4, hsc] at this
    show jz_ah sc (jz_word (nI i')) (u.1 x) (jz_word (nI (k.1 x).toNatClampNeg))
    rw [h5]
    exact jz_ah_tot this (jz_word_ne hm hi hne)
  have eA := h.eqA
  rw [e, List.map_append] at eA
  refine ⟨p1.map (fun a => ((k.1 a).toNatClampNeg, u.1 a)) ++ (i', sc) :: p2.map (fun a => ((k.1 a).toNatClampNeg, u.1 a)), ⟨_, _, eA, rfl, fun x hx => ?_, fun x hx => ?_⟩, h.1, ?_, ?_, hrow, ?_, ?_, h.tab, ?_, ?_⟩
  · obtain ⟨y, hy, rfl⟩ := List.mem_map.mp hx
    exact hlt1 y hy
  · obtain ⟨y, hy, rfl⟩ := List.mem_map.mp hx
    exact hlt2 y hy
  · have hn := h.2.1
    rw [e] at hn
    have hp : (hd :: (p1 ++ a :: p2)).Perm (a :: hd :: (p1 ++ p2)) := (List.Perm.cons hd List.perm_middle).trans (List.Perm.swap a hd _)
    rw [hp.nodup_iff, List.nodup_cons]
    refine ⟨fun q => ?_, hn⟩
    rcases List.mem_cons.mp q with q | q
    · exact hah q
    · exact haq (by rw [e]; exact q)
  · intro x hx
    rcases List.mem_append.mp hx with q | q
    · exact h.2.2.1 x (by rw [e]; simp [q])
    · rcases List.mem_cons.mp q with q | q
      · rw [q]; exact haP
      · exact h.2.2.1 x (by rw [e]; simp [q])
  · have := h.len
    rw [e] at this
    simp only [List.length_append, List.length_cons] at this ⊢
    omega
  · intro x hx hxn
    obtain ⟨m, h1, h2, h3, h4, h5, h6, h7⟩ := h.six x hx hxn
    refine ⟨m, h1, h2, h3, h4, h5, h6, Or.inr ?_⟩
    rw [eI]
    by_cases q : x = a
    · rw [q]
      exact Or.inl ⟨hin, by simp⟩
    · rcases h7 with z | ⟨z1, z2⟩ | ⟨z1, z2⟩
      · exact absurd z q
      · rw [e] at z2
        refine Or.inl ⟨z1, ?_⟩
        rcases List.mem_append.mp z2 with w | w
        · simp [w]
        · simp [w]
      · rw [e] at z2
        refine Or.inr ⟨z1, fun w => ?_⟩
        rcases List.mem_append.mp w with w | w
        · exact z2 (by simp [w])
        · rcases List.mem_cons.mp w with w | w
          · exact q w
          · exact z2 (by simp [w])
  · rw [List.map_append, List.map_cons, eS, hcl, hsc]
  · have hs := h.sorted
    rw [eA, List.pairwise_append] at hs
    rw [List.pairwise_append, List.pairwise_cons]
    refine ⟨hs.1, ⟨fun x hx => ?_, hs.2.1⟩, fun x hx y hy => ?_⟩
    · obtain ⟨z, hz, rfl⟩ := List.mem_map.mp hx
      exact hlt2 z hz
    · obtain ⟨z, hz, rfl⟩ := List.mem_map.mp hx
      rcases List.mem_cons.mp hy with q | q
      · rw [q]; exact hlt1 z hz
      · exact hs.2.2 _ hx y q
theorem jo_Ok.del {i a : Nat} (h : jo_Ok (fun _ => False) N k u PS hd qs S As) (hi : i < 1000) (hSi : S i = some a) (haq : a ∈ qs) :
    ∃ p1 p2, qs = p1 ++ a :: p2 ∧ (∀ x ∈ p1, jz_ah (u.1 x) (k.2.1 x) (u.1 a) (k.2.1 a)) ∧ (∀ x ∈ a :: p2, ¬ jz_ah (u.1 x) (k.2.1 x) (u.1 a) (k.2.1 a)) ∧ ∀ u' : jS, (∀ x, x ≠ a → u'.1 x = u.1 x ∧ u'.2.1 x = u.2.1 x) → (∀ r, r < 4 → jr_ok k.2.2.1 u'.2.2.1 u'.2.2.2 r (hd :: (p1 ++ p2))) →
      ∃ As', jz_delR As i As' ∧ a ∉ p1 ++ p2 ∧ jo_Ok (fun x => x = a) N k u' PS hd (p1 ++ p2) S As' ∧ (u'.2.1 a = 0 → jo_Ok (fun _ => False) N k u' PS hd (p1 ++ p2) S As') := by
  obtain ⟨p1, p2, e⟩ := List.append_of_mem haq
  have hka := (h.tab i a hi hSi).2.2
  have hcl : (k.1 a).toNatClampNeg = i := by rw [hka]; exact nI_clamp (by omega)
  have hs := h.sorted
  rw [h.eqA, e, List.map_append, List.map_cons, List.pairwise_append, List.pairwise_cons] at hs
  have key : ∀ x ∈ qs, jz_word (nI (k.1 x).toNatClampNeg) = k.2.1 x := fun x hx => by
    obtain ⟨m, -, -, -, h4, h5⟩ := h.mem hx
    rw [h4, h5]
  have hn := h.2.1
  rw [e] at hn
  have hp : (hd :: (p1 ++ a :: p2)).Perm (a :: hd :: (p1 ++ p2)) := (List.Perm.cons hd List.perm_middle).trans (List.Perm.swap a hd _)
  rw [hp.nodup_iff, List.nodup_cons] at hn
  have hanot : a ∉ p1 ++ p2 := fun q => hn.1 (List.mem_cons_of_mem _ q)
  refine ⟨p1, p2, e, fun x hx => ?_, fun x hx => ?_, fun u' hu hrow => ?_⟩
  · have h1 := hs.2.2 _ (List.mem_map.mpr ⟨x, hx, rfl⟩) _ List.mem_cons_self
    have h2 : jz_ah (u.1 x) (jz_word (nI (k.1 x).toNatClampNeg)) (u.1 a) (jz_word (nI (k.1 a).toNatClampNeg)) := h1
    rw [key x (by rw [e]; simp [hx]), key a haq] at h2
    exact h2
  · rcases List.mem_cons.mp hx with q | q
    · rw [q]; exact jz_ah_irr
    · have h1 := hs.2.1.1 _ (List.mem_map.mpr ⟨x, q, rfl⟩)
      have h2 : jz_ah (u.1 a) (jz_word (nI (k.1 a).toNatClampNeg)) (u.1 x) (jz_word (nI (k.1 x).toNatClampNeg)) := h1
      rw [key x (by rw [e]; simp [q]), key a haq] at h2
      exact fun z => jz_ah_irr (jz_ah_trans h2 z)
  · have emap : ∀ l : List Nat, a ∉ l → l.map (fun a => ((k.1 a).toNatClampNeg, u'.1 a)) = l.map (fun a => ((k.1 a).toNatClampNeg, u.1 a)) := fun l hl => List.map_congr_left (fun x hx => by rw [(hu x (fun q => hl (q ▸ hx))).1])
    have main : ∀ ex : Nat → Prop, (∀ x, x = a → ex x ∨ u'.2.1 x = 0) → jo_Ok ex N k u' PS hd (p1 ++ p2) S (p1.map (fun a => ((k.1 a).toNatClampNeg, u.1 a)) ++ p2.map (fun a => ((k.1 a).toNatClampNeg, u.1 a))) := fun ex hex => by
      refine ⟨h.1, hn.2, fun x hx => ?_, hrow, ?_, fun x hx hxn => ?_, h.tab, ?_, ?_⟩
      · rcases List.mem_append.mp hx with q | q
        · exact h.2.2.1 x (by rw [e]; simp [q])
        · exact h.2.2.1 x (by rw [e]; simp [q])
      · have := h.len
        rw [e] at this
        simp only [List.length_append, List.length_cons] at this ⊢
        omega
      · obtain ⟨m, h1, h2, h3, h4, h5, h6, h7⟩ := h.six x hx hxn
        refine ⟨m, h1, h2, h3, h4, h5, h6, ?_⟩
        by_cases q : x = a
        · rcases hex x q with z | z
          · exact Or.inl z
          · exact Or.inr (Or.inr ⟨z, by rw [q]; exact hanot⟩)
        · right
          rw [(hu x q).2]
          rcases h7 with z | ⟨z1, z2⟩ | ⟨z1, z2⟩
          · exact z.elim
          · rw [e] at z2
            refine Or.inl ⟨z1, ?_⟩
            rcases List.mem_append.mp z2 with w | w
            · simp [w]
            · rcases List.mem_cons.mp w with w | w
              · exact absurd w q
              · simp [w]
          · rw [e] at z2
            refine Or.inr ⟨z1, fun w => z2 ?_⟩
            rcases List.mem_append.mp w with w | w
            · simp [w]
            · simp [w]
      · rw [emap _ hanot, List.map_append]
      · rw [List.pairwise_append]
        exact ⟨hs.1, hs.2.1.2, fun x hx y hy => hs.2.2 x hx y (List.mem_cons_of_mem _ hy)⟩
    refine ⟨_, ⟨p1.map (fun a => ((k.1 a).toNatClampNeg, u.1 a)), p2.map (fun a => ((k.1 a).toNatClampNeg, u.1 a)), u.1 a, ?_, rfl⟩, hanot, main _ (fun x q => Or.inl q), fun z => main _ (fun x q => Or.inr (by rw [q]; exact z))⟩
    rw [h.eqA, e, List.map_append, List.map_cons, hcl]
end OK
