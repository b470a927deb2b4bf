/-! rows of steps, purely: of a list of places, the first that is higher than r, and how far it is -/
def jr_fst (ht : Nat → Nat) (r : Nat) : List Nat → Option Nat
  | [] => none
  | b :: t => if r < ht b then some b else jr_fst ht r t
def jr_dst (ht : Nat → Nat) (r : Nat) : List Nat → Nat
  | [] => 1
  | b :: t => if r < ht b then 1 else jr_dst ht r t + 1
/-- row r is right for the list: each place's step goes to the next that is higher than r -/
def jr_ok (ht : Nat → Nat) (NX : Nat → Nat → Option Nat) (FR : Nat → Nat → Int32) (r : Nat) : List Nat → Prop
  | [] => True
  | a :: t => (r < ht a → NX a r = jr_fst ht r t ∧ FR a r = nI (jr_dst ht r t)) ∧ jr_ok ht NX FR r t
theorem jr_fst_low {ht : Nat → Nat} {r : Nat} {s t : List Nat} (h : ∀ x ∈ s, ht x ≤ r) : jr_fst ht r (s ++ t) = jr_fst ht r t := by
  induction s with
  | nil => rfl
  | cons b u ih =>
    have hb : ¬ r < ht b := Nat.not_lt.mpr (h b List.mem_cons_self)
    show (if r < ht b then some b else jr_fst ht r (u ++ t)) = _
    rw [if_neg hb]
    exact ih (fun x hx => h x (List.mem_cons_of_mem _ hx))
theorem jr_dst_low {ht : Nat → Nat} {r : Nat} {s t : List Nat} (h : ∀ x ∈ s, ht x ≤ r) : jr_dst ht r (s ++ t) = s.length + jr_dst ht r t := by
  induction s with
  | nil => simp
  | cons b u ih =>
    have hb : ¬ r < ht b := Nat.not_lt.mpr (h b List.mem_cons_self)
    show (if r < ht b then 1 else jr_dst ht r (u ++ t) + 1) = _
    rw [if_neg hb, ih (fun x hx => h x (List.mem_cons_of_mem _ hx))]
    simp only [List.length_cons]
    omega
theorem jr_fst_at {ht : Nat → Nat} {r b : Nat} {t : List Nat} (h : r < ht b) : jr_fst ht r (b :: t) = some b := by
  show (if r < ht b then some b else jr_fst ht r t) = _
  rw [if_pos h]
theorem jr_dst_at {ht : Nat → Nat} {r b : Nat} {t : List Nat} (h : r < ht b) : jr_dst ht r (b :: t) = 1 := by
  show (if r < ht b then 1 else jr_dst ht r t + 1) = _
  rw [if_pos h]
theorem jr_dst_pos {ht : Nat → Nat} {r : Nat} {t : List Nat} : 1 ≤ jr_dst ht r t := by
  cases t with
  | nil => exact Nat.le_refl 1
  | cons b u =>
    show 1 ≤ (if r < ht b then 1 else jr_dst ht r u + 1)
    split <;> omega
theorem jr_dst_le {ht : Nat → Nat} {r : Nat} {t : List Nat} : jr_dst ht r t ≤ t.length + 1 := by
  induction t with
  | nil => exact Nat.le_refl 1
  | cons b u ih =>
    show (if r < ht b then 1 else jr_dst ht r u + 1) ≤ _
    simp only [List.length_cons]
    split <;> omega
/-- the first that is higher, with what lies between -/
theorem jr_split {ht : Nat → Nat} {r b : Nat} {t : List Nat} (h : jr_fst ht r t = some b) : ∃ (mid suf : List Nat), t = mid ++ b :: suf ∧ (∀ x ∈ mid, ht x ≤ r) ∧ r < ht b ∧ jr_dst ht r t = mid.length + 1 := by
  induction t with
  | nil => cases h
  | cons y u ih =>
    by_cases hy : r < ht y
    · rw [jr_fst_at hy] at h
      cases h
      exact ⟨[], u, rfl, fun x hx => absurd hx List.not_mem_nil, hy, jr_dst_at hy⟩
    · have h1 : jr_fst ht r u = some b := by
        have h0 : (if r < ht y then some y else jr_fst ht r u) = some b := h
        rwa [if_neg hy] at h0
      obtain ⟨mid, suf, e1, e2, e3, e4⟩ := ih h1
      refine ⟨y :: mid, suf, by rw [e1]; rfl, ?_, e3, ?_⟩
      · intro x hx
        rcases List.mem_cons.mp hx with h | h
        · rw [h]; exact Nat.not_lt.mp hy
        · exact e2 x h
      · show (if r < ht y then 1 else jr_dst ht r u + 1) = _
        rw [if_neg hy, e4]
        rfl
theorem jr_none {ht : Nat → Nat} {r : Nat} {t : List Nat} (h : jr_fst ht r t = none) : (∀ x ∈ t, ht x ≤ r) ∧ jr_dst ht r t = t.length + 1 := by
  induction t with
  | nil => exact ⟨fun x hx => absurd hx List.not_mem_nil, rfl⟩
  | cons y u ih =>
    by_cases hy : r < ht y
    · rw [jr_fst_at hy] at h
      cases h
    · have h1 : jr_fst ht r u = none := by
        have h0 : (if r < ht y then some y else jr_fst ht r u) = none := h
        rwa [if_neg hy] at h0
      obtain ⟨e1, e2⟩ := ih h1
      refine ⟨fun x hx => ?_, ?_⟩
      · rcases List.mem_cons.mp hx with h | h
        · rw [h]; exact Nat.not_lt.mp hy
        · exact e1 x h
      · show (if r < ht y then 1 else jr_dst ht r u + 1) = _
        rw [if_neg hy, e2]
        rfl
/-- what lies nearer than the step goes is low -/
theorem jr_lowBy {ht : Nat → Nat} {r : Nat} {s t : List Nat} (h : s.length < jr_dst ht r (s ++ t)) : ∀ x ∈ s, ht x ≤ r := by
  induction s with
  | nil => exact fun x hx => absurd hx List.not_mem_nil
  | cons y u ih =>
    by_cases hy : r < ht y
    · have h1 : jr_dst ht r (y :: (u ++ t)) = 1 := jr_dst_at hy
      have h2 : (y :: u).length < 1 := by rw [← h1]; exact h
      simp at h2
    · have h1 : jr_dst ht r (y :: (u ++ t)) = jr_dst ht r (u ++ t) + 1 := by
        show (if r < ht y then 1 else jr_dst ht r (u ++ t) + 1) = _
        rw [if_neg hy]
      have h2 : (y :: u).length < jr_dst ht r (y :: (u ++ t)) := h
      rw [h1] at h2
      simp only [List.length_cons] at h2
      intro x hx
      rcases List.mem_cons.mp hx with h | h
      · rw [h]; exact Nat.not_lt.mp hy
      · exact ih (by omega) x h
theorem jr_ok_at {ht : Nat → Nat} {NX : Nat → Nat → Option Nat} {FR : Nat → Nat → Int32} {r a : Nat} {pre suf : List Nat} (h : jr_ok ht NX FR r (pre ++ a :: suf)) (ha : r < ht a) : NX a r = jr_fst ht r suf ∧ FR a r = nI (jr_dst ht r suf) := by
  induction pre with
  | nil => exact h.1 ha
  | cons y u ih => exact ih h.2
theorem jr_ok_congr {ht : Nat → Nat} {NX NX' : Nat → Nat → Option Nat} {FR FR' : Nat → Nat → Int32} {r : Nat} {ns : List Nat} (h : jr_ok ht NX FR r ns) (e : ∀ a ∈ ns, r < ht a → NX' a r = NX a r ∧ FR' a r = FR a r) : jr_ok ht NX' FR' r ns := by
  induction ns with
  | nil => trivial
  | cons y u ih =>
    refine ⟨fun hy => ?_, ih h.2 (fun a ha => e a (List.mem_cons_of_mem _ ha))⟩
    obtain ⟨e1, e2⟩ := e y List.mem_cons_self hy
    rw [e1, e2]
    exact h.1 hy
theorem jr_ok_app {ht : Nat → Nat} {NX : Nat → Nat → Option Nat} {FR : Nat → Nat → Int32} {r : Nat} {s t : List Nat} (h : jr_ok ht NX FR r (s ++ t)) : jr_ok ht NX FR r t := by
  induction s with
  | nil => exact h
  | cons y u ih => exact ih h.2
/-- beyond a place that is higher than r, a step before it doesn't see -/
theorem jr_fst_cut {ht : Nat → Nat} {r a : Nat} {x t t' : List Nat} (ha : r < ht a) : jr_fst ht r (x ++ a :: t) = jr_fst ht r (x ++ a :: t') := by
  induction x with
  | nil => show jr_fst ht r (a :: t) = jr_fst ht r (a :: t'); rw [jr_fst_at ha, jr_fst_at ha]
  | cons y u ih =>
    show (if r < ht y then some y else jr_fst ht r (u ++ a :: t)) = (if r < ht y then some y else jr_fst ht r (u ++ a :: t'))
    rw [ih]
theorem jr_dst_cut {ht : Nat → Nat} {r a : Nat} {x t t' : List Nat} (ha : r < ht a) : jr_dst ht r (x ++ a :: t) = jr_dst ht r (x ++ a :: t') := by
  induction x with
  | nil => show jr_dst ht r (a :: t) = jr_dst ht r (a :: t'); rw [jr_dst_at ha, jr_dst_at ha]
  | cons y u ih =>
    show (if r < ht y then 1 else jr_dst ht r (u ++ a :: t) + 1) = (if r < ht y then 1 else jr_dst ht r (u ++ a :: t') + 1)
    rw [ih]
/-- another tail behind a: the row is right if it is right from a on, and nothing ahead of a has changed -/
theorem jr_ok_tail {ht : Nat → Nat} {NX NX' : Nat → Nat → Option Nat} {FR FR' : Nat → Nat → Int32} {r a : Nat} {pre t t' : List Nat} (ha : r < ht a) (h : jr_ok ht NX FR r (pre ++ a :: t)) (e : ∀ b ∈ pre, NX' b r = NX b r ∧ FR' b r = FR b r) (h' : jr_ok ht NX' FR' r (a :: t')) : jr_ok ht NX' FR' r (pre ++ a :: t') := by
  induction pre with
  | nil => exact h'
  | cons y u ih =>
    refine ⟨fun hy => ?_, ih h.2 (fun b hb => e b (List.mem_cons_of_mem _ hb))⟩
    obtain ⟨e1, e2⟩ := e y List.mem_cons_self
    have h0 : NX y r = jr_fst ht r (u ++ a :: t) ∧ FR y r = nI (jr_dst ht r (u ++ a :: t)) := h.1 hy
    show NX' y r = jr_fst ht r (u ++ a :: t') ∧ FR' y r = nI (jr_dst ht r (u ++ a :: t'))
    rw [e1, e2, h0.1, h0.2, jr_fst_cut (t' := t') ha, jr_dst_cut (t' := t') ha]
    exact ⟨rfl, rfl⟩
theorem jr_ok_lows {ht : Nat → Nat} {NX : Nat → Nat → Option Nat} {FR : Nat → Nat → Int32} {r : Nat} {s t : List Nat} (hs : ∀ x ∈ s, ht x ≤ r) (h : jr_ok ht NX FR r t) : jr_ok ht NX FR r (s ++ t) := by
  induction s with
  | nil => exact h
  | cons y u ih => exact ⟨fun hy => absurd hy (Nat.not_lt.mpr (hs y List.mem_cons_self)), ih (fun x hx => hs x (List.mem_cons_of_mem _ hx))⟩
/-- a place comes in behind the low ones s1 behind a -/
theorem jr_ins {ht : Nat → Nat} {NX NX' : Nat → Nat → Option Nat} {FR FR' : Nat → Nat → Int32} {r a b : Nat} {pre s1 p2 : List Nat} (h : jr_ok ht NX FR r (pre ++ a :: (s1 ++ p2))) (ha : r < ht a) (hs : ∀ x ∈ s1, ht x ≤ r)
    (e1 : ∀ x ∈ pre, NX' x r = NX x r ∧ FR' x r = FR x r) (e2 : ∀ x ∈ p2, NX' x r = NX x r ∧ FR' x r = FR x r)
    (hb : r < ht b → NX' b r = jr_fst ht r p2 ∧ FR' b r = nI (jr_dst ht r p2) ∧ NX' a r = some b ∧ FR' a r = nI (s1.length + 1))
    (hn : ¬ r < ht b → NX' a r = jr_fst ht r p2 ∧ FR' a r = nI (s1.length + 1 + jr_dst ht r p2)) : jr_ok ht NX' FR' r (pre ++ a :: (s1 ++ b :: p2)) := by
  have h2 : jr_ok ht NX FR r p2 := jr_ok_app (s := s1) (jr_ok_app (s := pre) h).2
  have h2' : jr_ok ht NX' FR' r p2 := jr_ok_congr h2 (fun x hx _ => e2 x hx)
  refine jr_ok_tail ha h e1 ⟨fun _ => ?_, jr_ok_lows hs ⟨fun hy => ⟨(hb hy).1, (hb hy).2.1⟩, h2'⟩⟩
  by_cases hy : r < ht b
  · rw [jr_fst_low hs, jr_fst_at hy, jr_dst_low hs, jr_dst_at hy]
    exact (hb hy).2.2
  · have f1 : jr_fst ht r (s1 ++ b :: p2) = jr_fst ht r p2 := by
      rw [jr_fst_low hs]
      show (if r < ht b then some b else jr_fst ht r p2) = _
      rw [if_neg hy]
    have f2 : jr_dst ht r (s1 ++ b :: p2) = s1.length + 1 + jr_dst ht r p2 := by
      rw [jr_dst_low hs]
      show s1.length + (if r < ht b then 1 else jr_dst ht r p2 + 1) = _
      rw [if_neg hy]
      omega
    rw [f1, f2]
    exact hn hy
/-- a place goes out behind the low ones s1 behind a -/
theorem jr_del {ht : Nat → Nat} {NX NX' : Nat → Nat → Option Nat} {FR FR' : Nat → Nat → Int32} {r a b : Nat} {pre s1 p2 : List Nat} (h : jr_ok ht NX FR r (pre ++ a :: (s1 ++ b :: p2))) (ha : r < ht a) (hs : ∀ x ∈ s1, ht x ≤ r)
    (e1 : ∀ x ∈ pre, NX' x r = NX x r ∧ FR' x r = FR x r) (e2 : ∀ x ∈ p2, NX' x r = NX x r ∧ FR' x r = FR x r)
    (h3 : NX' a r = jr_fst ht r p2 ∧ FR' a r = nI (s1.length + jr_dst ht r p2)) : jr_ok ht NX' FR' r (pre ++ a :: (s1 ++ p2)) := by
  have h2 : jr_ok ht NX FR r p2 := (jr_ok_app (s := s1) (jr_ok_app (s := pre) h).2).2
  have h2' : jr_ok ht NX' FR' r p2 := jr_ok_congr h2 (fun x hx _ => e2 x hx)
  refine jr_ok_tail ha h e1 ⟨fun _ => ?_, jr_ok_lows hs h2'⟩
  rw [jr_fst_low hs, jr_dst_low hs]
  exact h3
theorem jr_atE {ht : Nat → Nat} {NX : Nat → Nat → Option Nat} {FR : Nat → Nat → Int32} {r a : Nat} {ns pre suf : List Nat} (h : jr_ok ht NX FR r ns) (e : ns = pre ++ a :: suf) (ha : r < ht a) : NX a r = jr_fst ht r suf ∧ FR a r = nI (jr_dst ht r suf) := by
  subst e
  exact jr_ok_at h ha
/-! an order's cells: k = (member, word, height, the address of next, of far), u = (score, isIn, next, far), by the place's address -/
abbrev jK : Type := (Nat → Int32) × (Nat → Int32) × (Nat → Nat) × (Nat → Nat) × (Nat → Nat)
abbrev jS : Type := (Nat → Int64) × (Nat → Int32) × (Nat → Nat → Option Nat) × (Nat → Nat → Int32)
abbrev jo_eP (k : jK) (u : jS) (a : Nat) : va_E := .inr (2, [.int (k.1 a), .int (k.2.1 a), .int (nI (k.2.2.1 a)), .ref (k.2.2.2.1 a), .ref (k.2.2.2.2 a), .long (u.1 a), .int (u.2.1 a)])
abbrev jo_eN (cP : ClassId) (g : Nat → Option Nat) : va_E := .inl (cP, 4, .inr (.inr (.inr (.inr g))))
abbrev jo_eF (cI : ClassId) (g : Nat → Int32) : va_E := .inl (cI, 4, .inl g)
abbrev jo_eT (cP : ClassId) (g : Nat → Option Nat) : va_E := .inl (cP, 1000, .inr (.inr (.inr (.inr g))))
abbrev jo_eO (hd pa : Nat) (cnt : Int32) (hr : Nat) (ps : Int32) : va_E := .inr (1, [.ref hd, .ref pa, .int cnt, .ref hr, .int ps])
/-- the places PS stand in the pool -/
def jo_V (cI cP : ClassId) (L : List Nat) (f : Nat → va_E) (k : jK) (u : jS) (PS : List Nat) : Prop :=
  (∀ a ∈ PS, a ∈ L ∧ k.2.2.2.1 a ∈ L ∧ k.2.2.2.2 a ∈ L ∧ f a = jo_eP k u a ∧ f (k.2.2.2.1 a) = jo_eN cP (u.2.2.1 a) ∧ f (k.2.2.2.2 a) = jo_eF cI (u.2.2.2 a)) ∧
  (∀ a ∈ PS, ∀ b ∈ PS, k.2.2.2.1 a = k.2.2.2.1 b → a = b) ∧ (∀ a ∈ PS, ∀ b ∈ PS, k.2.2.2.2 a = k.2.2.2.2 b → a = b)
/-- q is none of the cells of the places PS -/
def jo_N (k : jK) (PS : List Nat) (q : Nat) : Prop := ∀ a ∈ PS, q ≠ a ∧ q ≠ k.2.2.2.1 a ∧ q ≠ k.2.2.2.2 a
theorem jo_ne {f : Nat → va_E} {q a : Nat} {e1 e2 : va_E} (h1 : f q = e1) (h2 : f a = e2) (h : e1 ≠ e2) : q ≠ a := fun e => h (by rw [← h1, e, h2])
section JO
variable {cI cP : ClassId} {L L' : List Nat} {f f' : Nat → va_E} {k : jK} {u : jS} {PS : List Nat}
theorem jo_V.aL (h : jo_V cI cP L f k u PS) {a : Nat} (ha : a ∈ PS) : a ∈ L := (h.1 a ha).1
theorem jo_V.nL (h : jo_V cI cP L f k u PS) {a : Nat} (ha : a ∈ PS) : k.2.2.2.1 a ∈ L := (h.1 a ha).2.1
theorem jo_V.fL (h : jo_V cI cP L f k u PS) {a : Nat} (ha : a ∈ PS) : k.2.2.2.2 a ∈ L := (h.1 a ha).2.2.1
theorem jo_V.a (h : jo_V cI cP L f k u PS) {a : Nat} (ha : a ∈ PS) : f a = jo_eP k u a := (h.1 a ha).2.2.2.1
theorem jo_V.n (h : jo_V cI cP L f k u PS) {a : Nat} (ha : a ∈ PS) : f (k.2.2.2.1 a) = jo_eN cP (u.2.2.1 a) := (h.1 a ha).2.2.2.2.1
theorem jo_V.r (h : jo_V cI cP L f k u PS) {a : Nat} (ha : a ∈ PS) : f (k.2.2.2.2 a) = jo_eF cI (u.2.2.2 a) := (h.1 a ha).2.2.2.2.2
theorem jo_V.keep (h : jo_V cI cP L f k u PS) (hL : ∀ q ∈ L, q ∈ L') (e : ∀ q, ¬ jo_N k PS q → f' q = f q) : jo_V cI cP L' f' k u PS := by
  refine ⟨fun a ha => ?_, h.2⟩
  have h1 := h.1 a ha
  refine ⟨hL _ h1.1, hL _ h1.2.1, hL _ h1.2.2.1, ?_, ?_, ?_⟩
  · rw [e a (fun n => (n a ha).1 rfl)]; exact h1.2.2.2.1
  · rw [e _ (fun n => (n a ha).2.1 rfl)]; exact h1.2.2.2.2.1
  · rw [e _ (fun n => (n a ha).2.2 rfl)]; exact h1.2.2.2.2.2
theorem jo_V.up (h : jo_V cI cP L f k u PS) {q : Nat} {e : va_E} (hq : jo_N k PS q) : jo_V cI cP L (va_up f q e) k u PS :=
  h.keep (fun _ hq => hq) (fun x hx => va_up_ne _ _ (fun ex => hx (ex ▸ hq)))
/-- an order's own cell, a table, are no cells of places -/
theorem jo_V.nO (h : jo_V cI cP L f k u PS) {q : Nat} {vs : List Value} {ci : Nat} (hc : ci ≠ 2) (hq : f q = .inr (ci, vs)) : jo_N k PS q := fun a ha =>
  ⟨jo_ne hq (h.a ha) (fun e => hc (by injection e with e; injection e)), jo_ne hq (h.n ha) (fun e => by cases e), jo_ne hq (h.r ha) (fun e => by cases e)⟩
theorem jo_V.nT (h : jo_V cI cP L f k u PS) {q n : Nat} {cA : ClassId} {g : (Nat → Int32) ⊕ (Nat → Int64) ⊕ (Nat → UInt32) ⊕ (Nat → UInt64) ⊕ (Nat → Option Nat)} (hn : n ≠ 4) (hq : f q = .inl (cA, n, g)) : jo_N k PS q := fun a ha =>
  ⟨jo_ne hq (h.a ha) (fun e => by cases e), jo_ne hq (h.n ha) (fun e => hn (by injection e with e; injection e with _ e; injection e)), jo_ne hq (h.r ha) (fun e => hn (by injection e with e; injection e with _ e; injection e))⟩
theorem jo_V.an (h : jo_V cI cP L f k u PS) {a b : Nat} (ha : a ∈ PS) (hb : b ∈ PS) : a ≠ k.2.2.2.1 b ∧ a ≠ k.2.2.2.2 b ∧ k.2.2.2.1 a ≠ k.2.2.2.2 b :=
  ⟨jo_ne (h.a ha) (h.n hb) (fun e => by cases e), jo_ne (h.a ha) (h.r hb) (fun e => by cases e), jo_ne (h.n ha) (h.r hb) (fun e => by injection e with e; injection e with _ e; injection e with _ e; cases e)⟩
/-- a write into far -/
theorem jo_V.putF (h : jo_V cI cP L f k u PS) {a : Nat} (ha : a ∈ PS) (g : Nat → Int32) : jo_V cI cP L (va_up f (k.2.2.2.2 a) (jo_eF cI g)) k (u.1, u.2.1, u.2.2.1, va_up u.2.2.2 a g) PS := by
  refine ⟨fun b hb => ?_, h.2⟩
  refine ⟨h.aL hb, h.nL hb, h.fL hb, ?_, ?_, ?_⟩
  · rw [va_up_ne _ _ (h.an hb ha).2.1]; exact h.a hb
  · rw [va_up_ne _ _ (h.an hb ha).2.2]; exact h.n hb
  · by_cases e : b = a
    · subst e
      rw [va_up_self]
      show _ = jo_eF cI (va_up u.2.2.2 b g b)
      rw [va_up_self]
    · rw [va_up_ne _ _ (fun q => e (h.2.2 b hb a ha q))]
      show _ = jo_eF cI (va_up u.2.2.2 a g b)
      rw [va_up_ne _ _ e]
      exact h.r hb
/-- a write into next -/
theorem jo_V.putX (h : jo_V cI cP L f k u PS) {a : Nat} (ha : a ∈ PS) (g : Nat → Option Nat) : jo_V cI cP L (va_up f (k.2.2.2.1 a) (jo_eN cP g)) k (u.1, u.2.1, va_up u.2.2.1 a g, u.2.2.2) PS := by
  refine ⟨fun b hb => ?_, h.2⟩
  refine ⟨h.aL hb, h.nL hb, h.fL hb, ?_, ?_, ?_⟩
  · rw [va_up_ne _ _ (h.an hb ha).1]; exact h.a hb
  · by_cases e : b = a
    · subst e
      rw [va_up_self]
      show _ = jo_eN cP (va_up u.2.2.1 b g b)
      rw [va_up_self]
    · rw [va_up_ne _ _ (fun q => e (h.2.1 b hb a ha q))]
      show _ = jo_eN cP (va_up u.2.2.1 a g b)
      rw [va_up_ne _ _ e]
      exact h.n hb
  · rw [va_up_ne _ _ (h.an ha hb).2.2.symm]; exact h.r hb
/-- a write of the score -/
theorem jo_V.putS (h : jo_V cI cP L f k u PS) {a : Nat} (ha : a ∈ PS) (v : Int64) : jo_V cI cP L (va_up f a (jo_eP k (va_up u.1 a v, u.2) a)) k (va_up u.1 a v, u.2) PS := by
  refine ⟨fun b hb => ?_, h.2⟩
  refine ⟨h.aL hb, h.nL hb, h.fL hb, ?_, ?_, ?_⟩
  · by_cases e : b = a
    · subst e
      rw [va_up_self]
    · rw [va_up_ne _ _ e, h.a hb]
      simp [va_up, e]
  · rw [va_up_ne _ _ (h.an ha hb).1.symm]; exact h.n hb
  · rw [va_up_ne _ _ (h.an ha hb).2.1.symm]; exact h.r hb
/-- a write of isIn -/
theorem jo_V.putI (h : jo_V cI cP L f k u PS) {a : Nat} (ha : a ∈ PS) (v : Int32) : jo_V cI cP L (va_up f a (jo_eP k (u.1, va_up u.2.1 a v, u.2.2) a)) k (u.1, va_up u.2.1 a v, u.2.2) PS := by
  refine ⟨fun b hb => ?_, h.2⟩
  refine ⟨h.aL hb, h.nL hb, h.fL hb, ?_, ?_, ?_⟩
  · by_cases e : b = a
    · subst e
      rw [va_up_self]
    · rw [va_up_ne _ _ e, h.a hb]
      simp [va_up, e]
  · rw [va_up_ne _ _ (h.an ha hb).1.symm]; exact h.n hb
  · rw [va_up_ne _ _ (h.an ha hb).2.1.symm]; exact h.r hb
end JO
