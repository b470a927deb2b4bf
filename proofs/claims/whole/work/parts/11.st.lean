theorem jz_self {f : Nat → va_E} {o : Nat} {e : va_E} (h : f o = e) : va_up f o e = f := by
  funext x
  by_cases q : x = o
  · rw [q, va_up_self, h]
  · rw [va_up_ne _ _ q]
theorem jr_fst_ht {ht ht' : Nat → Nat} {r : Nat} {t : List Nat} (h : ∀ x ∈ t, ht' x = ht x) : jr_fst ht' r t = jr_fst ht r t := by
  induction t with
  | nil => rfl
  | cons b u ih =>
    show (if r < ht' b then some b else jr_fst ht' r u) = (if r < ht b then some b else jr_fst ht r u)
    rw [h b List.mem_cons_self, ih (fun x hx => h x (List.mem_cons_of_mem _ hx))]
theorem jr_dst_ht {ht ht' : Nat → Nat} {r : Nat} {t : List Nat} (h : ∀ x ∈ t, ht' x = ht x) : jr_dst ht' r t = jr_dst ht r t := by
  induction t with
  | nil => rfl
  | cons b u ih =>
    show (if r < ht' b then 1 else jr_dst ht' r u + 1) = (if r < ht b then 1 else jr_dst ht r u + 1)
    rw [h b List.mem_cons_self, ih (fun x hx => h x (List.mem_cons_of_mem _ hx))]
theorem jr_ok_ht {ht ht' : Nat → Nat} {NX NX' : Nat → Nat → Option Nat} {FR FR' : Nat → Nat → Int32} {r : Nat} {ns : List Nat} (h : jr_ok ht NX FR r ns) (e : ∀ a ∈ ns, ht' a = ht a ∧ NX' a = NX a ∧ FR' a = FR a) : jr_ok ht' NX' FR' r ns := by
  induction ns with
  | nil => trivial
  | cons y u ih =>
    have et : ∀ x ∈ u, ht' x = ht x := fun x hx => (e x (List.mem_cons_of_mem _ hx)).1
    refine ⟨fun hy => ?_, ih h.2 (fun a ha => e a (List.mem_cons_of_mem _ ha))⟩
    obtain ⟨e1, e2, e3⟩ := e y List.mem_cons_self
    rw [e2, e3, jr_fst_ht et, jr_dst_ht et]
    exact h.1 (e1 ▸ hy)
/-- the places with a new one -/
abbrev jo_kG (k : jK) (a : Nat) (mv wv : Int32) (h n r : Nat) : jK := (va_up k.1 a mv, va_up k.2.1 a wv, va_up k.2.2.1 a h, va_up k.2.2.2.1 a n, va_up k.2.2.2.2 a r)
abbrev jo_uG (u : jS) (a : Nat) (s0 : Int64) (i0 : Int32) (g0 : Nat → Option Nat) (h0 : Nat → Int32) : jS := (va_up u.1 a s0, va_up u.2.1 a i0, va_up u.2.2.1 a g0, va_up u.2.2.2 a h0)
theorem jo_V.grow {cI cP : ClassId} {L L' : List Nat} {f f' : Nat → va_E} {k : jK} {u : jS} {PS : List Nat} {a n r h : Nat} {mv wv i0 : Int32} {s0 : Int64} {g0 : Nat → Option Nat} {h0 : Nat → Int32} (hV : jo_V cI cP L f k u PS) (ha : a ∉ L) (hn : n ∉ L) (hr : r ∉ L) (hL : ∀ q ∈ L, q ∈ L') (haL : a ∈ L') (hnL : n ∈ L') (hrL : r ∈ L') (hold : ∀ q ∈ L, ¬ jo_N k PS q → f' q = f q)
    (fa : f' a = .inr (2, [.int mv, .int wv, .int (nI h), .ref n, .ref r, .long s0, .int i0])) (fn : f' n = jo_eN cP g0) (fr : f' r = jo_eF cI h0) : jo_V cI cP L' f' (jo_kG k a mv wv h n r) (jo_uG u a s0 i0 g0 h0) (PS ++ [a]) := by
  have hne : ∀ b ∈ PS, b ≠ a := fun b hb q => ha (q ▸ hV.aL hb)
  refine ⟨fun b hb => ?_, fun b hb d hd e => ?_, fun b hb d hd e => ?_⟩
  · rcases List.mem_append.mp hb with hb | hb
    · have q := hne b hb
      have e4 : (jo_kG k a mv wv h n r).2.2.2.1 b = k.2.2.2.1 b := va_up_ne _ _ q
      have e5 : (jo_kG k a mv wv h n r).2.2.2.2 b = k.2.2.2.2 b := va_up_ne _ _ q
      rw [e4, e5]
      refine ⟨hL _ (hV.aL hb), hL _ (hV.nL hb), hL _ (hV.fL hb), ?_, ?_, ?_⟩
      · rw [hold b (hV.aL hb) (fun z => (z b hb).1 rfl), hV.a hb]
        show jo_eP k u b = .inr (2, [.int (va_up k.1 a mv b), .int (va_up k.2.1 a wv b), .int (nI (va_up k.2.2.1 a h b)), .ref (va_up k.2.2.2.1 a n b), .ref (va_up k.2.2.2.2 a r b), .long (va_up u.1 a s0 b), .int (va_up u.2.1 a i0 b)])
        rw [va_up_ne _ _ q, va_up_ne _ _ q, va_up_ne _ _ q, va_up_ne _ _ q, va_up_ne _ _ q, va_up_ne _ _ q, va_up_ne _ _ q]
      · rw [hold _ (hV.nL hb) (fun z => (z b hb).2.1 rfl), hV.n hb]
        show jo_eN cP (u.2.2.1 b) = jo_eN cP (va_up u.2.2.1 a g0 b)
        rw [va_up_ne _ _ q]
      · rw [hold _ (hV.fL hb) (fun z => (z b hb).2.2 rfl), hV.r hb]
        show jo_eF cI (u.2.2.2 b) = jo_eF cI (va_up u.2.2.2 a h0 b)
        rw [va_up_ne _ _ q]
    · have q : b = a := List.mem_singleton.mp hb
      subst q
      have e4 : (jo_kG k b mv wv h n r).2.2.2.1 b = n := va_up_self _ _ _
      have e5 : (jo_kG k b mv wv h n r).2.2.2.2 b = r := va_up_self _ _ _
      rw [e4, e5]
      refine ⟨haL, hnL, hrL, ?_, ?_, ?_⟩
      · rw [fa]
        show _ = (.inr (2, [.int (va_up k.1 b mv b), .int (va_up k.2.1 b wv b), .int (nI (va_up k.2.2.1 b h b)), .ref (va_up k.2.2.2.1 b n b), .ref (va_up k.2.2.2.2 b r b), .long (va_up u.1 b s0 b), .int (va_up u.2.1 b i0 b)]) : va_E)
        rw [va_up_self, va_up_self, va_up_self, va_up_self, va_up_self, va_up_self, va_up_self]
      · rw [fn]
        show _ = jo_eN cP (va_up u.2.2.1 b g0 b)
        rw [va_up_self]
      · rw [fr]
        show _ = jo_eF cI (va_up u.2.2.2 b h0 b)
        rw [va_up_self]
  · have e' : va_up k.2.2.2.1 a n b = va_up k.2.2.2.1 a n d := e
    rcases List.mem_append.mp hb with hb | hb <;> rcases List.mem_append.mp hd with hd | hd
    · rw [va_up_ne _ _ (hne b hb), va_up_ne _ _ (hne d hd)] at e'
      exact hV.2.1 b hb d hd e'
    · rw [List.mem_singleton.mp hd, va_up_ne _ _ (hne b hb), va_up_self] at e'
      exact absurd (e' ▸ hV.nL hb) hn
    · rw [List.mem_singleton.mp hb, va_up_ne _ _ (hne d hd), va_up_self] at e'
      exact absurd (e' ▸ hV.nL hd) hn
    · rw [List.mem_singleton.mp hb, List.mem_singleton.mp hd]
  · have e' : va_up k.2.2.2.2 a r b = va_up k.2.2.2.2 a r d := e
    rcases List.mem_append.mp hb with hb | hb <;> rcases List.mem_append.mp hd with hd | hd
    · rw [va_up_ne _ _ (hne b hb), va_up_ne _ _ (hne d hd)] at e'
      exact hV.2.2 b hb d hd e'
    · rw [List.mem_singleton.mp hd, va_up_ne _ _ (hne b hb), va_up_self] at e'
      exact absurd (e' ▸ hV.fL hb) hr
    · rw [List.mem_singleton.mp hb, va_up_ne _ _ (hne d hd), va_up_self] at e'
      exact absurd (e' ▸ hV.fL hd) hr
    · rw [List.mem_singleton.mp hb, List.mem_singleton.mp hd]
theorem jo_N.grow {k : jK} {PS : List Nat} {a n r h q : Nat} {mv wv : Int32} (hne : ∀ b ∈ PS, b ≠ a) (hq : ¬ jo_N (jo_kG k a mv wv h n r) (PS ++ [a]) q) : ¬ jo_N k PS q ∨ q = a ∨ q = n ∨ q = r := by
  by_cases h1 : q = a
  · exact Or.inr (Or.inl h1)
  · by_cases h2 : q = n
    · exact Or.inr (Or.inr (Or.inl h2))
    · by_cases h3 : q = r
      · exact Or.inr (Or.inr (Or.inr h3))
      · refine Or.inl (fun z => hq (fun b hb => ?_))
        rcases List.mem_append.mp hb with hb | hb
        · have w := hne b hb
          have e4 : (jo_kG k a mv wv h n r).2.2.2.1 b = k.2.2.2.1 b := va_up_ne _ _ w
          have e5 : (jo_kG k a mv wv h n r).2.2.2.2 b = k.2.2.2.2 b := va_up_ne _ _ w
          rw [e4, e5]
          exact z b hb
        · have w : b = a := List.mem_singleton.mp hb
          subst w
          have e4 : (jo_kG k b mv wv h n r).2.2.2.1 b = n := va_up_self _ _ _
          have e5 : (jo_kG k b mv wv h n r).2.2.2.2 b = r := va_up_self _ _ _
          rw [e4, e5]
          exact ⟨h1, h2, h3⟩
theorem jo_Ok.grow {N : Nat} {k : jK} {u : jS} {PS : List Nat} {hd : Nat} {qs : List Nat} {S : Nat → Option Nat} {As : List (Nat × Int64)} {a n r h i : Nat} {s0 : Int64} {g0 : Nat → Option Nat} {h0 : Nat → Int32} (hO : jo_Ok (fun _ => False) N k u PS hd qs S As) (ha : a ∉ PS) (hi : i < 1000) (hSi : S i = none) (h1 : 1 ≤ h) (h4 : h ≤ 4) :
    jo_Ok (fun _ => False) N (jo_kG k a (nI i) (jz_word (nI i)) h n r) (jo_uG u a s0 0 g0 h0) (PS ++ [a]) hd qs (va_up S i (some a)) As := by
  have hne : ∀ b ∈ PS, b ≠ a := fun b hb q => ha (q ▸ hb)
  have hdn := hne hd hO.1.1
  have hqn : ∀ b ∈ qs, b ≠ a := fun b hb => hne b (hO.2.2.1 b hb)
  refine ⟨⟨List.mem_append_left _ hO.1.1, ?_⟩, hO.2.1, fun b hb => List.mem_append_left _ (hO.2.2.1 b hb), fun x hx => ?_, hO.len, fun b hb hbn => ?_, fun m b hm hb => ?_, ?_, hO.sorted⟩
  · show va_up k.2.2.1 a h hd = 4
    rw [va_up_ne _ _ hdn]
    exact hO.1.2
  · refine jr_ok_ht (hO.rows x hx) (fun b hb => ?_)
    have q := hne b (hO.sub b hb)
    exact ⟨va_up_ne _ _ q, va_up_ne _ _ q, va_up_ne _ _ q⟩
  · show ∃ m, m < 1000 ∧ va_up S i (some a) m = some b ∧ va_up k.1 a (nI i) b = nI m ∧ va_up k.2.1 a (jz_word (nI i)) b = jz_word (nI m) ∧ 1 ≤ va_up k.2.2.1 a h b ∧ va_up k.2.2.1 a h b ≤ 4 ∧ (False ∨ va_up u.2.1 a 0 b = 1 ∧ b ∈ qs ∨ va_up u.2.1 a 0 b = 0 ∧ b ∉ qs)
    rcases List.mem_append.mp hb with hb | hb
    · have q := hne b hb
      obtain ⟨m, g1, g2, g3, g4, g5, g6, g7⟩ := hO.six b hb hbn
      have hmi : m ≠ i := fun z => by rw [z, hSi] at g2; cases g2
      refine ⟨m, g1, ?_, ?_, ?_, ?_, ?_, ?_⟩
      · rw [va_up_ne _ _ hmi]; exact g2
      · rw [va_up_ne _ _ q]; exact g3
      · rw [va_up_ne _ _ q]; exact g4
      · rw [va_up_ne _ _ q]; exact g5
      · rw [va_up_ne _ _ q]; exact g6
      · rw [va_up_ne _ _ q]; exact g7
    · have q : b = a := List.mem_singleton.mp hb
      rw [q]
      refine ⟨i, hi, va_up_self _ _ _, va_up_self _ _ _, va_up_self _ _ _, ?_, ?_, Or.inr (Or.inr ⟨va_up_self _ _ _, fun z => hqn a z rfl⟩)⟩
      · rw [va_up_self]; exact h1
      · rw [va_up_self]; exact h4
  · show b ∈ PS ++ [a] ∧ b ≠ hd ∧ va_up k.1 a (nI i) b = nI m
    by_cases q : m = i
    · rw [q, va_up_self] at hb
      cases hb
      rw [q]
      exact ⟨List.mem_append_right _ (List.mem_singleton.mpr rfl), hdn.symm, va_up_self _ _ _⟩
    · rw [va_up_ne _ _ q] at hb
      obtain ⟨g1, g2, g3⟩ := hO.tab m b hm hb
      exact ⟨List.mem_append_left _ g1, g2, by rw [va_up_ne _ _ (hne b g1)]; exact g3⟩
  · rw [hO.eqA]
    refine List.map_congr_left (fun b hb => ?_)
    have q := hqn b hb
    show _ = ((va_up k.1 a (nI i) b).toNatClampNeg, va_up u.1 a s0 b)
    rw [va_up_ne _ _ q, va_up_ne _ _ q]
theorem jo_Ok.mono {ex : Nat → Prop} {N N' : Nat} {k : jK} {u : jS} {PS : List Nat} {hd : Nat} {qs : List Nat} {S : Nat → Option Nat} {As : List (Nat × Int64)} (h : jo_Ok ex N k u PS hd qs S As) (hN : N ≤ N') : jo_Ok ex N' k u PS hd qs S As :=
  ⟨h.1, h.2.1, h.2.2.1, h.rows, Nat.le_trans h.len hN, h.six, h.tab, h.eqA, h.sorted⟩
/-- an order in the pool -/
def jo_St (N : Nat) (ct : Nat → ClassId) (L : List Nat) (f : Nat → va_E) (o hd pa hr : Nat) (ps : Int32) (k : jK) (u : jS) (PS qs : List Nat) (S : Nat → Option Nat) (As : List (Nat × Int64)) : Prop :=
  o ∈ L ∧ pa ∈ L ∧ f o = jo_eO hd pa (nI qs.length) hr ps ∧ f pa = jo_eT (ct 1) S ∧ jo_V (ct 0) (ct 1) L f k u PS ∧ jo_Ok (fun _ => False) N k u PS hd qs S As
/-- an order has changed, and nothing else -/
def jo_Ch (N : Nat) (ct : Nat → ClassId) (L : List Nat) (f : Nat → va_E) (o hd pa : Nat) (k : jK) (PS : List Nat) (L' : List Nat) (f' : Nat → va_E) (As' : List (Nat × Int64)) : Prop :=
  ∃ (hr' : Nat) (ps' : Int32) (k' : jK) (u' : jS) (PS' qs' : List Nat) (S' : Nat → Option Nat), jo_St N ct L' f' o hd pa hr' ps' k' u' PS' qs' S' As' ∧ (∀ q ∈ L, q ∈ L') ∧ (∀ q ∈ L, q ≠ o → q ≠ pa → jo_N k PS q → f' q = f q) ∧ (∀ q, ¬ jo_N k' PS' q → ¬ jo_N k PS q ∨ q ∉ L)
