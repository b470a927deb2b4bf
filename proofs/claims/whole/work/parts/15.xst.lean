/-! the object: four orders apart -/
def jo_Own (N : Nat) (ct : Nat → ClassId) (L : List Nat) (f : Nat → va_E) (o : Nat) (A : List (Nat × Int64)) (FP : Nat → Prop) : Prop :=
  ∃ (hd pa hr : Nat) (ps : Int32) (k : jK) (u : jS) (PS qs : List Nat) (S : Nat → Option Nat), jo_St N ct L f o hd pa hr ps k u PS qs S A ∧ ∀ q, FP q ↔ (q = o ∨ q = pa ∨ ¬ jo_N k PS q)
theorem jo_V.inL {cI cP : ClassId} {L : List Nat} {f : Nat → va_E} {k : jK} {u : jS} {PS : List Nat} (h : jo_V cI cP L f k u PS) {q : Nat} (hq : ¬ jo_N k PS q) : q ∈ L :=
  Classical.byContradiction (fun z => hq (fun b hb => ⟨fun w => z (w ▸ h.aL hb), fun w => z (w ▸ h.nL hb), fun w => z (w ▸ h.fL hb)⟩))
theorem jo_Own.inL {N : Nat} {ct : Nat → ClassId} {L : List Nat} {f : Nat → va_E} {o : Nat} {A : List (Nat × Int64)} {FP : Nat → Prop} (h : jo_Own N ct L f o A FP) {q : Nat} (hq : FP q) : q ∈ L := by
  obtain ⟨hd, pa, hr, ps, k, u, PS, qs, S, hS, hF⟩ := h
  rcases (hF q).mp hq with z | z | z
  · rw [z]; exact hS.1
  · rw [z]; exact hS.2.1
  · exact hS.2.2.2.2.1.inL z
theorem jo_Own.keep {N N' : Nat} {ct : Nat → ClassId} {L L' : List Nat} {f f' : Nat → va_E} {o : Nat} {A : List (Nat × Int64)} {FP : Nat → Prop} (h : jo_Own N ct L f o A FP) (hN : N ≤ N') (hL : ∀ q ∈ L, q ∈ L') (e : ∀ q, FP q → f' q = f q) : jo_Own N' ct L' f' o A FP := by
  obtain ⟨hd, pa, hr, ps, k, u, PS, qs, S, ⟨h1, h2, h3, h4, h5, h6⟩, hF⟩ := h
  refine ⟨hd, pa, hr, ps, k, u, PS, qs, S, ⟨hL _ h1, hL _ h2, ?_, ?_, h5.keep hL (fun q hq => e q ((hF q).mpr (Or.inr (Or.inr hq)))), h6.mono hN⟩, hF⟩
  · rw [e o ((hF o).mpr (Or.inl rfl))]; exact h3
  · rw [e pa ((hF pa).mpr (Or.inr (Or.inl rfl)))]; exact h4
abbrev jo_eA (cO : ClassId) (g : Nat → Option Nat) : va_E := .inl (cO, 4, .inr (.inr (.inr (.inr g))))
def jX (N : Nat) (ct : Nat → ClassId) (x : Nat) (L : List Nat) (f : Nat → va_E) (As : jq_S) : Prop :=
  ∃ (oa : Nat) (g : Nat → Option Nat) (od : Nat → Nat) (FP : Nat → Nat → Prop), x ∈ L ∧ oa ∈ L ∧ f x = .inr (0, [.ref oa]) ∧ f oa = jo_eA (ct 2) g ∧ (∀ i, i < 4 → g i = some (od i) ∧ jo_Own N ct L f (od i) (As i) (FP i) ∧ ¬ FP i x ∧ ¬ FP i oa) ∧ ∀ i j, i < 4 → j < 4 → i ≠ j → ∀ q, FP i q → ¬ FP j q
theorem jX.mono {N N' : Nat} {ct : Nat → ClassId} {x : Nat} {L : List Nat} {f : Nat → va_E} {As : jq_S} (h : jX N ct x L f As) (hN : N ≤ N') : jX N' ct x L f As := by
  obtain ⟨oa, g, od, FP, h1, h2, h3, h4, h5, h6⟩ := h
  exact ⟨oa, g, od, FP, h1, h2, h3, h4, fun i hi => ⟨(h5 i hi).1, (h5 i hi).2.1.keep hN (fun _ q => q) (fun _ _ => rfl), (h5 i hi).2.2⟩, h6⟩
theorem jX.base {N : Nat} {ct : Nat → ClassId} {x : Nat} {L : List Nat} {f : Nat → va_E} {As : jq_S} (h : jX N ct x L f As) : ∃ (oa : Nat) (g : Nat → Option Nat), x ∈ L ∧ oa ∈ L ∧ f x = .inr (0, [.ref oa]) ∧ f oa = jo_eA (ct 2) g := by
  obtain ⟨oa, g, od, FP, h1, h2, h3, h4, -⟩ := h
  exact ⟨oa, g, h1, h2, h3, h4⟩
theorem jX.opn {N : Nat} {ct : Nat → ClassId} {x : Nat} {L : List Nat} {f : Nat → va_E} {As : jq_S} (h : jX N ct x L f As) {i : Nat} (hi : i < 4) : ∃ (oa : Nat) (g : Nat → Option Nat) (o hd pa hr : Nat) (ps : Int32) (k : jK) (u : jS) (PS qs : List Nat) (S : Nat → Option Nat), x ∈ L ∧ oa ∈ L ∧ f x = .inr (0, [.ref oa]) ∧ f oa = jo_eA (ct 2) g ∧ g i = some o ∧ jo_St N ct L f o hd pa hr ps k u PS qs S (As i) ∧
    ∀ (N' : Nat) (L' : List Nat) (f' : Nat → va_E) (A' : List (Nat × Int64)), N ≤ N' → jo_Ch N' ct L f o hd pa k PS L' f' A' → jX N' ct x L' f' (va_up As i A') := by
  obtain ⟨oa, g, od, FP, h1, h2, h3, h4, h5, h6⟩ := h
  obtain ⟨hgi, ⟨hd, pa, hr, ps, k, u, PS, qs, S, hS, hF⟩, hnx, hna⟩ := h5 i hi
  refine ⟨oa, g, od i, hd, pa, hr, ps, k, u, PS, qs, S, h1, h2, h3, h4, hgi, hS, fun N' L' f' A' hNN hC => ?_⟩
  obtain ⟨hr', ps', k', u', PS', qs', S', hS', hL, hfr, hNN2⟩ := hC
  have hnF : ∀ q, ¬ FP i q → q ≠ od i ∧ q ≠ pa ∧ jo_N k PS q := fun q hq => ⟨fun z => hq ((hF q).mpr (Or.inl z)), fun z => hq ((hF q).mpr (Or.inr (Or.inl z))), Classical.byContradiction (fun z => hq ((hF q).mpr (Or.inr (Or.inr z))))⟩
  have hout : ∀ q ∈ L, ¬ FP i q → f' q = f q := fun q hq hn => hfr q hq (hnF q hn).1 (hnF q hn).2.1 (hnF q hn).2.2
  have hnew : ∀ q, (q = od i ∨ q = pa ∨ ¬ jo_N k' PS' q) → FP i q ∨ q ∉ L := fun q hq => by
    rcases hq with z | z | z
    · exact Or.inl ((hF q).mpr (Or.inl z))
    · exact Or.inl ((hF q).mpr (Or.inr (Or.inl z)))
    · rcases hNN2 q z with w | w
      · exact Or.inl ((hF q).mpr (Or.inr (Or.inr w)))
      · exact Or.inr w
  refine ⟨oa, g, od, va_up FP i (fun q => q = od i ∨ q = pa ∨ ¬ jo_N k' PS' q), hL _ h1, hL _ h2, ?_, ?_, fun j hj => ?_, fun a b ha hb hab q hqa hqb => ?_⟩
  · rw [hout x h1 hnx]; exact h3
  · rw [hout oa h2 hna]; exact h4
  · by_cases q : j = i
    · subst q
      rw [va_up_self, va_up_self]
      refine ⟨hgi, ⟨hd, pa, hr', ps', k', u', PS', qs', S', hS', fun q => Iff.rfl⟩, fun z => ?_, fun z => ?_⟩
      · rcases hnew x z with w | w
        · exact hnx w
        · exact w h1
      · rcases hnew oa z with w | w
        · exact hna w
        · exact w h2
    · rw [va_up_ne _ _ q, va_up_ne _ _ q]
      obtain ⟨g1, g2, g3, g4⟩ := h5 j hj
      exact ⟨g1, g2.keep hNN hL (fun z hz => hout z (g2.inL hz) (h6 j i hj hi q z hz)), g3, g4⟩
  · by_cases qa : a = i
    · subst qa
      rw [va_up_self] at hqa
      rw [va_up_ne _ _ (fun z => hab z.symm)] at hqb
      rcases hnew q hqa with w | w
      · exact h6 a b ha hb hab q w hqb
      · exact w ((h5 b hb).2.1.inL hqb)
    · rw [va_up_ne _ _ qa] at hqa
      by_cases qb : b = i
      · subst qb
        rw [va_up_self] at hqb
        rcases hnew q hqb with w | w
        · exact h6 a b ha hb hab q hqa w
        · exact w ((h5 a ha).2.1.inL hqa)
      · rw [va_up_ne _ _ qb] at hqb
        exact h6 a b ha hb hab q hqa hqb
theorem jo_St.same {N : Nat} {ct : Nat → ClassId} {L : List Nat} {f : Nat → va_E} {o hd pa hr : Nat} {ps : Int32} {k : jK} {u : jS} {PS qs : List Nat} {S : Nat → Option Nat} {A : List (Nat × Int64)} (h : jo_St N ct L f o hd pa hr ps k u PS qs S A) (hr' : Nat) (ps' : Int32) : jo_Ch N ct L f o hd pa k PS L (va_up f o (jo_eO hd pa (nI qs.length) hr' ps')) A := by
  obtain ⟨hoL, hpL, hfo, hfp, hV, hOk⟩ := h
  have hN : jo_N k PS o := hV.nO (by decide) hfo
  have hop : o ≠ pa := jo_ne hfo hfp (fun e => by cases e)
  exact ⟨hr', ps', k, u, PS, qs, S, ⟨hoL, hpL, va_up_self _ _ _, by rw [va_up_ne _ _ hop.symm]; exact hfp, hV.up hN, hOk⟩, fun q h => h, fun q _ h1 _ _ => va_up_ne _ _ h1, fun q h => Or.inl h⟩
theorem sp_set_at {As : jq_S} {i j : Nat} {s : Int64} (hi : i < 4) (hj : j < 1000) : sp_set As (nI i) (nI j) s = ((sq_set (As i) j s).1, va_up As i (sq_set (As i) j s).2) := by
  rw [sp_set, if_pos ⟨(jq_oI hi).1, (jq_mI hj).1⟩, (jq_oI hi).2, (jq_mI hj).2]
theorem sp_rem_at {As : jq_S} {i j : Nat} (hi : i < 4) (hj : j < 1000) : sp_rem As (nI i) (nI j) = ((sq_rem (As i) j).1, va_up As i (sq_rem (As i) j).2) := by
  rw [sp_rem, if_pos ⟨(jq_oI hi).1, (jq_mI hj).1⟩, (jq_oI hi).2, (jq_mI hj).2]
