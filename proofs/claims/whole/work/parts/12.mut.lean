set_option maxHeartbeats 4000000 in
set_option maxRecDepth 100000 in
theorem c_leave (l : Launch) (D : va_G) (ct : Nat → ClassId) {N : Nat} {L : List Nat} {f : Nat → va_E} {o hd pa hr : Nat} {ps : Int32} {k : jK} {u : jS} {PS qs : List Nat} {S : Nat → Option Nat} {As : List (Nat × Int64)} (hSt : jo_St N ct L f o hd pa hr ps k u PS qs S As) (hNb : N < 2 ^ 29) {i a : Nat} (hi : i < 1000) (hSi : S i = some a) (hin : ¬ u.2.1 a = 0) :
    jz_M l D ct yX0_leave cX0_leave 2 none ({ frames := 3, cells := 0, slots := 0, locals := 71 } : Room) [.ref o, .ref a] L f (fun v L' f' => v = none ∧ ∃ As', jz_delR As i As' ∧ jo_Ch N ct L f o hd pa k PS L' f' As') := by
  obtain ⟨hoL, hpL, hfo, hfp, hV, hOk⟩ := hSt
  have hN : jo_N k PS o := hV.nO (by decide) hfo
  have hNp : jo_N k PS pa := hV.nT (by decide) hfp
  have hop : o ≠ pa := jo_ne hfo hfp (fun e => by cases e)
  have hlenN := hOk.len
  have ef0 : va_up f o (jo_eO hd pa (nI qs.length) hr ps) = f := jz_self hfo
  obtain ⟨haP, hah, hka⟩ := hOk.tab i a hi hSi
  have haq : a ∈ qs ∧ u.2.1 a = 1 ∧ k.2.2.1 a ≤ 4 := by
    obtain ⟨m0, g1, g2, g3, g4, g5, g6, g7⟩ := hOk.six a haP hah
    rcases g7 with z | ⟨z1, z2⟩ | ⟨z1, z2⟩
    · exact z.elim
    · exact ⟨z2, z1, g6⟩
    · exact absurd z1 hin
  obtain ⟨haq, hin1, ha4⟩ := haq
  obtain ⟨p1, p2, eqs, hA1, hA2, fin⟩ := hOk.del hi hSi haq
  refine jx_enter (by decide) (Nat.le_of_ble_eq_true rfl) ?_
  intro p e s m below meth c C hw ls hl
  obtain ⟨hx, hb, hrt, hlk, hnm, hml, hown, hts, hG⟩ := C
  have hl : lv_has ls 2 [(0, .ref o), (1, .ref a)] := hl
  refine lv_aload_n hx hb dX0_leave_0 rfl (lv_at hl 0 rfl) ?_
  refine lv_aload_n hx hb dX0_leave_1 rfl (lv_at hl 1 rfl) ?_
  rw [← ef0] at hw
  have hsub : ∀ x ∈ hd :: qs, x ∈ PS := hOk.sub
  refine cl_O_74 (As := [.ref a]) (rest := []) hx hb hml hown hts hG hw (c_takeOut l D ct (f0 := f) (ns := hd :: qs) hV hN hoL (by rw [eqs]) hsub (by simp only [List.length_cons]; omega) hOk.rows hOk.1.2 hOk.h1 hA1 hA2 haP ha4 hOk.2.1) rfl ⟨Nat.le_of_ble_eq_true rfl, Nat.le_of_ble_eq_true rfl⟩ hoL (va_up_self _ _ _) hl.1 rfl (Nat.le_of_ble_eq_true rfl) dX0_leave_2 ⟨Nat.le_of_ble_eq_true rfl, Nat.le_of_ble_eq_true rfl⟩ (fun v L' f' H1 locs1 hp hw hcf => ?_)
  obtain ⟨rfl, eL, f1, u1, hr1, ps1, ef, hV1, eS1, eI1, hfr1, hrow1⟩ := hp
  rw [eL, ef] at hw
  have ecnt : nI qs.length - 1 = nI (p1 ++ p2).length := by rw [eqs, show (p1 ++ a :: p2).length = (p1 ++ p2).length + 1 by simp; omega]; exact nI_pred _
  rw [ecnt] at hw
  have hVo := hV1.up (e := jo_eO hd pa (nI (p1 ++ p2).length) hr1 ps1) hN
  refine lv_aload_n hx hb dX0_leave_5 rfl (lv_at hl 1 rfl) ?_
  refine lv_iconst (v := 0) hx hb dX0_leave_6 (by decide) ?_
  refine pf_O_35 hx hb hown hts hG hw (hVo.aL haP) (hVo.a haP) rfl rfl dX0_leave_7 (fun H locs hw => ?_)
  have epl : jo_eP k (u1.1, va_up u1.2.1 a 0, u1.2.2) a = .inr (2, [.int (k.1 a), .int (k.2.1 a), .int (nI (k.2.2.1 a)), .ref (k.2.2.2.1 a), .ref (k.2.2.2.2 a), .long (u1.1 a), .int 0]) := by simp only [jo_eP, va_up_self]
  have hV2 := hVo.putI haP 0
  rw [epl] at hV2
  obtain ⟨f2, hf2⟩ : ∃ z, z = va_up (va_up f1 o (jo_eO hd pa (nI (p1 ++ p2).length) hr1 ps1)) a (.inr (2, [.int (k.1 a), .int (k.2.1 a), .int (nI (k.2.2.1 a)), .ref (k.2.2.2.1 a), .ref (k.2.2.2.2 a), .long (u1.1 a), .int 0])) := ⟨_, rfl⟩
  have hw : jz_w D (va_A (va_pl L f) s.heap.size) s.heap L f2 H locs := by rw [hf2]; rw [ef0] at hw; exact hw
  rw [← hf2] at hV2
  obtain ⟨As', hdel, hanot, -, hfin⟩ := fin (u1.1, va_up u1.2.1 a 0, u1.2.2) (fun x hx => ⟨by rw [eS1], by show va_up u1.2.1 a 0 x = _; rw [va_up_ne _ _ hx, eI1]⟩) hrow1
  exact jx_vret hx hb hrt hlk (by rw [← ef0] at hw ⊢; exact hw) (Nat.le_refl _) (Nat.le_refl _) dX0_leave_10 ⟨rfl, As', hdel, hr1, ps1, k, (u1.1, va_up u1.2.1 a 0, u1.2.2), PS, p1 ++ p2, S, ⟨hoL, hpL, by rw [hf2, va_up_ne _ _ (hN a haP).1, va_up_self], by rw [hf2, va_up_ne _ _ (hNp a haP).1, va_up_ne _ _ hop.symm, hfr1 pa hNp]; exact hfp, hV2, hfin (va_up_self _ _ _)⟩, fun q h => h, fun q _ h1 h2 h3 => by rw [hf2, va_up_ne _ _ (h3 a haP).1, va_up_ne _ _ h1]; exact hfr1 q h3, fun q h => Or.inl h⟩
