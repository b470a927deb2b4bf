set_option maxHeartbeats 4000000 in
set_option maxRecDepth 100000 in
theorem c_leave (l : Launch) (D : va_G) (ct : Nat → ClassId) {N : Nat} {L : List Nat} {f : Nat → va_E} {o hd pa hr : Nat} {ps : Int32} {k : jK} {u : jS} {PS qs : List Nat} {S : Nat → Option Nat} {As : List (Nat × Int64)} (hSt : jo_St N ct L f o hd pa hr ps k u PS qs S As) (hNb : N < 2 ^ 29) {i a : Nat} (hi : i < 1000) (hSi : S i = some a) (hin : ¬ u.2.1 a = 0) :
    jz_M l D ct yX0_leave cX0_leave 2 none ({ frames := 3, cells := 0, slots := 0, locals := 71 } : Room) [.ref o, .ref a] L f (fun v L' f' => v = none ∧ ∃ As', jz_delR As i As' ∧ jo_Ch N ct L f o hd pa k PS L' f' As') := by
  obtain ⟨hoL, hpL, hfo, hfp, hV, hOk⟩ := hSt
  have hN : jo_N k PS o := hV.nO (by decide) hfo
  have hNp : jo_N k PS pa := hV.nT (by decide) hfp
  have hop : o ≠ pa := jo_ne hfo hfp (fun e => by cases e)
  have hlenN := hOk.len
  have ef0 : va_up f o (jo_eO hd pa (nI qs.length) hr ps) = f := jz_self hfo
  obtain ⟨haP, hah, hka⟩ := hOk.tab i a hi hSi
  have haq : a ∈ qs ∧ u.2.1 a = 1 ∧ k.2.2.1 a ≤ 4 := by
    obtain ⟨m0, g1, g2, g3, g4, g5, g6, g7⟩ := hOk.six a haP hah
    rcases g7 with z | ⟨z1, z2⟩ | ⟨z1, z2⟩
    · exact z.elim
    · exact ⟨z2, z1, g6⟩
    · exact absurd z1 hin
  obtain ⟨haq, hin1, ha4⟩ := haq
  obtain ⟨p1, p2, eqs, hA1, hA2, fin⟩ := hOk.del hi hSi haq
  refine jx_enter (by decide) (Nat.le_of_ble_eq_true rfl) ?_
  intro p e s m below meth c C hw ls hl
  obtain ⟨hx, hb, hrt, hlk, hnm, hml, hown, hts, hG⟩ := C
  have hl : lv_has ls 2 [(0, .ref o), (1, .ref a)] := hl
  refine lv_aload_n hx hb dX0_leave_0 rfl (lv_at hl 0 rfl) ?_
  refine lv_aload_n hx hb dX0_leave_1 rfl (lv_at hl 1 rfl) ?_
  rw [← ef0] at hw
  have hsub : ∀ x ∈ hd :: qs, x ∈ PS := hOk.sub
  refine cl_O_74 (As := [.ref a]) (rest := []) hx hb hml hown hts hG hw (c_takeOut l D ct (f0 := f) (ns := hd :: qs) hV hN hoL (by rw [eqs]) hsub (by simp only [List.length_cons]; omega) hOk.rows hOk.1.2 hOk.h1 hA1 hA2 haP ha4 hOk.2.1) rfl ⟨Nat.le_of_ble_eq_true rfl, Nat.le_of_ble_eq_true rfl⟩ hoL (va_up_self _ _ _) hl.1 rfl (Nat.le_of_ble_eq_true rfl) dX0_leave_2 ⟨Nat.le_of_ble_eq_true rfl, Nat.le_of_ble_eq_true rfl⟩ (fun v L' f' H1 locs1 hp hw hcf => ?_)
  obtain ⟨rfl, eL, f1, u1, hr1, ps1, ef, hV1, eS1, eI1, hfr1, hrow1⟩ := hp
  rw [eL, ef] at hw
  have ecnt : nI qs.length - 1 = nI (p1 ++ p2).length := by rw [eqs, show (p1 ++ a :: p2).length = (p1 ++ p2).length + 1 by simp; omega]; exact nI_pred _
  rw [ecnt] at hw
  have hVo := hV1.up (e := jo_eO hd pa (nI (p1 ++ p2).length) hr1 ps1) hN
  refine lv_aload_n hx hb dX0_leave_5 rfl (lv_at hl 1 rfl) ?_
  refine lv_iconst (v := 0) hx hb dX0_leave_6 (by decide) ?_
  refine pf_O_35 hx hb hown hts hG hw (hVo.aL haP) (hVo.a haP) rfl rfl dX0_leave_7 (fun H locs hw => ?_)
  have epl : jo_eP k (u1.1, va_up u1.2.1 a 0, u1.2.2) a = .inr (2, [.int (k.1 a), .int (k.2.1 a), .int (nI (k.2.2.1 a)), .ref (k.2.2.2.1 a), .ref (k.2.2.2.2 a), .long (u1.1 a), .int 0]) := by simp only [jo_eP, va_up_self]
  have hV2 := hVo.putI haP 0
  rw [epl] at hV2
  obtain ⟨f2, hf2⟩ : ∃ z, z = va_up (va_up f1 o (jo_eO hd pa (nI (p1 ++ p2).length) hr1 ps1)) a (.inr (2, [.int (k.1 a), .int (k.2.1 a), .int (nI (k.2.2.1 a)), .ref (k.2.2.2.1 a), .ref (k.2.2.2.2 a), .long (u1.1 a), .int 0])) := ⟨_, rfl⟩
  have hw : jz_w D (va_A (va_pl L f) s.heap.size) s.heap L f2 H locs := by rw [hf2]; rw [ef0] at hw; exact hw
  rw [← hf2] at hV2
  obtain ⟨As', hdel, hanot, -, hfin⟩ := fin (u1.1, va_up u1.2.1 a 0, u1.2.2) (fun x hx => ⟨by rw [eS1], by show va_up u1.2.1 a 0 x = _; rw [va_up_ne _ _ hx, eI1]⟩) hrow1
  exact jx_vret hx hb hrt hlk (by rw [← ef0] at hw ⊢; exact hw) (Nat.le_refl _) (Nat.le_refl _) dX0_leave_10 ⟨rfl, As', hdel, hr1, ps1, k, (u1.1, va_up u1.2.1 a 0, u1.2.2), PS, p1 ++ p2, S, ⟨hoL, hpL, by rw [hf2, va_up_ne _ _ (hN a haP).1, va_up_self], by rw [hf2, va_up_ne _ _ (hNp a haP).1, va_up_ne _ _ hop.symm, hfr1 pa hNp]; exact hfp, hV2, hfin (va_up_self _ _ _)⟩, fun q h => h, fun q _ h1 h2 h3 => by rw [hf2, va_up_ne _ _ (h3 a haP).1, va_up_ne _ _ h1]; exact hfr1 q h3, fun q h => Or.inl h⟩
set_option maxHeartbeats 4000000 in
set_option maxRecDepth 100000 in
theorem c_move (l : Launch) (D : va_G) (ct : Nat → ClassId) {N : Nat} {L : List Nat} {f : Nat → va_E} {o hd pa hr : Nat} {ps : Int32} {k : jK} {u : jS} {PS qs : List Nat} {S : Nat → Option Nat} {As : List (Nat × Int64)} (hSt : jo_St N ct L f o hd pa hr ps k u PS qs S As) (hNb : N < 2 ^ 29) {i a : Nat} {sc : Int64} (hi : i < 1000) (hSi : S i = some a) (hin : ¬ u.2.1 a = 0) :
    jz_M l D ct yX0_move cX0_move 4 none ({ frames := 3, cells := 0, slots := 0, locals := 71 } : Room) [.ref o, .ref a, .long sc] L f (fun v L' f' => v = none ∧ ∃ A1 As', jz_delR As i A1 ∧ jz_insR A1 i sc As' ∧ jo_Ch (N + 1) ct L f o hd pa k PS L' f' As') := by
  obtain ⟨hoL, hpL, hfo, hfp, hV, hOk⟩ := hSt
  have hN : jo_N k PS o := hV.nO (by decide) hfo
  have hNp : jo_N k PS pa := hV.nT (by decide) hfp
  have hop : o ≠ pa := jo_ne hfo hfp (fun e => by cases e)
  have hlenN := hOk.len
  have ef0 : va_up f o (jo_eO hd pa (nI qs.length) hr ps) = f := jz_self hfo
  obtain ⟨haP, hah, hka⟩ := hOk.tab i a hi hSi
  have haq : a ∈ qs ∧ u.2.1 a = 1 ∧ k.2.2.1 a ≤ 4 := by
    obtain ⟨m0, g1, g2, g3, g4, g5, g6, g7⟩ := hOk.six a haP hah
    rcases g7 with z | ⟨z1, z2⟩ | ⟨z1, z2⟩
    · exact z.elim
    · exact ⟨z2, z1, g6⟩
    · exact absurd z1 hin
  obtain ⟨haq, hin1, ha4⟩ := haq
  obtain ⟨p1, p2, eqs, hA1, hA2, fin⟩ := hOk.del hi hSi haq
  refine jx_enter (by decide) (Nat.le_of_ble_eq_true rfl) ?_
  intro p e s m below meth c C hw ls hl
  obtain ⟨hx, hb, hrt, hlk, hnm, hml, hown, hts, hG⟩ := C
  have hl : lv_has ls 4 [(0, .ref o), (1, .ref a), (2, .long sc)] := hl
  refine lv_aload_n hx hb dX0_move_0 rfl (lv_at hl 0 rfl) ?_
  refine lv_aload_n hx hb dX0_move_1 rfl (lv_at hl 1 rfl) ?_
  rw [← ef0] at hw
  have hsub : ∀ x ∈ hd :: qs, x ∈ PS := hOk.sub
  refine cl_O_74 (As := [.ref a]) (rest := []) hx hb hml hown hts hG hw (c_takeOut l D ct (f0 := f) (ns := hd :: qs) hV hN hoL (by rw [eqs]) hsub (by simp only [List.length_cons]; omega) hOk.rows hOk.1.2 hOk.h1 hA1 hA2 haP ha4 hOk.2.1) rfl ⟨Nat.le_of_ble_eq_true rfl, Nat.le_of_ble_eq_true rfl⟩ hoL (va_up_self _ _ _) hl.1 rfl (Nat.le_of_ble_eq_true rfl) dX0_move_2 ⟨Nat.le_of_ble_eq_true rfl, Nat.le_of_ble_eq_true rfl⟩ (fun v L' f' H1 locs1 hp hw hcf => ?_)
  obtain ⟨rfl, eL, f1, u1, hr1, ps1, ef, hV1, eS1, eI1, hfr1, hrow1⟩ := hp
  rw [eL, ef] at hw
  have ecnt : nI qs.length - 1 = nI (p1 ++ p2).length := by rw [eqs, show (p1 ++ a :: p2).length = (p1 ++ p2).length + 1 by simp; omega]; exact nI_pred _
  rw [ecnt] at hw
  have hVo := hV1.up (e := jo_eO hd pa (nI (p1 ++ p2).length) hr1 ps1) hN
  refine lv_aload_n hx hb dX0_move_5 rfl (lv_at hl 1 rfl) ?_
  refine lv_lload_n hx hb dX0_move_6 rfl (lv_at hl 2 rfl) ?_
  refine pf_O_67 hx hb hown hts hG hw (hVo.aL haP) (hVo.a haP) dX0_move_7 (fun H locs hw => ?_)
  have epl : jo_eP k (va_up u1.1 a sc, u1.2) a = .inr (2, [.int (k.1 a), .int (k.2.1 a), .int (nI (k.2.2.1 a)), .ref (k.2.2.2.1 a), .ref (k.2.2.2.2 a), .long sc, .int (u1.2.1 a)]) := by simp only [jo_eP, va_up_self]
  have hV2 := hVo.putS haP sc
  rw [epl] at hV2
  obtain ⟨f2, hf2⟩ : ∃ z, z = va_up (va_up f1 o (jo_eO hd pa (nI (p1 ++ p2).length) hr1 ps1)) a (.inr (2, [.int (k.1 a), .int (k.2.1 a), .int (nI (k.2.2.1 a)), .ref (k.2.2.2.1 a), .ref (k.2.2.2.2 a), .long sc, .int (u1.2.1 a)])) := ⟨_, rfl⟩
  have hw : jz_w D (va_A (va_pl L f) s.heap.size) s.heap L f2 H locs := by rw [hf2]; rw [ef0] at hw; exact hw
  rw [← hf2] at hV2
  have hfo2 : f2 o = jo_eO hd pa (nI (p1 ++ p2).length) hr1 ps1 := by rw [hf2, va_up_ne _ _ (hN a haP).1, va_up_self]
  have hfp2 : f2 pa = jo_eT (ct 1) S := by rw [hf2, va_up_ne _ _ (hNp a haP).1, va_up_ne _ _ hop.symm, hfr1 pa hNp]; exact hfp
  have hfr2 : ∀ q, q ≠ o → jo_N k PS q → f2 q = f q := fun q h1 h3 => by rw [hf2, va_up_ne _ _ (h3 a haP).1, va_up_ne _ _ h1]; exact hfr1 q h3
  obtain ⟨A1, hdel, hanot, hO2, -⟩ := fin (va_up u1.1 a sc, u1.2) (fun x hx => ⟨by show va_up u1.1 a sc x = _; rw [va_up_ne _ _ hx, eS1], by show u1.2.1 x = _; rw [eI1]⟩) hrow1
  obtain ⟨r1, r2, eq2, hB1, hB2, fin2⟩ := hO2.ins (sc := sc) hi hSi hanot (va_up_self _ _ _) (by show u1.2.1 a = 1; rw [eI1]; exact hin1)
  have ef2 : va_up f2 o (jo_eO hd pa (nI (p1 ++ p2).length) hr1 ps1) = f2 := jz_self hfo2
  rw [← ef2] at hw
  have hlen2 := hO2.len
  refine lv_aload_n hx hb dX0_move_10 rfl (lv_at hl 0 rfl) ?_
  refine lv_aload_n hx hb dX0_move_11 rfl (lv_at hl 1 rfl) ?_
  refine cl_O_71 (As := [.ref a]) (rest := []) hx hb hml hown hts hG hw (c_putIn l D ct (f0 := f2) (ns := hd :: (p1 ++ p2)) hV2 hN hoL (by rw [eq2]) hO2.sub (by simp only [List.length_cons]; omega) hO2.rows hO2.1.2 hO2.h1 hB1 hB2 haP ha4 (fun z => by rcases List.mem_cons.mp z with z | z; exact hah z; exact hanot z) hO2.2.1) rfl ⟨Nat.le_of_ble_eq_true rfl, Nat.le_of_ble_eq_true rfl⟩ hoL (va_up_self _ _ _) hl.1 rfl (Nat.le_of_ble_eq_true rfl) dX0_move_12 ⟨Nat.le_of_ble_eq_true rfl, Nat.le_of_ble_eq_true rfl⟩ (fun v L' f' H1 locs1 hp hw hcf => ?_)
  obtain ⟨rfl, eL3, f3, u3, hr3, ps3, ef3, hV3, eS3, eI3, hfr3, hrow3⟩ := hp
  rw [eL3, ef3] at hw
  obtain ⟨As', hins, hO3⟩ := fin2 u3 eS3 eI3 hrow3
  have ecnt3 : nI (p1 ++ p2).length + 1 = nI (r1 ++ a :: r2).length := by rw [eq2, nI_1]; congr 1; simp; omega
  exact jx_vret hx hb hrt hlk hw (Nat.le_refl _) (Nat.le_refl _) dX0_move_15 ⟨rfl, A1, As', hdel, hins, hr3, ps3, k, u3, PS, r1 ++ a :: r2, S, ⟨hoL, hpL, by rw [ecnt3, va_up_self], by rw [va_up_ne _ _ hop.symm, hfr3 pa hNp]; exact hfp2, hV3.up hN, hO3⟩, fun q h => h, fun q _ h1 h2 h3 => by rw [va_up_ne _ _ h1, hfr3 q h3]; exact hfr2 q h1 h3, fun q h => Or.inl h⟩
set_option maxHeartbeats 4000000 in
set_option maxRecDepth 100000 in
theorem c_enter (l : Launch) (D : va_G) (ct : Nat → ClassId) {N : Nat} {L : List Nat} {f : Nat → va_E} {o hd pa hr : Nat} {ps : Int32} {k : jK} {u : jS} {PS qs : List Nat} {S : Nat → Option Nat} {As : List (Nat × Int64)} (hSt : jo_St N ct L f o hd pa hr ps k u PS qs S As) (hNb : N < 2 ^ 29) {i : Nat} {sc : Int64} (hi : i < 1000) (habs : ∀ a, S i = some a → u.2.1 a = 0) :
    jz_M l D ct yX0_enter cX0_enter 5 none ({ frames := 3, cells := 3, slots := 15, locals := 71 } : Room) [.ref o, .int (nI i), .long sc] L f (fun v L' f' => v = none ∧ ∃ As', jz_insR As i sc As' ∧ jo_Ch (N + 1) ct L f o hd pa k PS L' f' As') := by
  obtain ⟨hoL, hpL, hfo, hfp, hV, hOk⟩ := hSt
  have hN : jo_N k PS o := hV.nO (by decide) hfo
  have hNp : jo_N k PS pa := hV.nT (by decide) hfp
  have hop : o ≠ pa := jo_ne hfo hfp (fun e => by cases e)
  have hlenN := hOk.len
  have ef0 : va_up f o (jo_eO hd pa (nI qs.length) hr ps) = f := jz_self hfo
  refine jx_enter (by decide) (Nat.le_of_ble_eq_true rfl) ?_
  intro p e s m below meth c C hw ls hl
  obtain ⟨hx, hb, hrt, hlk, hnm, hml, hown, hts, hG⟩ := C
  have hl : lv_has ls 5 [(0, .ref o), (1, .int (nI i)), (2, .long sc)] := hl
  refine lv_iload_n hx hb dX0_enter_0 rfl (lv_at hl 1 rfl) ?_
  refine cl_O_31 (As := [.int (nI i)]) (rest := []) hx hb hml hown hts hG hw (c_isMember l D ct L f (nI i)) rfl ⟨Nat.le_of_ble_eq_true rfl, Nat.le_of_ble_eq_true rfl⟩ hl.1 rfl (Nat.le_of_ble_eq_true rfl) dX0_enter_1 ⟨Nat.le_of_ble_eq_true rfl, Nat.le_of_ble_eq_true rfl⟩ (fun v L' f' H1 locs1 hp hw hcf => ?_)
  obtain ⟨hv, eL, ef⟩ := hp
  rw [eL, ef] at hw
  have hv : v = some (.int 1) := hv.elim (fun q => q.2) (fun q => absurd ⟨nI_pos' (by omega), nI_lt hi (by decide)⟩ q.1)
  subst hv
  refine lv_if_ne (tgt := 8) hx hb dX0_enter_4 (by decide) (fun _ => ?_) (fun h => absurd h (by decide))
  refine lv_aload_n hx hb dX0_enter_8 rfl (lv_at hl 0 rfl) ?_
  refine gf_O_20 hx hb hown hts hG hw hoL hfo dX0_enter_9 ?_
  refine lv_iload_n hx hb dX0_enter_12 rfl (lv_at hl 1 rfl) ?_
  refine jx_aldqI hx hb hG hw hpL 1 hfp rfl hi (by decide) dX0_enter_13 ?_
  refine jx_astoreq (lv' := [(4, (va_rf (S i))), (0, .ref o), (1, .int (nI i)), (2, .long sc)]) hx hb dX0_enter_14 hl (by decide) rfl (fun ls hl => ?_)
  refine jx_aloadq hx hb dX0_enter_16 (lv_at hl 0 rfl) ?_
  refine jx_ifnonnullq (tgt := 43) hx hb dX0_enter_18 (by decide) (fun hnone => ?_) (fun a hSi => ?_)
  · refine jx_new (own := RX0) (C := RX1) (T := TX1) (N := 7) (ci := 2) (fs := [.int 0, .int 0, .int 0, .null, .null, .long 0, .int 0]) hx hb hts jz_inP tyX1 tyX1_ok hown (by decide +kernel) (by decide +kernel) (by decide +kernel) hG hw rfl (fun j hj => by rcases (show j = 0 ∨ j = 1 ∨ j = 2 ∨ j = 3 ∨ j = 4 ∨ j = 5 ∨ j = 6 by omega) with rfl | rfl | rfl | rfl | rfl | rfl | rfl <;> rfl) (Nat.le_of_ble_eq_true rfl) (Nat.le_of_ble_eq_true rfl) dX0_enter_21 (fun a H haL hw => ?_)
    have haPS : a ∉ PS := fun z => haL (hV.aL z)
    refine lv_dup hx hb dX0_enter_24 rfl ?_
    refine lv_iload_n hx hb dX0_enter_25 rfl (lv_at hl 2 rfl) ?_
    refine lv_iload_n hx hb dX0_enter_26 rfl (lv_at hl 2 rfl) ?_
    refine cl_O_63 (As := [.int (nI i)]) (rest := [.int (nI i), .ref a, .ref a]) hx hb hml hown hts hG hw (c_heightOf l D ct _ _ (nI i)) rfl ⟨Nat.le_of_ble_eq_true rfl, Nat.le_of_ble_eq_true rfl⟩ hl.1 rfl (Nat.le_of_ble_eq_true rfl) dX0_enter_27 ⟨Nat.le_of_ble_eq_true rfl, Nat.le_of_ble_eq_true rfl⟩ (fun v L' f' H1 locs1 hp hw hcf => ?_)
    obtain ⟨⟨h, hh1, hh4, rfl⟩, eL, ef⟩ := hp
    rw [eL, ef] at hw
    refine cl_O_11 (As := [.int (nI i), .int (nI h)]) (rest := [.ref a]) hx hb hml hown hts hG hw (c_placeInit l D ct (List.mem_append_right _ (List.mem_singleton.mpr rfl)) (va_up_self _ _ _)) rfl ⟨Nat.le_of_ble_eq_true rfl, Nat.le_of_ble_eq_true rfl⟩ hl.1 rfl (Nat.le_of_ble_eq_true rfl) dX0_enter_30 ⟨Nat.le_of_ble_eq_true rfl, Nat.le_of_ble_eq_true rfl⟩ (fun v L' f' H1 locs1 hp hw hcf => ?_)
    obtain ⟨rfl, n, r, hnL, hrL, hnr, eL, ea, en, er, eo⟩ := hp
    rw [eL] at hw
    have hLL : ∀ q ∈ L, q ∈ (L ++ [a] ++ [n]) ++ [r] := fun q h => List.mem_append_left _ (List.mem_append_left _ (List.mem_append_left _ h))
    have hneL : ∀ q ∈ L, q ≠ a := fun q hq z => haL (z ▸ hq)
    have hneN : ∀ q ∈ L, q ≠ n := fun q hq z => hnL (z ▸ List.mem_append_left _ hq)
    have hneR : ∀ q ∈ L, q ≠ r := fun q hq z => hrL (z ▸ List.mem_append_left _ hq)
    have hfo1 : f' o = jo_eO hd pa (nI qs.length) hr ps := by rw [eo o (hneL o hoL) (hneN o hoL) (hneR o hoL), va_up_ne _ _ (hneL o hoL)]; exact hfo
    have hfp1 : f' pa = jo_eT (ct 1) S := by rw [eo pa (hneL pa hpL) (hneN pa hpL) (hneR pa hpL), va_up_ne _ _ (hneL pa hpL)]; exact hfp
    refine lv_astore (lv' := [(4, .ref a), (0, .ref o), (1, .int (nI i)), (2, .long sc)]) hx hb dX0_enter_33 hl (by decide) (by rw [hnone]; rfl) (fun ls hl => ?_)
    refine lv_aload_n hx hb dX0_enter_35 rfl (lv_at hl 1 rfl) ?_
    refine gf_O_20 hx hb hown hts hG hw (hLL _ hoL) hfo1 dX0_enter_36 ?_
    refine lv_iload_n hx hb dX0_enter_39 rfl (lv_at hl 2 rfl) ?_
    refine lv_aload hx hb dX0_enter_40 (lv_at hl 0 rfl) ?_
    refine jx_astqI (v := some a) hx hb hG hw (hLL _ hpL) 1 2 hfp1 rfl (fun x hx0 => ?_) rfl hi (by decide) dX0_enter_42 (fun H locs hw => ?_)
    · cases hx0
      exact ⟨List.mem_append_left _ (List.mem_append_left _ (List.mem_append_right _ (List.mem_singleton.mpr rfl))), _, ea⟩
    obtain ⟨g1, hg1⟩ : ∃ z, z = va_up f' pa (jo_eT (ct 1) (va_up S i (some a))) := ⟨_, rfl⟩
    have hw : jz_w D (va_A (va_pl L f) s.heap.size) s.heap ((L ++ [a] ++ [n]) ++ [r]) g1 H locs := by rw [hg1]; exact hw
    have hapa : a ≠ pa := fun z => haL (z ▸ hpL)
    have hnpa : n ≠ pa := fun z => hnL (z ▸ List.mem_append_left _ hpL)
    have hrpa : r ≠ pa := fun z => hrL (z ▸ List.mem_append_left _ hpL)
    have hgq : ∀ q ∈ L, q ≠ pa → g1 q = f q := fun q hq h => by rw [hg1, va_up_ne _ _ h, eo q (hneL q hq) (hneN q hq) (hneR q hq), va_up_ne _ _ (hneL q hq)]
    have hNL : ∀ q, ¬ jo_N k PS q → q ∈ L := fun q hq => Classical.byContradiction (fun z => hq (fun b hb => ⟨fun w => z (w ▸ hV.aL hb), fun w => z (w ▸ hV.nL hb), fun w => z (w ▸ hV.fL hb)⟩))
    have hVg := hV.grow (f' := g1) (mv := nI i) (wv := jz_word (nI i)) (h := h) (s0 := 0) (i0 := 0) (g0 := fun _ => none) (h0 := fun _ => 0) haL (fun z => hnL (List.mem_append_left _ z)) (fun z => hrL (List.mem_append_left _ z)) hLL (List.mem_append_left _ (List.mem_append_left _ (List.mem_append_right _ (List.mem_singleton.mpr rfl)))) (List.mem_append_left _ (List.mem_append_right _ (List.mem_singleton.mpr rfl))) (List.mem_append_right _ (List.mem_singleton.mpr rfl)) (fun q hq hn => hgq q hq (fun z => hn (z ▸ hNp))) (by rw [hg1, va_up_ne _ _ hapa]; exact ea) (by rw [hg1, va_up_ne _ _ hnpa]; exact en) (by rw [hg1, va_up_ne _ _ hrpa]; exact er)
    have hOg := hOk.grow (a := a) (n := n) (r := r) (h := h) (s0 := 0) (g0 := fun _ => none) (h0 := fun _ => 0) haPS hi hnone hh1 hh4
    have hneq : ∀ b ∈ PS, b ≠ a := fun b hb z => haPS (z ▸ hb)
    have hgo : g1 o = jo_eO hd pa (nI qs.length) hr ps := by rw [hgq o hoL hop]; exact hfo
    have hgp : g1 pa = jo_eT (ct 1) (va_up S i (some a)) := by rw [hg1, va_up_self]
    have hfrL : ∀ q ∈ L, q ≠ o → q ≠ pa → jo_N k PS q → g1 q = f q := fun q hq _ h2 _ => hgq q hq h2
    have hNN : ∀ q, ¬ jo_N (jo_kG k a (nI i) (jz_word (nI i)) h n r) (PS ++ [a]) q → ¬ jo_N k PS q ∨ q ∉ L := fun q hq => by
      rcases jo_N.grow hneq hq with z | z | z | z
      · exact Or.inl z
      · exact Or.inr (z ▸ haL)
      · exact Or.inr (fun w => hnL (z ▸ List.mem_append_left _ w))
      · exact Or.inr (fun w => hrL (z ▸ List.mem_append_left _ w))
    have hNmono : ∀ q ∈ L, jo_N k PS q → jo_N (jo_kG k a (nI i) (jz_word (nI i)) h n r) (PS ++ [a]) q := fun q hq h1 => Classical.byContradiction (fun h2 => by
      rcases hNN q h2 with z | z
      · exact z h1
      · exact z hq)
    generalize hkg : jo_kG k a (nI i) (jz_word (nI i)) h n r = kg at hVg hOg hNN hNmono
    generalize hug : jo_uG u a 0 0 (fun _ => none) (fun _ => 0) = ug at hVg hOg
    generalize hLg : (L ++ [a] ++ [n]) ++ [r] = Lg at hw hVg hLL
    generalize hPg : PS ++ [a] = PSg at hVg hOg hNN hNmono
    generalize hSg : va_up S i (some a) = Sg at hgp hOg
    have hSi : Sg i = some a := by rw [← hSg, va_up_self]
    have hin0 : ug.2.1 a = 0 := by rw [← hug]; exact va_up_self _ _ _
    have hN' : jo_N kg PSg o := hVg.nO (by decide) hgo
    have hNp' : jo_N kg PSg pa := hVg.nT (by decide) hgp
    obtain ⟨haP, hah, hka⟩ := hOg.tab i a hi hSi
    have haq : a ∉ qs ∧ kg.2.2.1 a ≤ 4 := by
      obtain ⟨m0, g1, g2, g3, g4, g5, g6, g7⟩ := hOg.six a haP hah
      rcases g7 with z | ⟨z1, z2⟩ | ⟨z1, z2⟩
      · exact z.elim
      · rw [hin0] at z1; exact absurd z1 (by decide)
      · exact ⟨z2, g6⟩
    obtain ⟨hanot, ha4⟩ := haq
    refine lv_aload hx hb dX0_enter_43 (lv_at hl 0 rfl) ?_
    refine lv_lload_n hx hb dX0_enter_45 rfl (lv_at hl 3 rfl) ?_
    refine pf_O_67 hx hb hown hts hG hw (hVg.aL haP) (hVg.a haP) dX0_enter_46 (fun H locs hw => ?_)
    have epl : jo_eP kg (va_up ug.1 a sc, ug.2) a = .inr (2, [.int (kg.1 a), .int (kg.2.1 a), .int (nI (kg.2.2.1 a)), .ref (kg.2.2.2.1 a), .ref (kg.2.2.2.2 a), .long sc, .int (ug.2.1 a)]) := by simp only [jo_eP, va_up_self]
    have hVs := hVg.putS haP sc
    rw [epl] at hVs
    refine lv_aload hx hb dX0_enter_49 (lv_at hl 0 rfl) ?_
    refine lv_iconst (v := 1) hx hb dX0_enter_51 (by decide) ?_
    refine pf_O_35 hx hb hown hts hG hw (hVs.aL haP) (va_up_self _ _ _) rfl rfl dX0_enter_52 (fun H locs hw => ?_)
    have epl2 : jo_eP kg (va_up ug.1 a sc, va_up ug.2.1 a 1, ug.2.2) a = .inr (2, [.int (kg.1 a), .int (kg.2.1 a), .int (nI (kg.2.2.1 a)), .ref (kg.2.2.2.1 a), .ref (kg.2.2.2.2 a), .long sc, .int 1]) := by simp only [jo_eP, va_up_self]
    have hV2 := hVs.putI haP 1
    have hV2 : jo_V (ct 0) (ct 1) Lg (va_up (va_up g1 a (.inr (2, [.int (kg.1 a), .int (kg.2.1 a), .int (nI (kg.2.2.1 a)), .ref (kg.2.2.2.1 a), .ref (kg.2.2.2.2 a), .long sc, .int (ug.2.1 a)]))) a (.inr (2, [.int (kg.1 a), .int (kg.2.1 a), .int (nI (kg.2.2.1 a)), .ref (kg.2.2.2.1 a), .ref (kg.2.2.2.2 a), .long sc, .int 1]))) kg (va_up ug.1 a sc, va_up ug.2.1 a 1, ug.2.2) PSg := by rw [← epl2]; exact hV2
    rw [bx_uu] at hw hV2
    obtain ⟨f2, hf2⟩ : ∃ z, z = va_up g1 a (.inr (2, [.int (kg.1 a), .int (kg.2.1 a), .int (nI (kg.2.2.1 a)), .ref (kg.2.2.2.1 a), .ref (kg.2.2.2.2 a), .long sc, .int 1])) := ⟨_, rfl⟩
    rw [← hf2] at hw hV2
    have hfo2 : f2 o = jo_eO hd pa (nI qs.length) hr ps := by rw [hf2, va_up_ne _ _ (hN' a haP).1]; exact hgo
    have hfp2 : f2 pa = jo_eT (ct 1) Sg := by rw [hf2, va_up_ne _ _ (hNp' a haP).1]; exact hgp
    have hO2 : jo_Ok (fun x => x = a) N kg (va_up ug.1 a sc, va_up ug.2.1 a 1, ug.2.2) PSg hd qs Sg As := by
      have hqa : ∀ x ∈ qs, x ≠ a := fun x hx z => hanot (z ▸ hx)
      refine ⟨hOg.1, hOg.2.1, hOg.2.2.1, hOg.rows, hOg.len, fun x hx hxn => ?_, hOg.tab, ?_, hOg.sorted⟩
      · obtain ⟨m0, g1, g2, g3, g4, g5, g6, g7⟩ := hOg.six x hx hxn
        refine ⟨m0, g1, g2, g3, g4, g5, g6, ?_⟩
        by_cases z : x = a
        · exact Or.inl z
        · refine Or.inr ?_
          show va_up ug.2.1 a 1 x = 1 ∧ x ∈ qs ∨ va_up ug.2.1 a 1 x = 0 ∧ x ∉ qs
          rw [va_up_ne _ _ z]
          exact g7.elim (fun w => w.elim) id
      · rw [hOg.eqA]
        refine List.map_congr_left (fun x hx => ?_)
        show _ = ((kg.1 x).toNatClampNeg, va_up ug.1 a sc x)
        rw [va_up_ne _ _ (hqa x hx)]
    obtain ⟨r1, r2, eq2, hB1, hB2, fin2⟩ := hO2.ins (sc := sc) hi hSi hanot (va_up_self _ _ _) (va_up_self _ _ _)
    have ef2 : va_up f2 o (jo_eO hd pa (nI qs.length) hr ps) = f2 := jz_self hfo2
    rw [← ef2] at hw
    have hlen2 := hO2.len
    refine lv_aload_n hx hb dX0_enter_55 rfl (lv_at hl 1 rfl) ?_
    refine lv_aload hx hb dX0_enter_56 (lv_at hl 0 rfl) ?_
    refine cl_O_71 (As := [.ref a]) (rest := []) hx hb hml hown hts hG hw (c_putIn l D ct (f0 := f2) (ns := hd :: qs) hV2 hN' (hLL _ hoL) (by rw [eq2]) hO2.sub (by simp only [List.length_cons]; omega) hO2.rows hO2.1.2 hO2.h1 hB1 hB2 haP ha4 (fun z => by rcases List.mem_cons.mp z with z | z; exact hah z; exact hanot z) hO2.2.1) rfl ⟨Nat.le_of_ble_eq_true rfl, Nat.le_of_ble_eq_true rfl⟩ (hLL _ hoL) (va_up_self _ _ _) hl.1 rfl (Nat.le_of_ble_eq_true rfl) dX0_enter_58 ⟨Nat.le_of_ble_eq_true rfl, Nat.le_of_ble_eq_true rfl⟩ (fun v L' f' H1 locs1 hp hw hcf => ?_)
    obtain ⟨rfl, eL3, f3, u3, hr3, ps3, ef3, hV3, eS3, eI3, hfr3, hrow3⟩ := hp
    rw [eL3, ef3] at hw
    obtain ⟨As', hins, hO3⟩ := fin2 u3 eS3 eI3 hrow3
    have ecnt3 : nI qs.length + 1 = nI (r1 ++ a :: r2).length := by rw [eq2, nI_1]; congr 1; simp; omega
    have hfrL : ∀ q ∈ L, q ≠ o → q ≠ pa → jo_N k PS q → g1 q = f q := hfrL
    have hNm : ∀ q ∈ L, jo_N k PS q → jo_N kg PSg q := hNmono
    exact jx_vret hx hb hrt hlk hw (Nat.le_of_ble_eq_true rfl) (Nat.le_of_ble_eq_true rfl) dX0_enter_61 ⟨rfl, As', hins, hr3, ps3, kg, u3, PSg, r1 ++ a :: r2, Sg, ⟨(hLL _ hoL), (hLL _ hpL), by rw [ecnt3, va_up_self], by rw [va_up_ne _ _ hop.symm, hfr3 pa hNp']; exact hfp2, hV3.up hN', hO3⟩, hLL, fun q hq h1 h2 h3 => (by have hz := hfrL q hq h1 h2 h3; rw [va_up_ne _ _ h1, hfr3 q (hNm q hq h3), hf2, va_up_ne _ _ ((hNm q hq h3) a haP).1]; try exact hz), hNN⟩
  · have hl : lv_has ls 5 [(4, .ref a), (0, .ref o), (1, .int (nI i)), (2, .long sc)] := by rw [hSi] at hl; exact hl
    have hin0 := habs a hSi
    have hN' : jo_N k PS o := hV.nO (by decide) hfo
    have hNp' : jo_N k PS pa := hV.nT (by decide) hfp
    obtain ⟨haP, hah, hka⟩ := hOk.tab i a hi hSi
    have haq : a ∉ qs ∧ k.2.2.1 a ≤ 4 := by
      obtain ⟨m0, g1, g2, g3, g4, g5, g6, g7⟩ := hOk.six a haP hah
      rcases g7 with z | ⟨z1, z2⟩ | ⟨z1, z2⟩
      · exact z.elim
      · rw [hin0] at z1; exact absurd z1 (by decide)
      · exact ⟨z2, g6⟩
    obtain ⟨hanot, ha4⟩ := haq
    refine lv_aload hx hb dX0_enter_43 (lv_at hl 0 rfl) ?_
    refine lv_lload_n hx hb dX0_enter_45 rfl (lv_at hl 3 rfl) ?_
    refine pf_O_67 hx hb hown hts hG hw (hV.aL haP) (hV.a haP) dX0_enter_46 (fun H locs hw => ?_)
    have epl : jo_eP k (va_up u.1 a sc, u.2) a = .inr (2, [.int (k.1 a), .int (k.2.1 a), .int (nI (k.2.2.1 a)), .ref (k.2.2.2.1 a), .ref (k.2.2.2.2 a), .long sc, .int (u.2.1 a)]) := by simp only [jo_eP, va_up_self]
    have hVs := hV.putS haP sc
    rw [epl] at hVs
    refine lv_aload hx hb dX0_enter_49 (lv_at hl 0 rfl) ?_
    refine lv_iconst (v := 1) hx hb dX0_enter_51 (by decide) ?_
    refine pf_O_35 hx hb hown hts hG hw (hVs.aL haP) (va_up_self _ _ _) rfl rfl dX0_enter_52 (fun H locs hw => ?_)
    have epl2 : jo_eP k (va_up u.1 a sc, va_up u.2.1 a 1, u.2.2) a = .inr (2, [.int (k.1 a), .int (k.2.1 a), .int (nI (k.2.2.1 a)), .ref (k.2.2.2.1 a), .ref (k.2.2.2.2 a), .long sc, .int 1]) := by simp only [jo_eP, va_up_self]
    have hV2 := hVs.putI haP 1
    have hV2 : jo_V (ct 0) (ct 1) L (va_up (va_up f a (.inr (2, [.int (k.1 a), .int (k.2.1 a), .int (nI (k.2.2.1 a)), .ref (k.2.2.2.1 a), .ref (k.2.2.2.2 a), .long sc, .int (u.2.1 a)]))) a (.inr (2, [.int (k.1 a), .int (k.2.1 a), .int (nI (k.2.2.1 a)), .ref (k.2.2.2.1 a), .ref (k.2.2.2.2 a), .long sc, .int 1]))) k (va_up u.1 a sc, va_up u.2.1 a 1, u.2.2) PS := by rw [← epl2]; exact hV2
    rw [bx_uu] at hw hV2
    obtain ⟨f2, hf2⟩ : ∃ z, z = va_up f a (.inr (2, [.int (k.1 a), .int (k.2.1 a), .int (nI (k.2.2.1 a)), .ref (k.2.2.2.1 a), .ref (k.2.2.2.2 a), .long sc, .int 1])) := ⟨_, rfl⟩
    rw [← hf2] at hw hV2
    have hfo2 : f2 o = jo_eO hd pa (nI qs.length) hr ps := by rw [hf2, va_up_ne _ _ (hN' a haP).1]; exact hfo
    have hfp2 : f2 pa = jo_eT (ct 1) S := by rw [hf2, va_up_ne _ _ (hNp' a haP).1]; exact hfp
    have hO2 : jo_Ok (fun x => x = a) N k (va_up u.1 a sc, va_up u.2.1 a 1, u.2.2) PS hd qs S As := by
      have hqa : ∀ x ∈ qs, x ≠ a := fun x hx z => hanot (z ▸ hx)
      refine ⟨hOk.1, hOk.2.1, hOk.2.2.1, hOk.rows, hOk.len, fun x hx hxn => ?_, hOk.tab, ?_, hOk.sorted⟩
      · obtain ⟨m0, g1, g2, g3, g4, g5, g6, g7⟩ := hOk.six x hx hxn
        refine ⟨m0, g1, g2, g3, g4, g5, g6, ?_⟩
        by_cases z : x = a
        · exact Or.inl z
        · refine Or.inr ?_
          show va_up u.2.1 a 1 x = 1 ∧ x ∈ qs ∨ va_up u.2.1 a 1 x = 0 ∧ x ∉ qs
          rw [va_up_ne _ _ z]
          exact g7.elim (fun w => w.elim) id
      · rw [hOk.eqA]
        refine List.map_congr_left (fun x hx => ?_)
        show _ = ((k.1 x).toNatClampNeg, va_up u.1 a sc x)
        rw [va_up_ne _ _ (hqa x hx)]
    obtain ⟨r1, r2, eq2, hB1, hB2, fin2⟩ := hO2.ins (sc := sc) hi hSi hanot (va_up_self _ _ _) (va_up_self _ _ _)
    have ef2 : va_up f2 o (jo_eO hd pa (nI qs.length) hr ps) = f2 := jz_self hfo2
    rw [← ef2] at hw
    have hlen2 := hO2.len
    refine lv_aload_n hx hb dX0_enter_55 rfl (lv_at hl 1 rfl) ?_
    refine lv_aload hx hb dX0_enter_56 (lv_at hl 0 rfl) ?_
    refine cl_O_71 (As := [.ref a]) (rest := []) hx hb hml hown hts hG hw (c_putIn l D ct (f0 := f2) (ns := hd :: qs) hV2 hN' hoL (by rw [eq2]) hO2.sub (by simp only [List.length_cons]; omega) hO2.rows hO2.1.2 hO2.h1 hB1 hB2 haP ha4 (fun z => by rcases List.mem_cons.mp z with z | z; exact hah z; exact hanot z) hO2.2.1) rfl ⟨Nat.le_of_ble_eq_true rfl, Nat.le_of_ble_eq_true rfl⟩ hoL (va_up_self _ _ _) hl.1 rfl (Nat.le_of_ble_eq_true rfl) dX0_enter_58 ⟨Nat.le_of_ble_eq_true rfl, Nat.le_of_ble_eq_true rfl⟩ (fun v L' f' H1 locs1 hp hw hcf => ?_)
    obtain ⟨rfl, eL3, f3, u3, hr3, ps3, ef3, hV3, eS3, eI3, hfr3, hrow3⟩ := hp
    rw [eL3, ef3] at hw
    obtain ⟨As', hins, hO3⟩ := fin2 u3 eS3 eI3 hrow3
    have ecnt3 : nI qs.length + 1 = nI (r1 ++ a :: r2).length := by rw [eq2, nI_1]; congr 1; simp; omega
    have hfrL : ∀ q ∈ L, q ≠ o → q ≠ pa → jo_N k PS q → f q = f q := (fun q _ _ _ _ => rfl)
    have hNm : ∀ q ∈ L, jo_N k PS q → jo_N k PS q := (fun q _ h => h)
    exact jx_vret hx hb hrt hlk hw (Nat.le_of_ble_eq_true rfl) (Nat.le_of_ble_eq_true rfl) dX0_enter_61 ⟨rfl, As', hins, hr3, ps3, k, u3, PS, r1 ++ a :: r2, S, ⟨hoL, hpL, by rw [ecnt3, va_up_self], by rw [va_up_ne _ _ hop.symm, hfr3 pa hNp']; exact hfp2, hV3.up hN', hO3⟩, (fun q h => h), fun q hq h1 h2 h3 => (by have hz := hfrL q hq h1 h2 h3; rw [va_up_ne _ _ h1, hfr3 q (hNm q hq h3), hf2, va_up_ne _ _ ((hNm q hq h3) a haP).1]; try exact hz), (fun q h => Or.inl h)⟩
