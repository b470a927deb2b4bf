section LA
variable {p : Program} {l : Launch} {e : Env} {R : Room} {s : State} {m : MethodId} {args : Array Value} {below : List Frame} {meth : Method} {c : Code} {H : Heap} {locs : List Loc} {cells slots : Nat} {Q : State → Prop} {D : va_G} {ct : Nat → ClassId} {A : Nat → Prop} {H0 : Heap} {L : List Nat}
variable {f : Nat → va_E} {k : jK} {u : jS} {PS qs : List Nat} {o hd : Nat} {cn : Int32} {E : va_E}
set_option maxHeartbeats 4000000 in
set_option maxRecDepth 100000 in
theorem lp_leaveAll (hx : p.tables.exec = Jvm.exec) (hb : c.code = cX0_leaveAll) (hown : s.vm.findClass RO = some m.cls) (hts : ∀ w ∈ jz_TT, w.before args s = true) (hG : jz_G D ct s) (hN : jo_N k PS o) (hrow : jr_ok k.2.2.1 u.2.2.1 u.2.2.2 0 (hd :: qs)) (hPS : ∀ x ∈ qs, x ∈ PS) (hh1 : ∀ x ∈ hd :: qs, 1 ≤ k.2.2.1 x)
    (kk : ∀ (f1 : Nat → va_E) (u1 : jS) (H : Heap) (locs : List Loc) (ls : Array Slot), jo_V (ct 0) (ct 1) L f1 k u1 PS → u1.1 = u.1 → u1.2.2 = u.2.2 → f1 o = E → (∀ q, q ≠ o → jo_N k PS q → f1 q = f q) → (∀ x ∈ qs, u1.2.1 x = 0) → (∀ x, x ∉ qs → u1.2.1 x = u.2.1 x) → jz_w D A H0 L f1 H locs → lv_has ls 3 [(0, .ref o), (1, .int cn)] → W p l e R s m args below meth c H locs cells slots Q (F0 m 34 ls [])) :
    ∀ (rest done : List Nat) (f1 : Nat → va_E) (u1 : jS) (H : Heap) (locs : List Loc) (ls : Array Slot), qs = done ++ rest → jo_V (ct 0) (ct 1) L f1 k u1 PS → u1.1 = u.1 → u1.2.2 = u.2.2 → f1 o = E → (∀ q, q ≠ o → jo_N k PS q → f1 q = f q) → (∀ x ∈ done, u1.2.1 x = 0) → (∀ x, x ∉ done → u1.2.1 x = u.2.1 x) → jz_w D A H0 L f1 H locs → lv_has ls 3 [(0, .ref o), (1, .int cn), (2, (va_rf (jr_fst k.2.2.1 0 rest)))] → W p l e R s m args below meth c H locs cells slots Q (F0 m 15 ls []) := by
  intro rest
  induction rest with
  | nil =>
    intro done f1 u1 H locs ls eq hV eS eN hfo hfr hd0 hd1 hw hl
    have hl : lv_has ls 3 [(0, .ref o), (1, .int cn), (2, .null)] := hl
    refine lv_aload_nN hx hb dX0_leaveAll_15 rfl (lv_at hl 2 rfl) ?_
    refine lv_ifnullN (tgt := 34) hx hb dX0_leaveAll_16 (by decide) ?_
    rw [List.append_nil] at eq
    subst eq
    exact kk f1 u1 H locs ls hV eS eN hfo hfr hd0 hd1 hw (lv_sub hl [0, 1] rfl)
  | cons b t ih =>
    intro done f1 u1 H locs ls eq hV eS eN hfo hfr hd0 hd1 hw hl
    have hbq : b ∈ qs := by rw [eq]; simp
    have hbP : b ∈ PS := hPS b hbq
    have hb0 : 0 < k.2.2.1 b := hh1 b (List.mem_cons_of_mem _ hbq)
    have hl : lv_has ls 3 [(0, .ref o), (1, .int cn), (2, .ref b)] := by rw [jr_fst_at hb0] at hl; exact hl
    refine lv_aload_n hx hb dX0_leaveAll_15 rfl (lv_at hl 2 rfl) ?_
    refine lv_ifnull hx hb dX0_leaveAll_16 ?_
    refine lv_aload_n hx hb dX0_leaveAll_19 rfl (lv_at hl 2 rfl) ?_
    refine lv_iconst (v := 0) hx hb dX0_leaveAll_20 (by decide) ?_
    refine pf_O_35 hx hb hown hts hG hw (hV.aL hbP) (hV.a hbP) rfl rfl dX0_leaveAll_21 (fun H locs hw => ?_)
    have epl : jo_eP k (u1.1, va_up u1.2.1 b 0, u1.2.2) b = .inr (2, [.int (k.1 b), .int (k.2.1 b), .int (nI (k.2.2.1 b)), .ref (k.2.2.2.1 b), .ref (k.2.2.2.2 b), .long (u1.1 b), .int 0]) := by simp only [jo_eP, va_up_self]
    have hV2 := hV.putI hbP 0
    rw [epl] at hV2
    obtain ⟨f2, hf2⟩ : ∃ z, z = va_up f1 b (.inr (2, [.int (k.1 b), .int (k.2.1 b), .int (nI (k.2.2.1 b)), .ref (k.2.2.2.1 b), .ref (k.2.2.2.2 b), .long (u1.1 b), .int 0])) := ⟨_, rfl⟩
    rw [← hf2] at hV2
    have hw : jz_w D A H0 L f2 H locs := by rw [hf2]; exact hw
    refine lv_aload_n hx hb dX0_leaveAll_24 rfl (lv_at hl 2 rfl) ?_
    refine gf_O_49 hx hb hown hts hG hw (hV2.aL hbP) (hV2.a hbP) dX0_leaveAll_25 ?_
    refine lv_iconst (v := nI 0) hx hb dX0_leaveAll_28 (by decide) ?_
    refine jx_aldqI hx hb hG hw (hV2.nL hbP) 1 (hV2.n hbP) rfl (by decide) (by decide) dX0_leaveAll_29 ?_
    have ex : u1.2.2.1 b 0 = jr_fst k.2.2.1 0 t := by
      rw [eN]
      exact (jr_atE (pre := hd :: done) hrow (by rw [eq]; rfl) hb0).1
    rw [ex]
    refine jx_astore_nq (lv' := [(2, (va_rf (jr_fst k.2.2.1 0 t))), (0, .ref o), (1, .int cn)]) hx hb dX0_leaveAll_30 rfl hl (by decide) rfl (fun ls hl => ?_)
    refine lv_goto (tgt := 15) hx hb dX0_leaveAll_31 (by decide) ?_
    refine ih (done ++ [b]) f2 (u1.1, va_up u1.2.1 b 0, u1.2.2) H locs ls (by rw [eq]; simp) hV2 eS eN ?_ (fun q h1 h2 => ?_) (fun x hx => ?_) (fun x hx => ?_) hw (lv_sub hl [1, 2, 0] rfl)
    · rw [hf2, va_up_ne _ _ (hN b hbP).1]; exact hfo
    · rw [hf2, va_up_ne _ _ (h2 b hbP).1]; exact hfr q h1 h2
    · show va_up u1.2.1 b 0 x = 0
      by_cases z : x = b
      · rw [z, va_up_self]
      · rw [va_up_ne _ _ z]
        rcases List.mem_append.mp hx with w | w
        · exact hd0 x w
        · exact absurd (List.mem_singleton.mp w) z
    · show va_up u1.2.1 b 0 x = _
      rw [va_up_ne _ _ (fun z => hx (by rw [z]; simp))]
      exact hd1 x (fun z => hx (List.mem_append_left _ z))
end LA
set_option maxHeartbeats 4000000 in
set_option maxRecDepth 100000 in
theorem c_leaveAll (l : Launch) (D : va_G) (ct : Nat → ClassId) {N : Nat} {L : List Nat} {f : Nat → va_E} {o hd pa hr : Nat} {ps : Int32} {k : jK} {u : jS} {PS qs : List Nat} {S : Nat → Option Nat} {As : List (Nat × Int64)} (hSt : jo_St N ct L f o hd pa hr ps k u PS qs S As) (hNb : N < 2 ^ 29) :
    jz_M l D ct yX0_leaveAll cX0_leaveAll 3 (some .int) ({ frames := 1, cells := 0, slots := 0, locals := 21 } : Room) [.ref o] L f (fun v L' f' => v = some (.int (nI qs.length)) ∧ jo_Ch N ct L f o hd pa k PS L' f' []) := by
  obtain ⟨hoL, hpL, hfo, hfp, hV, hOk⟩ := hSt
  have hN : jo_N k PS o := hV.nO (by decide) hfo
  have hNp : jo_N k PS pa := hV.nT (by decide) hfp
  have hop : o ≠ pa := jo_ne hfo hfp (fun e => by cases e)
  have hlenN := hOk.len
  have ef0 : va_up f o (jo_eO hd pa (nI qs.length) hr ps) = f := jz_self hfo
  have hdP := hOk.1.1
  have hdh : 0 < k.2.2.1 hd := by rw [hOk.1.2]; decide
  refine jx_enter (by decide) (Nat.le_of_ble_eq_true rfl) ?_
  intro p e s m below meth c C hw ls hl
  obtain ⟨hx, hb, hrt, hlk, hnm, hml, hown, hts, hG⟩ := C
  have hl : lv_has ls 3 [(0, .ref o)] := hl
  refine lv_aload_n hx hb dX0_leaveAll_0 rfl (lv_at hl 0 rfl) ?_
  refine gf_O_39 hx hb hown hts hG hw hoL hfo dX0_leaveAll_1 ?_
  refine lv_istore_n (lv' := [(1, .int (nI qs.length)), (0, .ref o)]) hx hb dX0_leaveAll_4 rfl hl (by decide) rfl (fun ls hl => ?_)
  refine lv_aload_n hx hb dX0_leaveAll_5 rfl (lv_at hl 1 rfl) ?_
  refine gf_O_14 hx hb hown hts hG hw hoL hfo dX0_leaveAll_6 ?_
  refine gf_O_49 hx hb hown hts hG hw (hV.aL hdP) (hV.a hdP) dX0_leaveAll_9 ?_
  refine lv_iconst (v := nI 0) hx hb dX0_leaveAll_12 (by decide) ?_
  refine jx_aldqI hx hb hG hw (hV.nL hdP) 1 (hV.n hdP) rfl (by decide) (by decide) dX0_leaveAll_13 ?_
  rw [(hOk.rows 0 (by decide)).1 hdh |>.1]
  refine jx_astore_nq (lv' := [(2, (va_rf (jr_fst k.2.2.1 0 qs))), (1, .int (nI qs.length)), (0, .ref o)]) hx hb dX0_leaveAll_14 rfl hl (by decide) rfl (fun ls hl => ?_)
  refine lp_leaveAll (u := u) (E := jo_eO hd pa (nI qs.length) hr ps) hx hb hown hts hG hN (hOk.rows 0 (by decide)) hOk.2.2.1 hOk.h1 (fun f1 u1 H locs ls hV1 eS eN hfo1 hfr1 hd0 hd1 hw hl => ?_) qs [] f u _ _ ls rfl hV rfl rfl hfo (fun _ _ _ => rfl) (fun x h => absurd h List.not_mem_nil) (fun _ _ => rfl) hw (lv_sub hl [2, 1, 0] rfl)
  refine lv_aload_n hx hb dX0_leaveAll_34 rfl (lv_at hl 0 rfl) ?_
  refine gf_O_14 hx hb hown hts hG hw hoL hfo1 dX0_leaveAll_35 ?_
  refine cl_O_27 (As := [.ref hd]) (rest := []) hx hb hml hown hts hG hw (c_makeBare l D ct (hV1.aL hdP) (hV1.nL hdP) (hV1.fL hdP) (hV1.a hdP) (hV1.n hdP) (hV1.r hdP)) rfl ⟨Nat.le_of_ble_eq_true rfl, Nat.le_of_ble_eq_true rfl⟩ hl.1 rfl (Nat.le_of_ble_eq_true rfl) dX0_leaveAll_38 ⟨Nat.le_of_ble_eq_true rfl, Nat.le_of_ble_eq_true rfl⟩ (fun v L' f' H1 locs1 hp hw hcf => ?_)
  obtain ⟨rfl, eL, g, h, hgh, ef⟩ := hp
  rw [eL, ef] at hw
  have hV2 := (hV1.putX hdP g).putF hdP h
  obtain ⟨f2, hf2⟩ : ∃ z, z = va_up (va_up f1 (k.2.2.2.1 hd) (jo_eN (ct 1) g)) (k.2.2.2.2 hd) (jo_eF (ct 0) h) := ⟨_, rfl⟩
  rw [← hf2] at hw hV2
  have hfo2 : f2 o = jo_eO hd pa (nI qs.length) hr ps := by rw [hf2, va_up_ne _ _ (hN hd hdP).2.2, va_up_ne _ _ (hN hd hdP).2.1]; exact hfo1
  refine lv_aload_n hx hb dX0_leaveAll_41 rfl (lv_at hl 0 rfl) ?_
  refine lv_iconst (v := nI 0) hx hb dX0_leaveAll_42 (by decide) ?_
  refine pf_O_39 hx hb hown hts hG hw hoL hfo2 dX0_leaveAll_43 (fun H locs hw => ?_)
  refine lv_iload_n hx hb dX0_leaveAll_46 rfl (lv_at hl 1 rfl) ?_
  have hO2 : jo_Ok (fun _ => False) N k (u1.1, u1.2.1, va_up u1.2.2.1 hd g, va_up u1.2.2.2 hd h) PS hd [] S [] := by
    refine ⟨hOk.1, by simp, fun x hx => absurd hx List.not_mem_nil, fun r hr => ⟨fun _ => ?_, trivial⟩, Nat.zero_le _, fun x hx hxn => ?_, hOk.tab, rfl, List.Pairwise.nil⟩
    · show va_up u1.2.2.1 hd g hd r = none ∧ va_up u1.2.2.2 hd h hd r = nI 1
      rw [va_up_self, va_up_self]
      exact hgh r hr
    · obtain ⟨m0, g1, g2, g3, g4, g5, g6, g7⟩ := hOk.six x hx hxn
      refine ⟨m0, g1, g2, g3, g4, g5, g6, Or.inr (Or.inr ⟨?_, List.not_mem_nil⟩)⟩
      by_cases z : x ∈ qs
      · exact hd0 x z
      · show u1.2.1 x = 0
        rw [hd1 x z]
        rcases g7 with w | ⟨w1, w2⟩ | ⟨w1, w2⟩
        · exact w.elim
        · exact absurd w2 z
        · exact w1
  exact jx_iret hx hb hrt hlk hw (Nat.le_refl _) (Nat.le_refl _) dX0_leaveAll_47 ⟨rfl, hr, ps, k, _, PS, [], S, ⟨hoL, hpL, by rw [va_up_self]; rfl, by rw [va_up_ne _ _ hop.symm, hf2, va_up_ne _ _ (hNp hd hdP).2.2, va_up_ne _ _ (hNp hd hdP).2.1, hfr1 pa hop.symm hNp]; exact hfp, hV2.up hN, hO2⟩, fun q h => h, fun q _ h1 h2 h3 => by rw [va_up_ne _ _ h1, hf2, va_up_ne _ _ (h3 hd hdP).2.2, va_up_ne _ _ (h3 hd hdP).2.1]; exact hfr1 q h1 h3, fun q h => Or.inl h⟩
set_option maxHeartbeats 4000000 in
set_option maxRecDepth 100000 in
theorem c_orderInit (l : Launch) (D : va_G) (ct : Nat → ClassId) {L : List Nat} {f : Nat → va_E} {o : Nat} (hoL : o ∈ L) (hfo : f o = .inr (1, [.null, .null, .int 0, .null, .int 0])) :
    jz_M l D ct yX0_init cX0_init 1 none ({ frames := 2, cells := 4, slots := 1015, locals := 42 } : Room) [.ref o] L f (fun v L' f' => v = none ∧ (∀ q ∈ L, q ∈ L') ∧ (∀ q ∈ L, q ≠ o → f' q = f q) ∧ ∃ hd pa hr ps k u PS qs S, jo_St 0 ct L' f' o hd pa hr ps k u PS qs S [] ∧ pa ∉ L ∧ ∀ q, ¬ jo_N k PS q → q ∉ L) := by
  refine jx_enter (by decide) (Nat.le_of_ble_eq_true rfl) ?_
  intro p e s m below meth c C hw ls hl
  obtain ⟨hx, hb, hrt, hlk, hnm, hml, hown, hts, hG⟩ := C
  have hl : lv_has ls 1 [(0, .ref o)] := hl
  refine lv_aload_n hx hb dX0_init_0 rfl (lv_at hl 0 rfl) ?_
  refine W.objInit hx hb hown (hts _ (by decide +kernel)) (hts _ (by decide +kernel)) (hts _ jz_objc) rfl (by rw [hml]; exact hl.1) rfl dX0_init_1 (Nat.le_of_ble_eq_true rfl) (Nat.le_of_ble_eq_true rfl) ?_
  refine W.eq (g2 := F0 m 4 ls []) rfl ?_
  refine lv_aload_n hx hb dX0_init_4 rfl (lv_at hl 0 rfl) ?_
  refine jx_new (own := RX0) (C := RX1) (T := TX1) (N := 7) (ci := 2) (fs := [.int 0, .int 0, .int 0, .null, .null, .long 0, .int 0]) hx hb hts jz_inP tyX1 tyX1_ok hown (by decide +kernel) (by decide +kernel) (by decide +kernel) hG hw rfl (fun j hj => by rcases (show j = 0 ∨ j = 1 ∨ j = 2 ∨ j = 3 ∨ j = 4 ∨ j = 5 ∨ j = 6 by omega) with rfl | rfl | rfl | rfl | rfl | rfl | rfl <;> rfl) (Nat.le_of_ble_eq_true rfl) (Nat.le_of_ble_eq_true rfl) dX0_init_5 (fun a H haL hw => ?_)
  refine lv_dup hx hb dX0_init_8 rfl ?_
  refine lv_iconst (v := (-1)) hx hb dX0_init_9 (by decide) ?_
  refine lv_iconst (v := nI 4) hx hb dX0_init_10 (by decide) ?_
  refine cl_O_11 (As := [.int (-1), .int (nI 4)]) (rest := [.ref a, .ref o]) hx hb hml hown hts hG hw (c_placeInit l D ct (List.mem_append_right _ (List.mem_singleton.mpr rfl)) (va_up_self _ _ _)) rfl ⟨Nat.le_of_ble_eq_true rfl, Nat.le_of_ble_eq_true rfl⟩ hl.1 rfl (Nat.le_of_ble_eq_true rfl) dX0_init_11 ⟨Nat.le_of_ble_eq_true rfl, Nat.le_of_ble_eq_true rfl⟩ (fun v L' f' H1 locs1 hp hw hcf => ?_)
  obtain ⟨rfl, n, r, hnL, hrL, hnr, eL, ea, en, er, eo⟩ := hp
  rw [eL] at hw
  have hneL : ∀ q ∈ L, q ≠ a := fun q hq z => haL (z ▸ hq)
  have hneN : ∀ q ∈ L, q ≠ n := fun q hq z => hnL (z ▸ List.mem_append_left _ hq)
  have hneR : ∀ q ∈ L, q ≠ r := fun q hq z => hrL (z ▸ List.mem_append_left _ hq)
  have hLL : ∀ q ∈ L, q ∈ (L ++ [a] ++ [n]) ++ [r] := fun q h => List.mem_append_left _ (List.mem_append_left _ (List.mem_append_left _ h))
  have eoq : ∀ q ∈ L, f' q = f q := fun q hq => by rw [eo q (hneL q hq) (hneN q hq) (hneR q hq), va_up_ne _ _ (hneL q hq)]
  have hfo1 : f' o = .inr (1, [.null, .null, .int 0, .null, .int 0]) := by rw [eoq o hoL]; exact hfo
  have hV1 : jo_V (ct 0) (ct 1) ((L ++ [a] ++ [n]) ++ [r]) f' (fun _ => -1, fun _ => jz_word (-1), fun _ => 4, fun _ => n, fun _ => r) (fun _ => 0, fun _ => 0, fun _ _ => none, fun _ _ => 0) [a] := by
    refine ⟨fun b hb => ?_, fun b hb d hd _ => (List.mem_singleton.mp hb).trans (List.mem_singleton.mp hd).symm, fun b hb d hd _ => (List.mem_singleton.mp hb).trans (List.mem_singleton.mp hd).symm⟩
    rw [List.mem_singleton.mp hb]
    exact ⟨List.mem_append_left _ (List.mem_append_left _ (List.mem_append_right _ (List.mem_singleton.mpr rfl))), List.mem_append_left _ (List.mem_append_right _ (List.mem_singleton.mpr rfl)), List.mem_append_right _ (List.mem_singleton.mpr rfl), ea, en, er⟩
  have hN1 : ∀ q ∈ L, jo_N ((fun _ => -1, fun _ => jz_word (-1), fun _ => 4, fun _ => n, fun _ => r) : jK) [a] q := fun q hq b hb => by
    rw [List.mem_singleton.mp hb]
    exact ⟨hneL q hq, hneN q hq, hneR q hq⟩
  have hN1r : ∀ q, ¬ jo_N ((fun _ => -1, fun _ => jz_word (-1), fun _ => 4, fun _ => n, fun _ => r) : jK) [a] q → q ∈ (L ++ [a] ++ [n]) ++ [r] ∧ q ∉ L := fun q hq => by
    refine ⟨Classical.byContradiction (fun z => hq (fun b hb => ?_)), fun z => hq (hN1 q z)⟩
    rw [List.mem_singleton.mp hb]
    simp only [List.mem_append, List.mem_singleton, not_or] at z
    exact ⟨z.1.1.2, z.1.2, z.2⟩
  have haP : a ∈ [a] := List.mem_singleton.mpr rfl
  generalize hkg : ((fun _ => -1, fun _ => jz_word (-1), fun _ => 4, fun _ => n, fun _ => r) : jK) = k at hV1 hN1 hN1r
  have hk4 : k.2.2.1 a = 4 := by rw [← hkg]
  generalize hLg : (L ++ [a] ++ [n]) ++ [r] = L1 at hw hV1 hLL hN1r
  generalize hug : ((fun _ => 0, fun _ => 0, fun _ _ => none, fun _ _ => 0) : jS) = u at hV1
  refine pf_O_14 hx hb hown hts hG hw (hLL _ hoL) hfo1 hnm dX0_init_14 (fun H locs hw => ?_)
  have hVp := hV1.up (e := .inr (1, [.ref a, .null, .int 0, .null, .int 0])) (hN1 o hoL)
  refine lv_aload_n hx hb dX0_init_17 rfl (lv_at hl 0 rfl) ?_
  refine lv_sipush (v := nI 1000) hx hb dX0_init_18 (by decide) ?_
  refine jx_newq hx hb hts hown (by decide +kernel) (by decide +kernel) hG hw 1 rfl (N' := 1000) (nI_pos (by decide)) (nI_clamp (by decide)) (by decide) (Nat.le_of_ble_eq_true rfl) (Nat.le_of_ble_eq_true rfl) dX0_init_21 (fun pa H hpL hw => ?_)
  have hpne : ∀ q ∈ L, q ≠ pa := fun q hq z => hpL (z ▸ hLL q hq)
  have hopa : o ≠ pa := hpne o hoL
  have hNpa : jo_N k [a] pa := Classical.byContradiction (fun z => hpL (hN1r pa z).1)
  have hLL2 : ∀ q ∈ L, q ∈ L1 ++ [pa] := fun q hq => List.mem_append_left _ (hLL q hq)
  refine pf_O_20 hx hb hown hts hG hw (hLL2 _ hoL) (by rw [va_up_ne _ _ hopa, va_up_self]) hnm dX0_init_24 (fun H locs hw => ?_)
  rw [jz_uu2 hopa] at hw
  refine lv_aload_n hx hb dX0_init_27 rfl (lv_at hl 0 rfl) ?_
  refine lv_aload_n hx hb dX0_init_28 rfl (lv_at hl 0 rfl) ?_
  refine gf_O_14 hx hb hown hts hG hw (hLL2 _ hoL) (by rw [va_up_ne _ _ hopa, va_up_self]) dX0_init_29 ?_
  refine pf_O_24 hx hb hown hts hG hw (hLL2 _ hoL) (by rw [va_up_ne _ _ hopa, va_up_self]) dX0_init_32 (fun H locs hw => ?_)
  rw [jz_uu2 hopa] at hw
  refine lv_aload_n hx hb dX0_init_35 rfl (lv_at hl 0 rfl) ?_
  refine gf_O_14 hx hb hown hts hG hw (hLL2 _ hoL) (by rw [va_up_ne _ _ hopa, va_up_self]) dX0_init_36 ?_
  have hV2 : jo_V (ct 0) (ct 1) (L1 ++ [pa]) (va_up (va_up f' o (.inr (1, [.ref a, .ref pa, .int 0, .ref a, .int 0]))) pa (jo_eT (ct 1) (fun _ => none))) k u [a] := ((hV1.up (hN1 o hoL)).up hNpa).keep (fun q hq => List.mem_append_left _ hq) (fun _ _ => rfl)
  obtain ⟨f2, hf2⟩ : ∃ z, z = va_up (va_up f' o (.inr (1, [.ref a, .ref pa, .int 0, .ref a, .int 0]))) pa (jo_eT (ct 1) (fun _ => none)) := ⟨_, rfl⟩
  rw [← hf2] at hV2
  have hw : jz_w D (va_A (va_pl L f) s.heap.size) s.heap (L1 ++ [pa]) f2 H locs := by rw [hf2]; exact hw
  refine cl_O_27 (As := [.ref a]) (rest := []) hx hb hml hown hts hG hw (c_makeBare l D ct (hV2.aL haP) (hV2.nL haP) (hV2.fL haP) (hV2.a haP) (hV2.n haP) (hV2.r haP)) rfl ⟨Nat.le_of_ble_eq_true rfl, Nat.le_of_ble_eq_true rfl⟩ hl.1 rfl (Nat.le_of_ble_eq_true rfl) dX0_init_39 ⟨Nat.le_of_ble_eq_true rfl, Nat.le_of_ble_eq_true rfl⟩ (fun v L' f' H1 locs1 hp hw hcf => ?_)
  obtain ⟨rfl, eL2, g, h, hgh, ef2⟩ := hp
  rw [eL2, ef2] at hw
  have hV3 := (hV2.putX haP g).putF haP h
  obtain ⟨f3, hf3⟩ : ∃ z, z = va_up (va_up f2 (k.2.2.2.1 a) (jo_eN (ct 1) g)) (k.2.2.2.2 a) (jo_eF (ct 0) h) := ⟨_, rfl⟩
  rw [← hf3] at hw hV3
  have hf3q : ∀ q, jo_N k [a] q → f3 q = f2 q := fun q hq => by rw [hf3, va_up_ne _ _ (hq a haP).2.2, va_up_ne _ _ (hq a haP).2.1]
  have hO3 : jo_Ok (fun _ => False) 0 k (u.1, u.2.1, va_up u.2.2.1 a g, va_up u.2.2.2 a h) [a] a [] (fun _ => none) [] := by
    refine ⟨⟨haP, hk4⟩, by simp, fun x hx => absurd hx List.not_mem_nil, fun r hr => ⟨fun _ => ?_, trivial⟩, Nat.le_refl _, fun x hx hxn => absurd (List.mem_singleton.mp hx) hxn, fun m0 b _ hb => (by cases hb), rfl, List.Pairwise.nil⟩
    show va_up u.2.2.1 a g a r = none ∧ va_up u.2.2.2 a h a r = nI 1
    rw [va_up_self, va_up_self]
    exact hgh r hr
  exact jx_vret hx hb hrt hlk hw (Nat.le_of_ble_eq_true rfl) (Nat.le_of_ble_eq_true rfl) dX0_init_42 ⟨rfl, hLL2, fun q hq h1 => by rw [hf3q q (hN1 q hq), hf2, va_up_ne _ _ (hpne q hq), va_up_ne _ _ h1]; exact eoq q hq, a, pa, a, 0, k, _, [a], [], fun _ => none, ⟨hLL2 o hoL, List.mem_append_right _ (List.mem_singleton.mpr rfl), by rw [hf3q o (hN1 o hoL), hf2, va_up_ne _ _ hopa, va_up_self]; rfl, by rw [hf3q pa hNpa, hf2, va_up_self], hV3, hO3⟩, fun z => hpL (hLL pa z), fun q hq => (hN1r q hq).2⟩
