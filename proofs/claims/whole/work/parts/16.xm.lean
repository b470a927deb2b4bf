set_option maxHeartbeats 4000000 in
set_option maxRecDepth 100000 in
theorem c_orderOf (l : Launch) (D : va_G) (ct : Nat → ClassId) {L : List Nat} {f : Nat → va_E} {x oa : Nat} {g : Nat → Option Nat} {ov : Int32} (hxL : x ∈ L) (haL : oa ∈ L) (hfx : f x = .inr (0, [.ref oa])) (hfa : f oa = jo_eA (ct 2) g) :
    jz_M l D ct yX2_orderOf cX2_orderOf 2 (some (.object "JumpOrder$Order")) ({ frames := 0, cells := 0, slots := 0, locals := 0 } : Room) [.ref x, .int ov] L f (fun v L' f' => ((∃ i, i < 4 ∧ ov = nI i ∧ v = some (va_rf (g i))) ∨ (¬ jq_o ov ∧ v = some .null)) ∧ L' = L ∧ f' = f) := by
  refine jx_enter (by decide) (Nat.le_of_ble_eq_true rfl) ?_
  intro p e s m below meth c C hw ls hl
  obtain ⟨hx, hb, hrt, hlk, hnm, hml, hown, hts, hG⟩ := C
  have hl : lv_has ls 2 [(0, .ref x), (1, .int ov)] := hl
  refine lv_iload_n hx hb dX2_orderOf_0 rfl (lv_at hl 1 rfl) ?_
  refine lv_if_lt (tgt := 18) hx hb dX2_orderOf_1 (by decide) (fun h1 => ?_) (fun h1 => ?_)
  · refine lv_null hx hb dX2_orderOf_18 ?_
    exact jx_aret hx hb hrt (Or.inl rfl) hlk hw (Nat.zero_le _) (Nat.zero_le _) dX2_orderOf_19 ⟨Or.inr ⟨fun q => absurd h1 (Int32.not_lt.mpr q.1), rfl⟩, rfl, rfl⟩
  · refine lv_iload_n hx hb dX2_orderOf_4 rfl (lv_at hl 1 rfl) ?_
    refine lv_iconst (v := nI 4) hx hb dX2_orderOf_5 (by decide) ?_
    refine lv_icmp_ge (tgt := 18) hx hb dX2_orderOf_6 (by decide) (fun h2 => ?_) (fun h2 => ?_)
    · refine lv_null hx hb dX2_orderOf_18 ?_
      exact jx_aret hx hb hrt (Or.inl rfl) hlk hw (Nat.zero_le _) (Nat.zero_le _) dX2_orderOf_19 ⟨Or.inr ⟨fun q => absurd q.2 (Int32.not_lt.mpr h2), rfl⟩, rfl, rfl⟩
    · obtain ⟨i, hi, ei, hcl⟩ := jq_oN ⟨Int32.not_lt.mp h1, Int32.not_le.mp h2⟩
      subst ei
      refine lv_aload_n hx hb dX2_orderOf_9 rfl (lv_at hl 0 rfl) ?_
      refine gf_X_13 hx hb hown hts hG hw hxL hfx dX2_orderOf_10 ?_
      refine lv_iload_n hx hb dX2_orderOf_13 rfl (lv_at hl 1 rfl) ?_
      refine jx_aldqI hx hb hG hw haL 2 hfa rfl hi (by decide) dX2_orderOf_14 ?_
      refine lv_goto (tgt := 19) hx hb dX2_orderOf_15 (by decide) ?_
      exact jx_aret hx hb hrt (va_rf_or _) hlk hw (Nat.zero_le _) (Nat.zero_le _) dX2_orderOf_19 ⟨Or.inl ⟨i, hi, rfl, rfl⟩, rfl, rfl⟩
set_option maxHeartbeats 4000000 in
set_option maxRecDepth 100000 in
theorem c_X_set (l : Launch) (D : va_G) (ct : Nat → ClassId) {N : Nat} {L : List Nat} {f : Nat → va_E} {x : Nat} {As : jq_S} (hX : jX N ct x L f As) (hNb : N < 2 ^ 29) {ov mv : Int32} {sc : Int64} :
    jz_M l D ct yX2_set cX2_set 7 (some .int) ({ frames := 4, cells := 3, slots := 15, locals := 95 } : Room) [.ref x, .int ov, .int mv, .long sc] L f (fun v L' f' => v = some (.int (sp_set As ov mv sc).1) ∧ jX (N + 1) ct x L' f' (sp_set As ov mv sc).2) := by
  by_cases ho : jq_o ov
  · obtain ⟨i, hi, ei, hcl0⟩ := jq_oN ho
    subst ei
    by_cases hm : jq_m mv
    · obtain ⟨j, hj, ej, hcl1⟩ := jq_mN hm
      subst ej
      refine jx_enter (by decide) (Nat.le_of_ble_eq_true rfl) ?_
      intro p e s m below meth c C hw ls hl
      obtain ⟨hx, hb, hrt, hlk, hnm, hml, hown, hts, hG⟩ := C
      have hl : lv_has ls 7 [(0, .ref x), (1, .int (nI i)), (2, .int (nI j)), (3, .long sc)] := hl
      obtain ⟨oa, g, o, hd, pa, hr, ps, k, u, PS, qs, S, hxL, haL, hfx, hfa, hgi, hSt, hcl⟩ := hX.opn hi
      refine lv_aload_n hx hb dX2_set_0 rfl (lv_at hl 0 rfl) ?_
      refine lv_iload_n hx hb dX2_set_1 rfl (lv_at hl 1 rfl) ?_
      refine cl_X_18 (As := [.int (nI i)]) (rest := []) hx hb hml hown hts hG hw (c_orderOf l D ct hxL haL hfx hfa) rfl ⟨Nat.le_of_ble_eq_true rfl, Nat.le_of_ble_eq_true rfl⟩ hxL hfx hl.1 rfl (Nat.le_of_ble_eq_true rfl) dX2_set_2 ⟨Nat.le_of_ble_eq_true rfl, Nat.le_of_ble_eq_true rfl⟩ (fun v L' f' H1 locs1 hp hw hcf => ?_)
      obtain ⟨hv, eL, ef⟩ := hp
      rw [eL, ef] at hw
      have hv : v = some (.ref o) := by
        rcases hv with ⟨i2, hi2, e2, e3⟩ | ⟨q, -⟩
        · have e4 : i = i2 := (nI_eq (by omega) (by omega)).mp e2
          rw [e3, ← e4, hgi]
          rfl
        · exact absurd (jq_oI hi).1 q
      subst hv
      obtain ⟨hoL, hpL, hfo, hfp, hV, hOk⟩ := id hSt
      refine lv_astore (lv' := [(5, .ref o), (0, .ref x), (1, .int (nI i)), (2, .int (nI j)), (3, .long sc)]) hx hb dX2_set_5 hl (by decide) rfl (fun ls hl => ?_)
      refine lv_aload hx hb dX2_set_7 (lv_at hl 0 rfl) ?_
      refine lv_ifnull hx hb dX2_set_9 ?_
      refine lv_iload_n hx hb dX2_set_12 rfl (lv_at hl 3 rfl) ?_
      refine cl_X_22 (As := [.int (nI j)]) (rest := []) hx hb hml hown hts hG hw (c_isMember l D ct L f (nI j)) rfl ⟨Nat.le_of_ble_eq_true rfl, Nat.le_of_ble_eq_true rfl⟩ hl.1 rfl (Nat.le_of_ble_eq_true rfl) dX2_set_13 ⟨Nat.le_of_ble_eq_true rfl, Nat.le_of_ble_eq_true rfl⟩ (fun v L' f' H1 locs1 hp hw hcf => ?_)
      obtain ⟨hv, eL, ef⟩ := hp
      rw [eL, ef] at hw
      have hv : v = some (.int 1) := hv.elim (fun q => q.2) (fun q => absurd (jq_mI hj).1 q.1)
      subst hv
      refine lv_if_ne (tgt := 21) hx hb dX2_set_16 (by decide) (fun _ => ?_) (fun h => absurd h (by decide))
      refine lv_aload hx hb dX2_set_21 (lv_at hl 0 rfl) ?_
      refine lv_iload_n hx hb dX2_set_23 rfl (lv_at hl 3 rfl) ?_
      refine cl_X_26 (As := [.int (nI j)]) (rest := []) hx hb hml hown hts hG hw (c_placeOf l D ct hV hoL hfo hpL hfp hj (fun a q => (hOk.tab j a hj q).1)) rfl ⟨Nat.le_of_ble_eq_true rfl, Nat.le_of_ble_eq_true rfl⟩ hoL hfo hl.1 rfl (Nat.le_of_ble_eq_true rfl) dX2_set_24 ⟨Nat.le_of_ble_eq_true rfl, Nat.le_of_ble_eq_true rfl⟩ (fun v L' f' H1 locs1 hp hw hcf => ?_)
      obtain ⟨hv, eL, ef⟩ := hp
      rw [eL, ef] at hw
      rcases hv with ⟨a, hSj, hin, rfl⟩ | ⟨habs, rfl⟩
      · obtain ⟨hget, haq⟩ := hOk.getS hj hSj hin
        have haP := (hOk.tab j a hj hSj).1
        refine lv_astore (lv' := [(6, .ref a), (5, .ref o), (0, .ref x), (1, .int (nI i)), (2, .int (nI j)), (3, .long sc)]) hx hb dX2_set_27 hl (by decide) rfl (fun ls hl => ?_)
        refine lv_aload hx hb dX2_set_29 (lv_at hl 0 rfl) ?_
        refine lv_ifnonnull (tgt := 43) hx hb dX2_set_31 (by decide) ?_
        refine lv_aload hx hb dX2_set_43 (lv_at hl 0 rfl) ?_
        refine gf_X_34 hx hb hown hts hG hw (hV.aL haP) (hV.a haP) dX2_set_45 ?_
        refine lv_lload_n hx hb dX2_set_48 rfl (lv_at hl 5 rfl) ?_
        refine W.lcmp hx hb dX2_set_49 ?_
        refine lv_if_ne (tgt := 55) hx hb dX2_set_50 (by decide) (fun hne => ?_) (fun heq => ?_)
        · have hne : ¬ u.1 a = sc := fun q => hne ((lg_cmp_eq _ _).mpr q)
          refine lv_aload hx hb dX2_set_55 (lv_at hl 1 rfl) ?_
          refine lv_aload hx hb dX2_set_57 (lv_at hl 0 rfl) ?_
          refine lv_lload_n hx hb dX2_set_59 rfl (lv_at hl 5 rfl) ?_
          refine cl_X_40 (As := [.ref a, .long sc]) (rest := []) hx hb hml hown hts hG hw (c_move l D ct hSt hNb hj hSj hin) rfl ⟨Nat.le_of_ble_eq_true rfl, Nat.le_of_ble_eq_true rfl⟩ hoL hfo hl.1 rfl (Nat.le_of_ble_eq_true rfl) dX2_set_60 ⟨Nat.le_of_ble_eq_true rfl, Nat.le_of_ble_eq_true rfl⟩ (fun v L' f' H1 locs1 hp hw hcf => ?_)
          obtain ⟨rfl, A1, A', hdel, hins, hch⟩ := hp
          have hX' := hcl (N + 1) L' f' A' (Nat.le_succ _) hch
          have e1 : A1 = jq_del (As i) j := jq_del_of hOk.wf.2.1 hdel
          have e2 : A' = jq_ins A1 j sc := jq_ins_of hins
          have esq : sq_set (As i) j sc = (2, A') := by rw [sq_set, hget]; show (if u.1 a = sc then _ else _) = _; rw [if_neg hne, e2, e1]
          refine lv_iconst (v := 2) hx hb dX2_set_63 (by decide) ?_
          exact jx_iret hx hb hrt hlk hw (Nat.le_of_ble_eq_true rfl) (Nat.le_of_ble_eq_true rfl) dX2_set_64 ⟨by rw [sp_set_at hi hj, esq], by rw [sp_set_at hi hj, esq]; exact hX'⟩
        · have heq : u.1 a = sc := (lg_cmp_eq _ _).mp heq
          have esq : sq_set (As i) j sc = (0, As i) := by rw [sq_set, hget]; show (if u.1 a = sc then _ else _) = _; rw [if_pos heq]
          refine lv_iconst (v := 0) hx hb dX2_set_53 (by decide) ?_
          exact jx_iret hx hb hrt hlk hw (Nat.le_of_ble_eq_true rfl) (Nat.le_of_ble_eq_true rfl) dX2_set_54 ⟨by rw [sp_set_at hi hj, esq], by rw [sp_set_at hi hj, esq]; show jX (N + 1) ct x L f (va_up As i (As i)); rw [jq_upSelf]; exact hX.mono (Nat.le_succ _)⟩
      · have hget := hOk.getN habs
        refine lv_astoreN (lv' := [(6, .null), (5, .ref o), (0, .ref x), (1, .int (nI i)), (2, .int (nI j)), (3, .long sc)]) hx hb dX2_set_27 hl (by decide) rfl (fun ls hl => ?_)
        refine lv_aloadN hx hb dX2_set_29 (lv_at hl 0 rfl) ?_
        refine lv_ifnonnullN hx hb dX2_set_31 ?_
        refine lv_aload hx hb dX2_set_34 (lv_at hl 1 rfl) ?_
        refine lv_iload_n hx hb dX2_set_36 rfl (lv_at hl 4 rfl) ?_
        refine lv_lload_n hx hb dX2_set_37 rfl (lv_at hl 5 rfl) ?_
        refine cl_X_30 (As := [.int (nI j), .long sc]) (rest := []) hx hb hml hown hts hG hw (c_enter l D ct hSt hNb hj habs) rfl ⟨Nat.le_of_ble_eq_true rfl, Nat.le_of_ble_eq_true rfl⟩ hoL hfo hl.1 rfl (Nat.le_of_ble_eq_true rfl) dX2_set_38 ⟨Nat.le_of_ble_eq_true rfl, Nat.le_of_ble_eq_true rfl⟩ (fun v L' f' H1 locs1 hp hw hcf => ?_)
        obtain ⟨rfl, A', hins, hch⟩ := hp
        have hX' := hcl (N + 1) L' f' A' (Nat.le_succ _) hch
        have e2 : A' = jq_ins (As i) j sc := jq_ins_of hins
        have esq : sq_set (As i) j sc = (1, A') := by rw [sq_set, hget, e2]
        refine lv_iconst (v := 1) hx hb dX2_set_41 (by decide) ?_
        exact jx_iret hx hb hrt hlk hw (Nat.le_of_ble_eq_true rfl) (Nat.le_of_ble_eq_true rfl) dX2_set_42 ⟨by rw [sp_set_at hi hj, esq], by rw [sp_set_at hi hj, esq]; exact hX'⟩
    · refine jx_enter (by decide) (Nat.le_of_ble_eq_true rfl) ?_
      intro p e s m below meth c C hw ls hl
      obtain ⟨hx, hb, hrt, hlk, hnm, hml, hown, hts, hG⟩ := C
      have hl : lv_has ls 7 [(0, .ref x), (1, .int (nI i)), (2, .int mv), (3, .long sc)] := hl
      obtain ⟨oa, g, o, hd, pa, hr, ps, k, u, PS, qs, S, hxL, haL, hfx, hfa, hgi, hSt, hcl⟩ := hX.opn hi
      refine lv_aload_n hx hb dX2_set_0 rfl (lv_at hl 0 rfl) ?_
      refine lv_iload_n hx hb dX2_set_1 rfl (lv_at hl 1 rfl) ?_
      refine cl_X_18 (As := [.int (nI i)]) (rest := []) hx hb hml hown hts hG hw (c_orderOf l D ct hxL haL hfx hfa) rfl ⟨Nat.le_of_ble_eq_true rfl, Nat.le_of_ble_eq_true rfl⟩ hxL hfx hl.1 rfl (Nat.le_of_ble_eq_true rfl) dX2_set_2 ⟨Nat.le_of_ble_eq_true rfl, Nat.le_of_ble_eq_true rfl⟩ (fun v L' f' H1 locs1 hp hw hcf => ?_)
      obtain ⟨hv, eL, ef⟩ := hp
      rw [eL, ef] at hw
      have hv : v = some (.ref o) := by
        rcases hv with ⟨i2, hi2, e2, e3⟩ | ⟨q, -⟩
        · have e4 : i = i2 := (nI_eq (by omega) (by omega)).mp e2
          rw [e3, ← e4, hgi]
          rfl
        · exact absurd (jq_oI hi).1 q
      subst hv
      obtain ⟨hoL, hpL, hfo, hfp, hV, hOk⟩ := id hSt
      refine lv_astore (lv' := [(5, .ref o), (0, .ref x), (1, .int (nI i)), (2, .int mv), (3, .long sc)]) hx hb dX2_set_5 hl (by decide) rfl (fun ls hl => ?_)
      refine lv_aload hx hb dX2_set_7 (lv_at hl 0 rfl) ?_
      refine lv_ifnull hx hb dX2_set_9 ?_
      refine lv_iload_n hx hb dX2_set_12 rfl (lv_at hl 3 rfl) ?_
      refine cl_X_22 (As := [.int mv]) (rest := []) hx hb hml hown hts hG hw (c_isMember l D ct L f mv) rfl ⟨Nat.le_of_ble_eq_true rfl, Nat.le_of_ble_eq_true rfl⟩ hl.1 rfl (Nat.le_of_ble_eq_true rfl) dX2_set_13 ⟨Nat.le_of_ble_eq_true rfl, Nat.le_of_ble_eq_true rfl⟩ (fun v L' f' H1 locs1 hp hw hcf => ?_)
      obtain ⟨hv, eL, ef⟩ := hp
      rw [eL, ef] at hw
      have hv : v = some (.int 0) := hv.elim (fun q => absurd q.1 hm) (fun q => q.2)
      subst hv
      refine lv_if_ne (tgt := 21) hx hb dX2_set_16 (by decide) (fun h => absurd rfl h) (fun _ => ?_)
      refine lv_iconst (v := (-1)) hx hb dX2_set_19 (by decide) ?_
      exact jx_iret hx hb hrt hlk hw (Nat.le_of_ble_eq_true rfl) (Nat.le_of_ble_eq_true rfl) dX2_set_20 ⟨by rw [sp_set, if_neg (fun q => hm q.2)], by rw [sp_set, if_neg (fun q => hm q.2)]; exact (hX.mono (Nat.le_succ _))⟩
  · refine jx_enter (by decide) (Nat.le_of_ble_eq_true rfl) ?_
    intro p e s m below meth c C hw ls hl
    obtain ⟨hx, hb, hrt, hlk, hnm, hml, hown, hts, hG⟩ := C
    have hl : lv_has ls 7 [(0, .ref x), (1, .int ov), (2, .int mv), (3, .long sc)] := hl
    have hno := ho
    obtain ⟨oa, g, hxL, haL, hfx, hfa⟩ := hX.base
    refine lv_aload_n hx hb dX2_set_0 rfl (lv_at hl 0 rfl) ?_
    refine lv_iload_n hx hb dX2_set_1 rfl (lv_at hl 1 rfl) ?_
    refine cl_X_18 (As := [.int ov]) (rest := []) hx hb hml hown hts hG hw (c_orderOf l D ct hxL haL hfx hfa) rfl ⟨Nat.le_of_ble_eq_true rfl, Nat.le_of_ble_eq_true rfl⟩ hxL hfx hl.1 rfl (Nat.le_of_ble_eq_true rfl) dX2_set_2 ⟨Nat.le_of_ble_eq_true rfl, Nat.le_of_ble_eq_true rfl⟩ (fun v L' f' H1 locs1 hp hw hcf => ?_)
    obtain ⟨hv, eL, ef⟩ := hp
    rw [eL, ef] at hw
    have hv : v = some .null := hv.elim (fun ⟨i, hi, e, _⟩ => absurd (e ▸ (jq_oI hi).1) hno) (fun q => q.2)
    subst hv
    refine lv_astoreN (lv' := [(5, .null), (0, .ref x), (1, .int ov), (2, .int mv), (3, .long sc)]) hx hb dX2_set_5 hl (by decide) rfl (fun ls hl => ?_)
    refine lv_aloadN hx hb dX2_set_7 (lv_at hl 0 rfl) ?_
    refine lv_ifnullN (tgt := 19) hx hb dX2_set_9 (by decide) ?_
    refine lv_iconst (v := (-1)) hx hb dX2_set_19 (by decide) ?_
    exact jx_iret hx hb hrt hlk hw (Nat.le_of_ble_eq_true rfl) (Nat.le_of_ble_eq_true rfl) dX2_set_20 ⟨by rw [sp_set, if_neg (fun q => ho q.1)], by rw [sp_set, if_neg (fun q => ho q.1)]; exact (hX.mono (Nat.le_succ _))⟩
set_option maxHeartbeats 4000000 in
set_option maxRecDepth 100000 in
theorem c_X_remove (l : Launch) (D : va_G) (ct : Nat → ClassId) {N : Nat} {L : List Nat} {f : Nat → va_E} {x : Nat} {As : jq_S} (hX : jX N ct x L f As) (hNb : N < 2 ^ 29) {ov mv : Int32} :
    jz_M l D ct yX2_remove cX2_remove 5 (some .int) ({ frames := 4, cells := 0, slots := 0, locals := 92 } : Room) [.ref x, .int ov, .int mv] L f (fun v L' f' => v = some (.int (sp_rem As ov mv).1) ∧ jX N ct x L' f' (sp_rem As ov mv).2) := by
  by_cases ho : jq_o ov
  · obtain ⟨i, hi, ei, hcl0⟩ := jq_oN ho
    subst ei
    by_cases hm : jq_m mv
    · obtain ⟨j, hj, ej, hcl1⟩ := jq_mN hm
      subst ej
      refine jx_enter (by decide) (Nat.le_of_ble_eq_true rfl) ?_
      intro p e s m below meth c C hw ls hl
      obtain ⟨hx, hb, hrt, hlk, hnm, hml, hown, hts, hG⟩ := C
      have hl : lv_has ls 5 [(0, .ref x), (1, .int (nI i)), (2, .int (nI j))] := hl
      obtain ⟨oa, g, o, hd, pa, hr, ps, k, u, PS, qs, S, hxL, haL, hfx, hfa, hgi, hSt, hcl⟩ := hX.opn hi
      refine lv_aload_n hx hb dX2_remove_0 rfl (lv_at hl 0 rfl) ?_
      refine lv_iload_n hx hb dX2_remove_1 rfl (lv_at hl 1 rfl) ?_
      refine cl_X_18 (As := [.int (nI i)]) (rest := []) hx hb hml hown hts hG hw (c_orderOf l D ct hxL haL hfx hfa) rfl ⟨Nat.le_of_ble_eq_true rfl, Nat.le_of_ble_eq_true rfl⟩ hxL hfx hl.1 rfl (Nat.le_of_ble_eq_true rfl) dX2_remove_2 ⟨Nat.le_of_ble_eq_true rfl, Nat.le_of_ble_eq_true rfl⟩ (fun v L' f' H1 locs1 hp hw hcf => ?_)
      obtain ⟨hv, eL, ef⟩ := hp
      rw [eL, ef] at hw
      have hv : v = some (.ref o) := by
        rcases hv with ⟨i2, hi2, e2, e3⟩ | ⟨q, -⟩
        · have e4 : i = i2 := (nI_eq (by omega) (by omega)).mp e2
          rw [e3, ← e4, hgi]
          rfl
        · exact absurd (jq_oI hi).1 q
      subst hv
      obtain ⟨hoL, hpL, hfo, hfp, hV, hOk⟩ := id hSt
      refine lv_astore_n (lv' := [(3, .ref o), (0, .ref x), (1, .int (nI i)), (2, .int (nI j))]) hx hb dX2_remove_5 rfl hl (by decide) rfl (fun ls hl => ?_)
      refine lv_aload_n hx hb dX2_remove_6 rfl (lv_at hl 0 rfl) ?_
      refine lv_ifnull hx hb dX2_remove_7 ?_
      refine lv_iload_n hx hb dX2_remove_10 rfl (lv_at hl 3 rfl) ?_
      refine cl_X_22 (As := [.int (nI j)]) (rest := []) hx hb hml hown hts hG hw (c_isMember l D ct L f (nI j)) rfl ⟨Nat.le_of_ble_eq_true rfl, Nat.le_of_ble_eq_true rfl⟩ hl.1 rfl (Nat.le_of_ble_eq_true rfl) dX2_remove_11 ⟨Nat.le_of_ble_eq_true rfl, Nat.le_of_ble_eq_true rfl⟩ (fun v L' f' H1 locs1 hp hw hcf => ?_)
      obtain ⟨hv, eL, ef⟩ := hp
      rw [eL, ef] at hw
      have hv : v = some (.int 1) := hv.elim (fun q => q.2) (fun q => absurd (jq_mI hj).1 q.1)
      subst hv
      refine lv_if_ne (tgt := 19) hx hb dX2_remove_14 (by decide) (fun _ => ?_) (fun h => absurd h (by decide))
      refine lv_aload_n hx hb dX2_remove_19 rfl (lv_at hl 0 rfl) ?_
      refine lv_iload_n hx hb dX2_remove_20 rfl (lv_at hl 3 rfl) ?_
      refine cl_X_26 (As := [.int (nI j)]) (rest := []) hx hb hml hown hts hG hw (c_placeOf l D ct hV hoL hfo hpL hfp hj (fun a q => (hOk.tab j a hj q).1)) rfl ⟨Nat.le_of_ble_eq_true rfl, Nat.le_of_ble_eq_true rfl⟩ hoL hfo hl.1 rfl (Nat.le_of_ble_eq_true rfl) dX2_remove_21 ⟨Nat.le_of_ble_eq_true rfl, Nat.le_of_ble_eq_true rfl⟩ (fun v L' f' H1 locs1 hp hw hcf => ?_)
      obtain ⟨hv, eL, ef⟩ := hp
      rw [eL, ef] at hw
      rcases hv with ⟨a, hSj, hin, rfl⟩ | ⟨habs, rfl⟩
      · obtain ⟨hget, haq⟩ := hOk.getS hj hSj hin
        refine lv_astore (lv' := [(4, .ref a), (3, .ref o), (0, .ref x), (1, .int (nI i)), (2, .int (nI j))]) hx hb dX2_remove_24 hl (by decide) rfl (fun ls hl => ?_)
        refine lv_aload hx hb dX2_remove_26 (lv_at hl 0 rfl) ?_
        refine lv_ifnonnull (tgt := 33) hx hb dX2_remove_28 (by decide) ?_
        refine lv_aload_n hx hb dX2_remove_33 rfl (lv_at hl 1 rfl) ?_
        refine lv_aload hx hb dX2_remove_34 (lv_at hl 0 rfl) ?_
        refine cl_X_44 (As := [.ref a]) (rest := []) hx hb hml hown hts hG hw (c_leave l D ct hSt hNb hj hSj hin) rfl ⟨Nat.le_of_ble_eq_true rfl, Nat.le_of_ble_eq_true rfl⟩ hoL hfo hl.1 rfl (Nat.le_of_ble_eq_true rfl) dX2_remove_36 ⟨Nat.le_of_ble_eq_true rfl, Nat.le_of_ble_eq_true rfl⟩ (fun v L' f' H1 locs1 hp hw hcf => ?_)
        obtain ⟨rfl, A', hdel, hch⟩ := hp
        have hX' := hcl N L' f' A' (Nat.le_refl _) hch
        have e1 : A' = jq_del (As i) j := jq_del_of hOk.wf.2.1 hdel
        have esq : sq_rem (As i) j = (1, A') := by rw [sq_rem, hget, e1]
        refine lv_iconst (v := 1) hx hb dX2_remove_39 (by decide) ?_
        exact jx_iret hx hb hrt hlk hw (Nat.le_of_ble_eq_true rfl) (Nat.le_of_ble_eq_true rfl) dX2_remove_40 ⟨by rw [sp_rem_at hi hj, esq], by rw [sp_rem_at hi hj, esq]; exact hX'⟩
      · have hget := hOk.getN habs
        have esq : sq_rem (As i) j = (0, As i) := by rw [sq_rem, hget]
        refine lv_astoreN (lv' := [(4, .null), (3, .ref o), (0, .ref x), (1, .int (nI i)), (2, .int (nI j))]) hx hb dX2_remove_24 hl (by decide) rfl (fun ls hl => ?_)
        refine lv_aloadN hx hb dX2_remove_26 (lv_at hl 0 rfl) ?_
        refine lv_ifnonnullN hx hb dX2_remove_28 ?_
        refine lv_iconst (v := 0) hx hb dX2_remove_31 (by decide) ?_
        exact jx_iret hx hb hrt hlk hw (Nat.le_of_ble_eq_true rfl) (Nat.le_of_ble_eq_true rfl) dX2_remove_32 ⟨by rw [sp_rem_at hi hj, esq], by rw [sp_rem_at hi hj, esq]; show jX N ct x L f (va_up As i (As i)); rw [jq_upSelf]; exact hX⟩
    · refine jx_enter (by decide) (Nat.le_of_ble_eq_true rfl) ?_
      intro p e s m below meth c C hw ls hl
      obtain ⟨hx, hb, hrt, hlk, hnm, hml, hown, hts, hG⟩ := C
      have hl : lv_has ls 5 [(0, .ref x), (1, .int (nI i)), (2, .int mv)] := hl
      obtain ⟨oa, g, o, hd, pa, hr, ps, k, u, PS, qs, S, hxL, haL, hfx, hfa, hgi, hSt, hcl⟩ := hX.opn hi
      refine lv_aload_n hx hb dX2_remove_0 rfl (lv_at hl 0 rfl) ?_
      refine lv_iload_n hx hb dX2_remove_1 rfl (lv_at hl 1 rfl) ?_
      refine cl_X_18 (As := [.int (nI i)]) (rest := []) hx hb hml hown hts hG hw (c_orderOf l D ct hxL haL hfx hfa) rfl ⟨Nat.le_of_ble_eq_true rfl, Nat.le_of_ble_eq_true rfl⟩ hxL hfx hl.1 rfl (Nat.le_of_ble_eq_true rfl) dX2_remove_2 ⟨Nat.le_of_ble_eq_true rfl, Nat.le_of_ble_eq_true rfl⟩ (fun v L' f' H1 locs1 hp hw hcf => ?_)
      obtain ⟨hv, eL, ef⟩ := hp
      rw [eL, ef] at hw
      have hv : v = some (.ref o) := by
        rcases hv with ⟨i2, hi2, e2, e3⟩ | ⟨q, -⟩
        · have e4 : i = i2 := (nI_eq (by omega) (by omega)).mp e2
          rw [e3, ← e4, hgi]
          rfl
        · exact absurd (jq_oI hi).1 q
      subst hv
      obtain ⟨hoL, hpL, hfo, hfp, hV, hOk⟩ := id hSt
      refine lv_astore_n (lv' := [(3, .ref o), (0, .ref x), (1, .int (nI i)), (2, .int mv)]) hx hb dX2_remove_5 rfl hl (by decide) rfl (fun ls hl => ?_)
      refine lv_aload_n hx hb dX2_remove_6 rfl (lv_at hl 0 rfl) ?_
      refine lv_ifnull hx hb dX2_remove_7 ?_
      refine lv_iload_n hx hb dX2_remove_10 rfl (lv_at hl 3 rfl) ?_
      refine cl_X_22 (As := [.int mv]) (rest := []) hx hb hml hown hts hG hw (c_isMember l D ct L f mv) rfl ⟨Nat.le_of_ble_eq_true rfl, Nat.le_of_ble_eq_true rfl⟩ hl.1 rfl (Nat.le_of_ble_eq_true rfl) dX2_remove_11 ⟨Nat.le_of_ble_eq_true rfl, Nat.le_of_ble_eq_true rfl⟩ (fun v L' f' H1 locs1 hp hw hcf => ?_)
      obtain ⟨hv, eL, ef⟩ := hp
      rw [eL, ef] at hw
      have hv : v = some (.int 0) := hv.elim (fun q => absurd q.1 hm) (fun q => q.2)
      subst hv
      refine lv_if_ne (tgt := 19) hx hb dX2_remove_14 (by decide) (fun h => absurd rfl h) (fun _ => ?_)
      refine lv_iconst (v := (-1)) hx hb dX2_remove_17 (by decide) ?_
      exact jx_iret hx hb hrt hlk hw (Nat.le_of_ble_eq_true rfl) (Nat.le_of_ble_eq_true rfl) dX2_remove_18 ⟨by rw [sp_rem, if_neg (fun q => hm q.2)], by rw [sp_rem, if_neg (fun q => hm q.2)]; exact hX⟩
  · refine jx_enter (by decide) (Nat.le_of_ble_eq_true rfl) ?_
    intro p e s m below meth c C hw ls hl
    obtain ⟨hx, hb, hrt, hlk, hnm, hml, hown, hts, hG⟩ := C
    have hl : lv_has ls 5 [(0, .ref x), (1, .int ov), (2, .int mv)] := hl
    have hno := ho
    obtain ⟨oa, g, hxL, haL, hfx, hfa⟩ := hX.base
    refine lv_aload_n hx hb dX2_remove_0 rfl (lv_at hl 0 rfl) ?_
    refine lv_iload_n hx hb dX2_remove_1 rfl (lv_at hl 1 rfl) ?_
    refine cl_X_18 (As := [.int ov]) (rest := []) hx hb hml hown hts hG hw (c_orderOf l D ct hxL haL hfx hfa) rfl ⟨Nat.le_of_ble_eq_true rfl, Nat.le_of_ble_eq_true rfl⟩ hxL hfx hl.1 rfl (Nat.le_of_ble_eq_true rfl) dX2_remove_2 ⟨Nat.le_of_ble_eq_true rfl, Nat.le_of_ble_eq_true rfl⟩ (fun v L' f' H1 locs1 hp hw hcf => ?_)
    obtain ⟨hv, eL, ef⟩ := hp
    rw [eL, ef] at hw
    have hv : v = some .null := hv.elim (fun ⟨i, hi, e, _⟩ => absurd (e ▸ (jq_oI hi).1) hno) (fun q => q.2)
    subst hv
    refine lv_astore_nN (lv' := [(3, .null), (0, .ref x), (1, .int ov), (2, .int mv)]) hx hb dX2_remove_5 rfl hl (by decide) rfl (fun ls hl => ?_)
    refine lv_aload_nN hx hb dX2_remove_6 rfl (lv_at hl 0 rfl) ?_
    refine lv_ifnullN (tgt := 17) hx hb dX2_remove_7 (by decide) ?_
    refine lv_iconst (v := (-1)) hx hb dX2_remove_17 (by decide) ?_
    exact jx_iret hx hb hrt hlk hw (Nat.le_of_ble_eq_true rfl) (Nat.le_of_ble_eq_true rfl) dX2_remove_18 ⟨by rw [sp_rem, if_neg (fun q => ho q.1)], by rw [sp_rem, if_neg (fun q => ho q.1)]; exact hX⟩
