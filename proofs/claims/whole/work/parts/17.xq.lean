theorem jq_rank_of {N : Nat} {k : jK} {u : jS} {PS : List Nat} {hd : Nat} {qs : List Nat} {S : Nat → Option Nat} {As : List (Nat × Int64)} (h : jo_Ok (fun _ => False) N k u PS hd qs S As) {j a : Nat} {p1 p2 : List Nat} (hj : j < 1000) (hSj : S j = some a) (e : qs = p1 ++ a :: p2) : jq_idx As j = p1.length := by
  have hka := (h.tab j a hj hSj).2.2
  have hcl : (k.1 a).toNatClampNeg = j := by rw [hka]; exact nI_clamp (by omega)
  have hnd := h.wf.2.1
  rw [h.eqA, e, List.map_append, List.map_cons] at hnd ⊢
  rw [hcl] at hnd ⊢
  rw [jq_idx_of, List.length_map]
  intro y hy q
  rw [List.map_append, List.map_cons] at hnd
  exact (List.nodup_append.mp hnd).2.2 y.1 (List.mem_map.mpr ⟨y, hy, rfl⟩) j List.mem_cons_self q
/-- what is below, counted -/
theorem jq_below_of {N : Nat} {k : jK} {u : jS} {PS : List Nat} {hd : Nat} {qs : List Nat} {S : Nat → Option Nat} {As : List (Nat × Int64)} (h : jo_Ok (fun _ => False) N k u PS hd qs S As) {sc : Int64} {wd too : Int32} {p1 p2 : List Nat} (e : qs = p1 ++ p2) (h1 : ∀ x ∈ p1, jz_ah (u.1 x) (k.2.1 x) sc wd) (h2 : ∀ x ∈ p2, ¬ jz_ah (u.1 x) (k.2.1 x) sc wd) (hw : (too = 0 ∧ wd = 0) ∨ (¬ too = 0 ∧ wd = 2147483647)) : As.countP (jq_low sc too) = p1.length := by
  have key : ∀ x ∈ qs, (jq_low sc too ((k.1 x).toNatClampNeg, u.1 x) = true ↔ jz_ah (u.1 x) (k.2.1 x) sc wd) := fun x hx => by
    obtain ⟨m, hm, -, -, h4, -⟩ := h.mem hx
    obtain ⟨w1, w2⟩ := jz_wd_lt hm
    rw [h4, jz_word_nI hm]
    rcases hw with ⟨t, rfl⟩ | ⟨t, rfl⟩
    · have hz : ¬ nI (jz_wd m) < 0 := nI_pos (by omega)
      simp [jq_low, jz_ah, t, hz]
    · have hz : nI (jz_wd m) < 2147483647 := (show nI (jz_wd m) < nI 2147483647 from nI_lt (by omega) (by decide))
      simp [jq_low, jz_ah, t, hz]
  rw [h.eqA, e, List.map_append, List.countP_append]
  have c1 : (p1.map (fun a => ((k.1 a).toNatClampNeg, u.1 a))).countP (jq_low sc too) = p1.length := by
    rw [List.countP_eq_length.mpr, List.length_map]
    intro y hy
    obtain ⟨x, hx, rfl⟩ := List.mem_map.mp hy
    exact (key x (by rw [e]; simp [hx])).mpr (h1 x hx)
  have c2 : (p2.map (fun a => ((k.1 a).toNatClampNeg, u.1 a))).countP (jq_low sc too) = 0 := by
    rw [List.countP_eq_zero]
    intro y hy
    obtain ⟨x, hx, rfl⟩ := List.mem_map.mp hy
    exact fun q => h2 x hx ((key x (by rw [e]; simp [hx])).mp q)
  rw [c1, c2]
  rfl
set_option maxHeartbeats 4000000 in
set_option maxRecDepth 100000 in
theorem c_X_clear (l : Launch) (D : va_G) (ct : Nat → ClassId) {N : Nat} {L : List Nat} {f : Nat → va_E} {x : Nat} {As : jq_S} (hX : jX N ct x L f As) (hNb : N < 2 ^ 29) {ov : Int32} :
    jz_M l D ct yX2_clear cX2_clear 3 (some .int) ({ frames := 2, cells := 0, slots := 0, locals := 43 } : Room) [.ref x, .int ov] L f (fun v L' f' => v = some (.int (sp_clr As ov).1) ∧ jX N ct x L' f' (sp_clr As ov).2) := by
  by_cases ho : jq_o ov
  · obtain ⟨i, hi, ei, hcl0⟩ := jq_oN ho
    subst ei
    refine jx_enter (by decide) (Nat.le_of_ble_eq_true rfl) ?_
    intro p e s m below meth c C hw ls hl
    obtain ⟨hx, hb, hrt, hlk, hnm, hml, hown, hts, hG⟩ := C
    have hl : lv_has ls 3 [(0, .ref x), (1, .int (nI i))] := hl
    obtain ⟨oa, g, o, hd, pa, hr, ps, k, u, PS, qs, S, hxL, haL, hfx, hfa, hgi, hSt, hcl⟩ := hX.opn hi
    refine lv_aload_n hx hb dX2_clear_0 rfl (lv_at hl 0 rfl) ?_
    refine lv_iload_n hx hb dX2_clear_1 rfl (lv_at hl 1 rfl) ?_
    refine cl_X_18 (As := [.int (nI i)]) (rest := []) hx hb hml hown hts hG hw (c_orderOf l D ct hxL haL hfx hfa) rfl ⟨Nat.le_of_ble_eq_true rfl, Nat.le_of_ble_eq_true rfl⟩ hxL hfx hl.1 rfl (Nat.le_of_ble_eq_true rfl) dX2_clear_2 ⟨Nat.le_of_ble_eq_true rfl, Nat.le_of_ble_eq_true rfl⟩ (fun v L' f' H1 locs1 hp hw hcf => ?_)
    obtain ⟨hv, eL, ef⟩ := hp
    rw [eL, ef] at hw
    have hv : v = some (.ref o) := by
      rcases hv with ⟨i2, hi2, e2, e3⟩ | ⟨q, -⟩
      · have e4 : i = i2 := (nI_eq (by omega) (by omega)).mp e2
        rw [e3, ← e4, hgi]
        rfl
      · exact absurd (jq_oI hi).1 q
    subst hv
    obtain ⟨hoL, hpL, hfo, hfp, hV, hOk⟩ := id hSt
    refine lv_astore_n (lv' := [(2, .ref o), (0, .ref x), (1, .int (nI i))]) hx hb dX2_clear_5 rfl hl (by decide) rfl (fun ls hl => ?_)
    refine lv_aload_n hx hb dX2_clear_6 rfl (lv_at hl 0 rfl) ?_
    refine lv_ifnonnull (tgt := 14) hx hb dX2_clear_7 (by decide) ?_
    refine lv_aload_n hx hb dX2_clear_14 rfl (lv_at hl 0 rfl) ?_
    refine cl_X_48 (As := []) (rest := []) hx hb hml hown hts hG hw (c_leaveAll l D ct hSt hNb) rfl ⟨Nat.le_of_ble_eq_true rfl, Nat.le_of_ble_eq_true rfl⟩ hoL hfo hl.1 rfl (Nat.le_of_ble_eq_true rfl) dX2_clear_15 ⟨Nat.le_of_ble_eq_true rfl, Nat.le_of_ble_eq_true rfl⟩ (fun v L' f' H1 locs1 hp hw hcf => ?_)
    obtain ⟨rfl, hch⟩ := hp
    have hX' := hcl N L' f' [] (Nat.le_refl _) hch
    have esp : sp_clr As (nI i) = (nI qs.length, va_up As i []) := by rw [sp_clr, if_pos (jq_oI hi).1, (jq_oI hi).2, hOk.lenA]
    exact jx_iret hx hb hrt hlk hw (Nat.le_of_ble_eq_true rfl) (Nat.le_of_ble_eq_true rfl) dX2_clear_18 ⟨by rw [esp], by rw [esp]; exact hX'⟩
  · refine jx_enter (by decide) (Nat.le_of_ble_eq_true rfl) ?_
    intro p e s m below meth c C hw ls hl
    obtain ⟨hx, hb, hrt, hlk, hnm, hml, hown, hts, hG⟩ := C
    have hl : lv_has ls 3 [(0, .ref x), (1, .int ov)] := hl
    have hno := ho
    obtain ⟨oa, g, hxL, haL, hfx, hfa⟩ := hX.base
    refine lv_aload_n hx hb dX2_clear_0 rfl (lv_at hl 0 rfl) ?_
    refine lv_iload_n hx hb dX2_clear_1 rfl (lv_at hl 1 rfl) ?_
    refine cl_X_18 (As := [.int ov]) (rest := []) hx hb hml hown hts hG hw (c_orderOf l D ct hxL haL hfx hfa) rfl ⟨Nat.le_of_ble_eq_true rfl, Nat.le_of_ble_eq_true rfl⟩ hxL hfx hl.1 rfl (Nat.le_of_ble_eq_true rfl) dX2_clear_2 ⟨Nat.le_of_ble_eq_true rfl, Nat.le_of_ble_eq_true rfl⟩ (fun v L' f' H1 locs1 hp hw hcf => ?_)
    obtain ⟨hv, eL, ef⟩ := hp
    rw [eL, ef] at hw
    have hv : v = some .null := hv.elim (fun ⟨i, hi, e, _⟩ => absurd (e ▸ (jq_oI hi).1) hno) (fun q => q.2)
    subst hv
    refine lv_astore_nN (lv' := [(2, .null), (0, .ref x), (1, .int ov)]) hx hb dX2_clear_5 rfl hl (by decide) rfl (fun ls hl => ?_)
    refine lv_aload_nN hx hb dX2_clear_6 rfl (lv_at hl 0 rfl) ?_
    refine lv_ifnonnullN hx hb dX2_clear_7 ?_
    refine lv_iconst (v := (-1)) hx hb dX2_clear_10 (by decide) ?_
    refine lv_goto (tgt := 18) hx hb dX2_clear_11 (by decide) ?_
    exact jx_iret hx hb hrt hlk hw (Nat.le_of_ble_eq_true rfl) (Nat.le_of_ble_eq_true rfl) dX2_clear_18 ⟨by rw [sp_clr, if_neg ho], by rw [sp_clr, if_neg ho]; exact hX⟩
set_option maxHeartbeats 4000000 in
set_option maxRecDepth 100000 in
theorem c_X_size (l : Launch) (D : va_G) (ct : Nat → ClassId) {N : Nat} {L : List Nat} {f : Nat → va_E} {x : Nat} {As : jq_S} (hX : jX N ct x L f As) (hNb : N < 2 ^ 29) {ov : Int32} :
    jz_M l D ct yX2_size cX2_size 3 (some .int) ({ frames := 1, cells := 0, slots := 0, locals := 21 } : Room) [.ref x, .int ov] L f (fun v L' f' => v = some (.int (sp_size As ov)) ∧ jX N ct x L' f' As) := by
  by_cases ho : jq_o ov
  · obtain ⟨i, hi, ei, hcl0⟩ := jq_oN ho
    subst ei
    refine jx_enter (by decide) (Nat.le_of_ble_eq_true rfl) ?_
    intro p e s m below meth c C hw ls hl
    obtain ⟨hx, hb, hrt, hlk, hnm, hml, hown, hts, hG⟩ := C
    have hl : lv_has ls 3 [(0, .ref x), (1, .int (nI i))] := hl
    obtain ⟨oa, g, o, hd, pa, hr, ps, k, u, PS, qs, S, hxL, haL, hfx, hfa, hgi, hSt, hcl⟩ := hX.opn hi
    refine lv_aload_n hx hb dX2_size_0 rfl (lv_at hl 0 rfl) ?_
    refine lv_iload_n hx hb dX2_size_1 rfl (lv_at hl 1 rfl) ?_
    refine cl_X_18 (As := [.int (nI i)]) (rest := []) hx hb hml hown hts hG hw (c_orderOf l D ct hxL haL hfx hfa) rfl ⟨Nat.le_of_ble_eq_true rfl, Nat.le_of_ble_eq_true rfl⟩ hxL hfx hl.1 rfl (Nat.le_of_ble_eq_true rfl) dX2_size_2 ⟨Nat.le_of_ble_eq_true rfl, Nat.le_of_ble_eq_true rfl⟩ (fun v L' f' H1 locs1 hp hw hcf => ?_)
    obtain ⟨hv, eL, ef⟩ := hp
    rw [eL, ef] at hw
    have hv : v = some (.ref o) := by
      rcases hv with ⟨i2, hi2, e2, e3⟩ | ⟨q, -⟩
      · have e4 : i = i2 := (nI_eq (by omega) (by omega)).mp e2
        rw [e3, ← e4, hgi]
        rfl
      · exact absurd (jq_oI hi).1 q
    subst hv
    obtain ⟨hoL, hpL, hfo, hfp, hV, hOk⟩ := id hSt
    refine lv_astore_n (lv' := [(2, .ref o), (0, .ref x), (1, .int (nI i))]) hx hb dX2_size_5 rfl hl (by decide) rfl (fun ls hl => ?_)
    refine lv_aload_n hx hb dX2_size_6 rfl (lv_at hl 0 rfl) ?_
    refine lv_ifnonnull (tgt := 14) hx hb dX2_size_7 (by decide) ?_
    refine lv_aload_n hx hb dX2_size_14 rfl (lv_at hl 0 rfl) ?_
    refine gf_X_69 hx hb hown hts hG hw hoL hfo dX2_size_15 ?_
    exact jx_iret hx hb hrt hlk hw (Nat.le_of_ble_eq_true rfl) (Nat.le_of_ble_eq_true rfl) dX2_size_18 ⟨by rw [sp_size, if_pos (jq_oI hi).1, (jq_oI hi).2, hOk.lenA], hX⟩
  · refine jx_enter (by decide) (Nat.le_of_ble_eq_true rfl) ?_
    intro p e s m below meth c C hw ls hl
    obtain ⟨hx, hb, hrt, hlk, hnm, hml, hown, hts, hG⟩ := C
    have hl : lv_has ls 3 [(0, .ref x), (1, .int ov)] := hl
    have hno := ho
    obtain ⟨oa, g, hxL, haL, hfx, hfa⟩ := hX.base
    refine lv_aload_n hx hb dX2_size_0 rfl (lv_at hl 0 rfl) ?_
    refine lv_iload_n hx hb dX2_size_1 rfl (lv_at hl 1 rfl) ?_
    refine cl_X_18 (As := [.int ov]) (rest := []) hx hb hml hown hts hG hw (c_orderOf l D ct hxL haL hfx hfa) rfl ⟨Nat.le_of_ble_eq_true rfl, Nat.le_of_ble_eq_true rfl⟩ hxL hfx hl.1 rfl (Nat.le_of_ble_eq_true rfl) dX2_size_2 ⟨Nat.le_of_ble_eq_true rfl, Nat.le_of_ble_eq_true rfl⟩ (fun v L' f' H1 locs1 hp hw hcf => ?_)
    obtain ⟨hv, eL, ef⟩ := hp
    rw [eL, ef] at hw
    have hv : v = some .null := hv.elim (fun ⟨i, hi, e, _⟩ => absurd (e ▸ (jq_oI hi).1) hno) (fun q => q.2)
    subst hv
    refine lv_astore_nN (lv' := [(2, .null), (0, .ref x), (1, .int ov)]) hx hb dX2_size_5 rfl hl (by decide) rfl (fun ls hl => ?_)
    refine lv_aload_nN hx hb dX2_size_6 rfl (lv_at hl 0 rfl) ?_
    refine lv_ifnonnullN hx hb dX2_size_7 ?_
    refine lv_iconst (v := (-1)) hx hb dX2_size_10 (by decide) ?_
    refine lv_goto (tgt := 18) hx hb dX2_size_11 (by decide) ?_
    exact jx_iret hx hb hrt hlk hw (Nat.le_of_ble_eq_true rfl) (Nat.le_of_ble_eq_true rfl) dX2_size_18 ⟨by rw [sp_size, if_neg ho], hX⟩
set_option maxHeartbeats 4000000 in
set_option maxRecDepth 100000 in
theorem c_X_score (l : Launch) (D : va_G) (ct : Nat → ClassId) {N : Nat} {L : List Nat} {f : Nat → va_E} {x : Nat} {As : jq_S} (hX : jX N ct x L f As) (hNb : N < 2 ^ 29) {ov mv : Int32} :
    jz_M l D ct yX2_score cX2_score 5 (some .long) ({ frames := 2, cells := 0, slots := 0, locals := 42 } : Room) [.ref x, .int ov, .int mv] L f (fun v L' f' => v = some (.long (sp_score As ov mv)) ∧ jX N ct x L' f' As) := by
  by_cases ho : jq_o ov
  · obtain ⟨i, hi, ei, hcl0⟩ := jq_oN ho
    subst ei
    by_cases hm : jq_m mv
    · obtain ⟨j, hj, ej, hcl1⟩ := jq_mN hm
      subst ej
      refine jx_enter (by decide) (Nat.le_of_ble_eq_true rfl) ?_
      intro p e s m below meth c C hw ls hl
      obtain ⟨hx, hb, hrt, hlk, hnm, hml, hown, hts, hG⟩ := C
      have hl : lv_has ls 5 [(0, .ref x), (1, .int (nI i)), (2, .int (nI j))] := hl
      obtain ⟨oa, g, o, hd, pa, hr, ps, k, u, PS, qs, S, hxL, haL, hfx, hfa, hgi, hSt, hcl⟩ := hX.opn hi
      refine lv_aload_n hx hb dX2_score_0 rfl (lv_at hl 0 rfl) ?_
      refine lv_iload_n hx hb dX2_score_1 rfl (lv_at hl 1 rfl) ?_
      refine cl_X_18 (As := [.int (nI i)]) (rest := []) hx hb hml hown hts hG hw (c_orderOf l D ct hxL haL hfx hfa) rfl ⟨Nat.le_of_ble_eq_true rfl, Nat.le_of_ble_eq_true rfl⟩ hxL hfx hl.1 rfl (Nat.le_of_ble_eq_true rfl) dX2_score_2 ⟨Nat.le_of_ble_eq_true rfl, Nat.le_of_ble_eq_true rfl⟩ (fun v L' f' H1 locs1 hp hw hcf => ?_)
      obtain ⟨hv, eL, ef⟩ := hp
      rw [eL, ef] at hw
      have hv : v = some (.ref o) := by
        rcases hv with ⟨i2, hi2, e2, e3⟩ | ⟨q, -⟩
        · have e4 : i = i2 := (nI_eq (by omega) (by omega)).mp e2
          rw [e3, ← e4, hgi]
          rfl
        · exact absurd (jq_oI hi).1 q
      subst hv
      obtain ⟨hoL, hpL, hfo, hfp, hV, hOk⟩ := id hSt
      refine lv_astore_n (lv' := [(3, .ref o), (0, .ref x), (1, .int (nI i)), (2, .int (nI j))]) hx hb dX2_score_5 rfl hl (by decide) rfl (fun ls hl => ?_)
      refine lv_aload_n hx hb dX2_score_6 rfl (lv_at hl 0 rfl) ?_
      refine lv_ifnull hx hb dX2_score_7 ?_
      refine lv_iload_n hx hb dX2_score_10 rfl (lv_at hl 3 rfl) ?_
      refine cl_X_22 (As := [.int (nI j)]) (rest := []) hx hb hml hown hts hG hw (c_isMember l D ct L f (nI j)) rfl ⟨Nat.le_of_ble_eq_true rfl, Nat.le_of_ble_eq_true rfl⟩ hl.1 rfl (Nat.le_of_ble_eq_true rfl) dX2_score_11 ⟨Nat.le_of_ble_eq_true rfl, Nat.le_of_ble_eq_true rfl⟩ (fun v L' f' H1 locs1 hp hw hcf => ?_)
      obtain ⟨hv, eL, ef⟩ := hp
      rw [eL, ef] at hw
      have hv : v = some (.int 1) := hv.elim (fun q => q.2) (fun q => absurd (jq_mI hj).1 q.1)
      subst hv
      refine lv_if_ne (tgt := 21) hx hb dX2_score_14 (by decide) (fun _ => ?_) (fun h => absurd h (by decide))
      refine lv_aload_n hx hb dX2_score_21 rfl (lv_at hl 0 rfl) ?_
      refine lv_iload_n hx hb dX2_score_22 rfl (lv_at hl 3 rfl) ?_
      refine cl_X_26 (As := [.int (nI j)]) (rest := []) hx hb hml hown hts hG hw (c_placeOf l D ct hV hoL hfo hpL hfp hj (fun a q => (hOk.tab j a hj q).1)) rfl ⟨Nat.le_of_ble_eq_true rfl, Nat.le_of_ble_eq_true rfl⟩ hoL hfo hl.1 rfl (Nat.le_of_ble_eq_true rfl) dX2_score_23 ⟨Nat.le_of_ble_eq_true rfl, Nat.le_of_ble_eq_true rfl⟩ (fun v L' f' H1 locs1 hp hw hcf => ?_)
      obtain ⟨hv, eL, ef⟩ := hp
      rw [eL, ef] at hw
      have esp : sp_score As (nI i) (nI j) = (jq_get (As i) j).getD 0 := by rw [sp_score, if_pos ⟨(jq_oI hi).1, (jq_mI hj).1⟩, (jq_oI hi).2, (jq_mI hj).2]
      rcases hv with ⟨a, hSj, hin, rfl⟩ | ⟨habs, rfl⟩
      · obtain ⟨hget, haq⟩ := hOk.getS hj hSj hin
        have haP := (hOk.tab j a hj hSj).1
        refine lv_astore (lv' := [(4, .ref a), (3, .ref o), (0, .ref x), (1, .int (nI i)), (2, .int (nI j))]) hx hb dX2_score_26 hl (by decide) rfl (fun ls hl => ?_)
        refine lv_aload hx hb dX2_score_28 (lv_at hl 0 rfl) ?_
        refine lv_ifnonnull (tgt := 37) hx hb dX2_score_30 (by decide) ?_
        refine lv_aload hx hb dX2_score_37 (lv_at hl 0 rfl) ?_
        refine gf_X_34 hx hb hown hts hG hw (hV.aL haP) (hV.a haP) dX2_score_39 ?_
        exact jx_lret hx hb hrt hlk hw (Nat.le_of_ble_eq_true rfl) (Nat.le_of_ble_eq_true rfl) dX2_score_42 ⟨by rw [esp, hget]; rfl, hX⟩
      · have hget := hOk.getN habs
        refine lv_astoreN (lv' := [(4, .null), (3, .ref o), (0, .ref x), (1, .int (nI i)), (2, .int (nI j))]) hx hb dX2_score_26 hl (by decide) rfl (fun ls hl => ?_)
        refine lv_aloadN hx hb dX2_score_28 (lv_at hl 0 rfl) ?_
        refine lv_ifnonnullN hx hb dX2_score_30 ?_
        refine lv_lconst (v := 0) hx hb dX2_score_33 (by decide) ?_
        refine lv_goto (tgt := 42) hx hb dX2_score_34 (by decide) ?_
        exact jx_lret hx hb hrt hlk hw (Nat.le_of_ble_eq_true rfl) (Nat.le_of_ble_eq_true rfl) dX2_score_42 ⟨by rw [esp, hget]; rfl, hX⟩
    · refine jx_enter (by decide) (Nat.le_of_ble_eq_true rfl) ?_
      intro p e s m below meth c C hw ls hl
      obtain ⟨hx, hb, hrt, hlk, hnm, hml, hown, hts, hG⟩ := C
      have hl : lv_has ls 5 [(0, .ref x), (1, .int (nI i)), (2, .int mv)] := hl
      obtain ⟨oa, g, o, hd, pa, hr, ps, k, u, PS, qs, S, hxL, haL, hfx, hfa, hgi, hSt, hcl⟩ := hX.opn hi
      refine lv_aload_n hx hb dX2_score_0 rfl (lv_at hl 0 rfl) ?_
      refine lv_iload_n hx hb dX2_score_1 rfl (lv_at hl 1 rfl) ?_
      refine cl_X_18 (As := [.int (nI i)]) (rest := []) hx hb hml hown hts hG hw (c_orderOf l D ct hxL haL hfx hfa) rfl ⟨Nat.le_of_ble_eq_true rfl, Nat.le_of_ble_eq_true rfl⟩ hxL hfx hl.1 rfl (Nat.le_of_ble_eq_true rfl) dX2_score_2 ⟨Nat.le_of_ble_eq_true rfl, Nat.le_of_ble_eq_true rfl⟩ (fun v L' f' H1 locs1 hp hw hcf => ?_)
      obtain ⟨hv, eL, ef⟩ := hp
      rw [eL, ef] at hw
      have hv : v = some (.ref o) := by
        rcases hv with ⟨i2, hi2, e2, e3⟩ | ⟨q, -⟩
        · have e4 : i = i2 := (nI_eq (by omega) (by omega)).mp e2
          rw [e3, ← e4, hgi]
          rfl
        · exact absurd (jq_oI hi).1 q
      subst hv
      obtain ⟨hoL, hpL, hfo, hfp, hV, hOk⟩ := id hSt
      refine lv_astore_n (lv' := [(3, .ref o), (0, .ref x), (1, .int (nI i)), (2, .int mv)]) hx hb dX2_score_5 rfl hl (by decide) rfl (fun ls hl => ?_)
      refine lv_aload_n hx hb dX2_score_6 rfl (lv_at hl 0 rfl) ?_
      refine lv_ifnull hx hb dX2_score_7 ?_
      refine lv_iload_n hx hb dX2_score_10 rfl (lv_at hl 3 rfl) ?_
      refine cl_X_22 (As := [.int mv]) (rest := []) hx hb hml hown hts hG hw (c_isMember l D ct L f mv) rfl ⟨Nat.le_of_ble_eq_true rfl, Nat.le_of_ble_eq_true rfl⟩ hl.1 rfl (Nat.le_of_ble_eq_true rfl) dX2_score_11 ⟨Nat.le_of_ble_eq_true rfl, Nat.le_of_ble_eq_true rfl⟩ (fun v L' f' H1 locs1 hp hw hcf => ?_)
      obtain ⟨hv, eL, ef⟩ := hp
      rw [eL, ef] at hw
      have hv : v = some (.int 0) := hv.elim (fun q => absurd q.1 hm) (fun q => q.2)
      subst hv
      refine lv_if_ne (tgt := 21) hx hb dX2_score_14 (by decide) (fun h => absurd rfl h) (fun _ => ?_)
      refine lv_ldc2 (own := RX2) (v := -1) hx hb hown (hts (.constantLong RX2 52 (-1)) (by decide +kernel)) dX2_score_17 ?_
      exact jx_lret hx hb hrt hlk hw (Nat.le_of_ble_eq_true rfl) (Nat.le_of_ble_eq_true rfl) dX2_score_20 ⟨by rw [sp_score, if_neg (fun q => hm q.2)], hX⟩
  · refine jx_enter (by decide) (Nat.le_of_ble_eq_true rfl) ?_
    intro p e s m below meth c C hw ls hl
    obtain ⟨hx, hb, hrt, hlk, hnm, hml, hown, hts, hG⟩ := C
    have hl : lv_has ls 5 [(0, .ref x), (1, .int ov), (2, .int mv)] := hl
    have hno := ho
    obtain ⟨oa, g, hxL, haL, hfx, hfa⟩ := hX.base
    refine lv_aload_n hx hb dX2_score_0 rfl (lv_at hl 0 rfl) ?_
    refine lv_iload_n hx hb dX2_score_1 rfl (lv_at hl 1 rfl) ?_
    refine cl_X_18 (As := [.int ov]) (rest := []) hx hb hml hown hts hG hw (c_orderOf l D ct hxL haL hfx hfa) rfl ⟨Nat.le_of_ble_eq_true rfl, Nat.le_of_ble_eq_true rfl⟩ hxL hfx hl.1 rfl (Nat.le_of_ble_eq_true rfl) dX2_score_2 ⟨Nat.le_of_ble_eq_true rfl, Nat.le_of_ble_eq_true rfl⟩ (fun v L' f' H1 locs1 hp hw hcf => ?_)
    obtain ⟨hv, eL, ef⟩ := hp
    rw [eL, ef] at hw
    have hv : v = some .null := hv.elim (fun ⟨i, hi, e, _⟩ => absurd (e ▸ (jq_oI hi).1) hno) (fun q => q.2)
    subst hv
    refine lv_astore_nN (lv' := [(3, .null), (0, .ref x), (1, .int ov), (2, .int mv)]) hx hb dX2_score_5 rfl hl (by decide) rfl (fun ls hl => ?_)
    refine lv_aload_nN hx hb dX2_score_6 rfl (lv_at hl 0 rfl) ?_
    refine lv_ifnullN (tgt := 17) hx hb dX2_score_7 (by decide) ?_
    refine lv_ldc2 (own := RX2) (v := -1) hx hb hown (hts (.constantLong RX2 52 (-1)) (by decide +kernel)) dX2_score_17 ?_
    exact jx_lret hx hb hrt hlk hw (Nat.le_of_ble_eq_true rfl) (Nat.le_of_ble_eq_true rfl) dX2_score_20 ⟨by rw [sp_score, if_neg (fun q => ho q.1)], hX⟩
set_option maxHeartbeats 4000000 in
set_option maxRecDepth 100000 in
theorem c_X_rank (l : Launch) (D : va_G) (ct : Nat → ClassId) {N : Nat} {L : List Nat} {f : Nat → va_E} {x : Nat} {As : jq_S} (hX : jX N ct x L f As) (hNb : N < 2 ^ 29) {ov mv : Int32} :
    jz_M l D ct yX2_rank cX2_rank 5 (some .int) ({ frames := 2, cells := 0, slots := 0, locals := 48 } : Room) [.ref x, .int ov, .int mv] L f (fun v L' f' => v = some (.int (sp_rank As ov mv)) ∧ jX N ct x L' f' As) := by
  by_cases ho : jq_o ov
  · obtain ⟨i, hi, ei, hcl0⟩ := jq_oN ho
    subst ei
    by_cases hm : jq_m mv
    · obtain ⟨j, hj, ej, hcl1⟩ := jq_mN hm
      subst ej
      refine jx_enter (by decide) (Nat.le_of_ble_eq_true rfl) ?_
      intro p e s m below meth c C hw ls hl
      obtain ⟨hx, hb, hrt, hlk, hnm, hml, hown, hts, hG⟩ := C
      have hl : lv_has ls 5 [(0, .ref x), (1, .int (nI i)), (2, .int (nI j))] := hl
      obtain ⟨oa, g, o, hd, pa, hr, ps, k, u, PS, qs, S, hxL, haL, hfx, hfa, hgi, hSt, hcl⟩ := hX.opn hi
      refine lv_aload_n hx hb dX2_rank_0 rfl (lv_at hl 0 rfl) ?_
      refine lv_iload_n hx hb dX2_rank_1 rfl (lv_at hl 1 rfl) ?_
      refine cl_X_18 (As := [.int (nI i)]) (rest := []) hx hb hml hown hts hG hw (c_orderOf l D ct hxL haL hfx hfa) rfl ⟨Nat.le_of_ble_eq_true rfl, Nat.le_of_ble_eq_true rfl⟩ hxL hfx hl.1 rfl (Nat.le_of_ble_eq_true rfl) dX2_rank_2 ⟨Nat.le_of_ble_eq_true rfl, Nat.le_of_ble_eq_true rfl⟩ (fun v L' f' H1 locs1 hp hw hcf => ?_)
      obtain ⟨hv, eL, ef⟩ := hp
      rw [eL, ef] at hw
      have hv : v = some (.ref o) := by
        rcases hv with ⟨i2, hi2, e2, e3⟩ | ⟨q, -⟩
        · have e4 : i = i2 := (nI_eq (by omega) (by omega)).mp e2
          rw [e3, ← e4, hgi]
          rfl
        · exact absurd (jq_oI hi).1 q
      subst hv
      obtain ⟨hoL, hpL, hfo, hfp, hV, hOk⟩ := id hSt
      refine lv_astore_n (lv' := [(3, .ref o), (0, .ref x), (1, .int (nI i)), (2, .int (nI j))]) hx hb dX2_rank_5 rfl hl (by decide) rfl (fun ls hl => ?_)
      refine lv_aload_n hx hb dX2_rank_6 rfl (lv_at hl 0 rfl) ?_
      refine lv_ifnull hx hb dX2_rank_7 ?_
      refine lv_iload_n hx hb dX2_rank_10 rfl (lv_at hl 3 rfl) ?_
      refine cl_X_22 (As := [.int (nI j)]) (rest := []) hx hb hml hown hts hG hw (c_isMember l D ct L f (nI j)) rfl ⟨Nat.le_of_ble_eq_true rfl, Nat.le_of_ble_eq_true rfl⟩ hl.1 rfl (Nat.le_of_ble_eq_true rfl) dX2_rank_11 ⟨Nat.le_of_ble_eq_true rfl, Nat.le_of_ble_eq_true rfl⟩ (fun v L' f' H1 locs1 hp hw hcf => ?_)
      obtain ⟨hv, eL, ef⟩ := hp
      rw [eL, ef] at hw
      have hv : v = some (.int 1) := hv.elim (fun q => q.2) (fun q => absurd (jq_mI hj).1 q.1)
      subst hv
      refine lv_if_ne (tgt := 19) hx hb dX2_rank_14 (by decide) (fun _ => ?_) (fun h => absurd h (by decide))
      refine lv_aload_n hx hb dX2_rank_19 rfl (lv_at hl 0 rfl) ?_
      refine lv_iload_n hx hb dX2_rank_20 rfl (lv_at hl 3 rfl) ?_
      refine cl_X_26 (As := [.int (nI j)]) (rest := []) hx hb hml hown hts hG hw (c_placeOf l D ct hV hoL hfo hpL hfp hj (fun a q => (hOk.tab j a hj q).1)) rfl ⟨Nat.le_of_ble_eq_true rfl, Nat.le_of_ble_eq_true rfl⟩ hoL hfo hl.1 rfl (Nat.le_of_ble_eq_true rfl) dX2_rank_21 ⟨Nat.le_of_ble_eq_true rfl, Nat.le_of_ble_eq_true rfl⟩ (fun v L' f' H1 locs1 hp hw hcf => ?_)
      obtain ⟨hv, eL, ef⟩ := hp
      rw [eL, ef] at hw
      rcases hv with ⟨a, hSj, hin, rfl⟩ | ⟨habs, rfl⟩
      · obtain ⟨hget, haq⟩ := hOk.getS hj hSj hin
        have haP := (hOk.tab j a hj hSj).1
        obtain ⟨p1, p2, eqs, hA1, hA2, -⟩ := hOk.del hj hSj haq
        have esp : sp_rank As (nI i) (nI j) = nI p1.length := by rw [sp_rank, if_pos ⟨(jq_oI hi).1, (jq_mI hj).1⟩, (jq_oI hi).2, (jq_mI hj).2, hget, jq_rank_of hOk hj hSj eqs]
        refine lv_astore (lv' := [(4, .ref a), (3, .ref o), (0, .ref x), (1, .int (nI i)), (2, .int (nI j))]) hx hb dX2_rank_24 hl (by decide) rfl (fun ls hl => ?_)
        refine lv_aload hx hb dX2_rank_26 (lv_at hl 0 rfl) ?_
        refine lv_ifnonnull (tgt := 35) hx hb dX2_rank_28 (by decide) ?_
        refine lv_aload_n hx hb dX2_rank_35 rfl (lv_at hl 1 rfl) ?_
        refine lv_aload hx hb dX2_rank_36 (lv_at hl 0 rfl) ?_
        refine gf_X_34 hx hb hown hts hG hw (hV.aL haP) (hV.a haP) dX2_rank_38 ?_
        refine lv_aload hx hb dX2_rank_41 (lv_at hl 0 rfl) ?_
        refine gf_X_54 hx hb hown hts hG hw (hV.aL haP) (hV.a haP) dX2_rank_43 ?_
        have hN : jo_N k PS o := hV.nO (by decide) hfo
        have ef0 : va_up f o (jo_eO hd pa (nI qs.length) hr ps) = f := jz_self hfo
        have hlenN := hOk.len
        rw [← ef0] at hw
        refine cl_X_58 (As := [.long (u.1 a), .int (k.2.1 a)]) (rest := []) hx hb hml hown hts hG hw (c_countAheadOf l D ct (f0 := f) (ns := hd :: qs) hV hN hoL (by rw [eqs]) hOk.sub (by simp only [List.length_cons]; omega) hOk.rows hOk.1.2 hOk.h1 hA1 hA2) rfl ⟨Nat.le_of_ble_eq_true rfl, Nat.le_of_ble_eq_true rfl⟩ hoL (va_up_self _ _ _) hl.1 rfl (Nat.le_of_ble_eq_true rfl) dX2_rank_46 ⟨Nat.le_of_ble_eq_true rfl, Nat.le_of_ble_eq_true rfl⟩ (fun v L' f' H1 locs1 hp hw hcf => ?_)
        obtain ⟨rfl, eL, hr', ps', ef⟩ := hp
        rw [eL, ef, ef0] at hw
        have hX' := hcl N L _ (As i) (Nat.le_refl _) (hSt.same hr' ps')
        rw [jq_upSelf] at hX'
        exact jx_iret hx hb hrt hlk hw (Nat.le_of_ble_eq_true rfl) (Nat.le_of_ble_eq_true rfl) dX2_rank_49 ⟨by rw [esp], hX'⟩
      · have hget := hOk.getN habs
        have esp : sp_rank As (nI i) (nI j) = -1 := by rw [sp_rank, if_pos ⟨(jq_oI hi).1, (jq_mI hj).1⟩, (jq_oI hi).2, (jq_mI hj).2, hget]
        refine lv_astoreN (lv' := [(4, .null), (3, .ref o), (0, .ref x), (1, .int (nI i)), (2, .int (nI j))]) hx hb dX2_rank_24 hl (by decide) rfl (fun ls hl => ?_)
        refine lv_aloadN hx hb dX2_rank_26 (lv_at hl 0 rfl) ?_
        refine lv_ifnonnullN hx hb dX2_rank_28 ?_
        refine lv_iconst (v := (-1)) hx hb dX2_rank_31 (by decide) ?_
        refine lv_goto (tgt := 49) hx hb dX2_rank_32 (by decide) ?_
        exact jx_iret hx hb hrt hlk hw (Nat.le_of_ble_eq_true rfl) (Nat.le_of_ble_eq_true rfl) dX2_rank_49 ⟨by rw [esp], hX⟩
    · refine jx_enter (by decide) (Nat.le_of_ble_eq_true rfl) ?_
      intro p e s m below meth c C hw ls hl
      obtain ⟨hx, hb, hrt, hlk, hnm, hml, hown, hts, hG⟩ := C
      have hl : lv_has ls 5 [(0, .ref x), (1, .int (nI i)), (2, .int mv)] := hl
      obtain ⟨oa, g, o, hd, pa, hr, ps, k, u, PS, qs, S, hxL, haL, hfx, hfa, hgi, hSt, hcl⟩ := hX.opn hi
      refine lv_aload_n hx hb dX2_rank_0 rfl (lv_at hl 0 rfl) ?_
      refine lv_iload_n hx hb dX2_rank_1 rfl (lv_at hl 1 rfl) ?_
      refine cl_X_18 (As := [.int (nI i)]) (rest := []) hx hb hml hown hts hG hw (c_orderOf l D ct hxL haL hfx hfa) rfl ⟨Nat.le_of_ble_eq_true rfl, Nat.le_of_ble_eq_true rfl⟩ hxL hfx hl.1 rfl (Nat.le_of_ble_eq_true rfl) dX2_rank_2 ⟨Nat.le_of_ble_eq_true rfl, Nat.le_of_ble_eq_true rfl⟩ (fun v L' f' H1 locs1 hp hw hcf => ?_)
      obtain ⟨hv, eL, ef⟩ := hp
      rw [eL, ef] at hw
      have hv : v = some (.ref o) := by
        rcases hv with ⟨i2, hi2, e2, e3⟩ | ⟨q, -⟩
        · have e4 : i = i2 := (nI_eq (by omega) (by omega)).mp e2
          rw [e3, ← e4, hgi]
          rfl
        · exact absurd (jq_oI hi).1 q
      subst hv
      obtain ⟨hoL, hpL, hfo, hfp, hV, hOk⟩ := id hSt
      refine lv_astore_n (lv' := [(3, .ref o), (0, .ref x), (1, .int (nI i)), (2, .int mv)]) hx hb dX2_rank_5 rfl hl (by decide) rfl (fun ls hl => ?_)
      refine lv_aload_n hx hb dX2_rank_6 rfl (lv_at hl 0 rfl) ?_
      refine lv_ifnull hx hb dX2_rank_7 ?_
      refine lv_iload_n hx hb dX2_rank_10 rfl (lv_at hl 3 rfl) ?_
      refine cl_X_22 (As := [.int mv]) (rest := []) hx hb hml hown hts hG hw (c_isMember l D ct L f mv) rfl ⟨Nat.le_of_ble_eq_true rfl, Nat.le_of_ble_eq_true rfl⟩ hl.1 rfl (Nat.le_of_ble_eq_true rfl) dX2_rank_11 ⟨Nat.le_of_ble_eq_true rfl, Nat.le_of_ble_eq_true rfl⟩ (fun v L' f' H1 locs1 hp hw hcf => ?_)
      obtain ⟨hv, eL, ef⟩ := hp
      rw [eL, ef] at hw
      have hv : v = some (.int 0) := hv.elim (fun q => absurd q.1 hm) (fun q => q.2)
      subst hv
      refine lv_if_ne (tgt := 19) hx hb dX2_rank_14 (by decide) (fun h => absurd rfl h) (fun _ => ?_)
      refine lv_iconst (v := (-1)) hx hb dX2_rank_17 (by decide) ?_
      exact jx_iret hx hb hrt hlk hw (Nat.le_of_ble_eq_true rfl) (Nat.le_of_ble_eq_true rfl) dX2_rank_18 ⟨by rw [sp_rank, if_neg (fun q => hm q.2)], hX⟩
  · refine jx_enter (by decide) (Nat.le_of_ble_eq_true rfl) ?_
    intro p e s m below meth c C hw ls hl
    obtain ⟨hx, hb, hrt, hlk, hnm, hml, hown, hts, hG⟩ := C
    have hl : lv_has ls 5 [(0, .ref x), (1, .int ov), (2, .int mv)] := hl
    have hno := ho
    obtain ⟨oa, g, hxL, haL, hfx, hfa⟩ := hX.base
    refine lv_aload_n hx hb dX2_rank_0 rfl (lv_at hl 0 rfl) ?_
    refine lv_iload_n hx hb dX2_rank_1 rfl (lv_at hl 1 rfl) ?_
    refine cl_X_18 (As := [.int ov]) (rest := []) hx hb hml hown hts hG hw (c_orderOf l D ct hxL haL hfx hfa) rfl ⟨Nat.le_of_ble_eq_true rfl, Nat.le_of_ble_eq_true rfl⟩ hxL hfx hl.1 rfl (Nat.le_of_ble_eq_true rfl) dX2_rank_2 ⟨Nat.le_of_ble_eq_true rfl, Nat.le_of_ble_eq_true rfl⟩ (fun v L' f' H1 locs1 hp hw hcf => ?_)
    obtain ⟨hv, eL, ef⟩ := hp
    rw [eL, ef] at hw
    have hv : v = some .null := hv.elim (fun ⟨i, hi, e, _⟩ => absurd (e ▸ (jq_oI hi).1) hno) (fun q => q.2)
    subst hv
    refine lv_astore_nN (lv' := [(3, .null), (0, .ref x), (1, .int ov), (2, .int mv)]) hx hb dX2_rank_5 rfl hl (by decide) rfl (fun ls hl => ?_)
    refine lv_aload_nN hx hb dX2_rank_6 rfl (lv_at hl 0 rfl) ?_
    refine lv_ifnullN (tgt := 17) hx hb dX2_rank_7 (by decide) ?_
    refine lv_iconst (v := (-1)) hx hb dX2_rank_17 (by decide) ?_
    exact jx_iret hx hb hrt hlk hw (Nat.le_of_ble_eq_true rfl) (Nat.le_of_ble_eq_true rfl) dX2_rank_18 ⟨by rw [sp_rank, if_neg (fun q => ho q.1)], hX⟩
set_option maxHeartbeats 4000000 in
set_option maxRecDepth 100000 in
theorem c_X_at (l : Launch) (D : va_G) (ct : Nat → ClassId) {N : Nat} {L : List Nat} {f : Nat → va_E} {x : Nat} {As : jq_S} (hX : jX N ct x L f As) (hNb : N < 2 ^ 29) {ov rv : Int32} :
    jz_M l D ct yX2_at cX2_at 5 (some .int) ({ frames := 2, cells := 0, slots := 0, locals := 45 } : Room) [.ref x, .int ov, .int rv] L f (fun v L' f' => v = some (.int (sp_at As ov rv)) ∧ jX N ct x L' f' As) := by
  by_cases ho : jq_o ov
  · obtain ⟨i, hi, ei, hcl0⟩ := jq_oN ho
    subst ei
    refine jx_enter (by decide) (Nat.le_of_ble_eq_true rfl) ?_
    intro p e s m below meth c C hw ls hl
    obtain ⟨hx, hb, hrt, hlk, hnm, hml, hown, hts, hG⟩ := C
    have hl : lv_has ls 5 [(0, .ref x), (1, .int (nI i)), (2, .int rv)] := hl
    obtain ⟨oa, g, o, hd, pa, hr, ps, k, u, PS, qs, S, hxL, haL, hfx, hfa, hgi, hSt, hcl⟩ := hX.opn hi
    refine lv_aload_n hx hb dX2_at_0 rfl (lv_at hl 0 rfl) ?_
    refine lv_iload_n hx hb dX2_at_1 rfl (lv_at hl 1 rfl) ?_
    refine cl_X_18 (As := [.int (nI i)]) (rest := []) hx hb hml hown hts hG hw (c_orderOf l D ct hxL haL hfx hfa) rfl ⟨Nat.le_of_ble_eq_true rfl, Nat.le_of_ble_eq_true rfl⟩ hxL hfx hl.1 rfl (Nat.le_of_ble_eq_true rfl) dX2_at_2 ⟨Nat.le_of_ble_eq_true rfl, Nat.le_of_ble_eq_true rfl⟩ (fun v L' f' H1 locs1 hp hw hcf => ?_)
    obtain ⟨hv, eL, ef⟩ := hp
    rw [eL, ef] at hw
    have hv : v = some (.ref o) := by
      rcases hv with ⟨i2, hi2, e2, e3⟩ | ⟨q, -⟩
      · have e4 : i = i2 := (nI_eq (by omega) (by omega)).mp e2
        rw [e3, ← e4, hgi]
        rfl
      · exact absurd (jq_oI hi).1 q
    subst hv
    obtain ⟨hoL, hpL, hfo, hfp, hV, hOk⟩ := id hSt
    refine lv_astore_n (lv' := [(3, .ref o), (0, .ref x), (1, .int (nI i)), (2, .int rv)]) hx hb dX2_at_5 rfl hl (by decide) rfl (fun ls hl => ?_)
    refine lv_aload_n hx hb dX2_at_6 rfl (lv_at hl 0 rfl) ?_
    refine lv_ifnonnull (tgt := 12) hx hb dX2_at_7 (by decide) ?_
    refine lv_aload_n hx hb dX2_at_12 rfl (lv_at hl 0 rfl) ?_
    refine lv_iload_n hx hb dX2_at_13 rfl (lv_at hl 3 rfl) ?_
    have hN : jo_N k PS o := hV.nO (by decide) hfo
    have ef0 : va_up f o (jo_eO hd pa (nI qs.length) hr ps) = f := jz_self hfo
    have hlenN := hOk.len
    rw [← ef0] at hw
    refine cl_X_62 (As := [.int rv]) (rest := []) hx hb hml hown hts hG hw (c_placeOfRank l D ct (f0 := f) (ns := hd :: qs) hV hN hoL hOk.sub (by simp only [List.length_cons]; omega) hOk.rows hOk.h1 rfl hOk.1.2) rfl ⟨Nat.le_of_ble_eq_true rfl, Nat.le_of_ble_eq_true rfl⟩ hoL (va_up_self _ _ _) hl.1 rfl (Nat.le_of_ble_eq_true rfl) dX2_at_14 ⟨Nat.le_of_ble_eq_true rfl, Nat.le_of_ble_eq_true rfl⟩ (fun v L' f' H1 locs1 hp hw hcf => ?_)
    obtain ⟨eL, ⟨hr', ps', ef⟩, hv⟩ := hp
    rw [eL, ef, ef0] at hw
    have hX' := hcl N L _ (As i) (Nat.le_refl _) (hSt.same hr' ps')
    rw [jq_upSelf] at hX'
    rcases hv with ⟨t, a, rfl, hqt, rfl⟩ | ⟨hout, rfl⟩
    · have haq : a ∈ qs := List.mem_of_getElem? hqt
      have haP : a ∈ PS := hOk.2.2.1 a haq
      have htl : t < qs.length := (List.getElem?_eq_some_iff.mp hqt).1
      obtain ⟨m0, hm0, -, hka, -, hkc⟩ := hOk.mem haq
      have eAt : (As i)[t]? = some (m0, u.1 a) := by rw [hOk.eqA, List.getElem?_map, hqt, Option.map_some, hkc]
      have esp : sp_at As (nI i) (nI t) = k.1 a := by rw [sp_at, if_pos ⟨(jq_oI hi).1, nI_pos' (by omega), by rw [(jq_oI hi).2, hOk.lenA]; exact nI_lt htl (by omega)⟩, (jq_oI hi).2, nI_clamp (by omega), eAt, hka]
      refine lv_astore (lv' := [(4, .ref a), (3, .ref o), (0, .ref x), (1, .int (nI i)), (2, .int (nI t))]) hx hb dX2_at_17 hl (by decide) rfl (fun ls hl => ?_)
      refine lv_aload hx hb dX2_at_19 (lv_at hl 0 rfl) ?_
      refine lv_ifnonnull (tgt := 28) hx hb dX2_at_21 (by decide) ?_
      refine lv_aload hx hb dX2_at_28 (lv_at hl 0 rfl) ?_
      refine gf_X_65 hx hb hown hts hG hw ((hV.up (e := jo_eO hd pa (nI qs.length) hr' ps') hN).aL haP) ((hV.up (e := jo_eO hd pa (nI qs.length) hr' ps') hN).a haP) dX2_at_30 ?_
      exact jx_iret hx hb hrt hlk hw (Nat.le_of_ble_eq_true rfl) (Nat.le_of_ble_eq_true rfl) dX2_at_33 ⟨by rw [esp], hX'⟩
    · have esp : sp_at As (nI i) rv = -1 := by
        rw [sp_at, if_neg (fun q => ?_)]
        rw [(jq_oI hi).2, hOk.lenA] at q
        rcases hout with z | z
        · exact absurd z (Int32.not_lt.mpr q.2.1)
        · exact absurd q.2.2 (Int32.not_lt.mpr z)
      refine lv_astoreN (lv' := [(4, .null), (3, .ref o), (0, .ref x), (1, .int (nI i)), (2, .int rv)]) hx hb dX2_at_17 hl (by decide) rfl (fun ls hl => ?_)
      refine lv_aloadN hx hb dX2_at_19 (lv_at hl 0 rfl) ?_
      refine lv_ifnonnullN hx hb dX2_at_21 ?_
      refine lv_iconst (v := (-1)) hx hb dX2_at_24 (by decide) ?_
      refine lv_goto (tgt := 33) hx hb dX2_at_25 (by decide) ?_
      exact jx_iret hx hb hrt hlk hw (Nat.le_of_ble_eq_true rfl) (Nat.le_of_ble_eq_true rfl) dX2_at_33 ⟨by rw [esp], hX'⟩
  · refine jx_enter (by decide) (Nat.le_of_ble_eq_true rfl) ?_
    intro p e s m below meth c C hw ls hl
    obtain ⟨hx, hb, hrt, hlk, hnm, hml, hown, hts, hG⟩ := C
    have hl : lv_has ls 5 [(0, .ref x), (1, .int ov), (2, .int rv)] := hl
    have hno := ho
    obtain ⟨oa, g, hxL, haL, hfx, hfa⟩ := hX.base
    refine lv_aload_n hx hb dX2_at_0 rfl (lv_at hl 0 rfl) ?_
    refine lv_iload_n hx hb dX2_at_1 rfl (lv_at hl 1 rfl) ?_
    refine cl_X_18 (As := [.int ov]) (rest := []) hx hb hml hown hts hG hw (c_orderOf l D ct hxL haL hfx hfa) rfl ⟨Nat.le_of_ble_eq_true rfl, Nat.le_of_ble_eq_true rfl⟩ hxL hfx hl.1 rfl (Nat.le_of_ble_eq_true rfl) dX2_at_2 ⟨Nat.le_of_ble_eq_true rfl, Nat.le_of_ble_eq_true rfl⟩ (fun v L' f' H1 locs1 hp hw hcf => ?_)
    obtain ⟨hv, eL, ef⟩ := hp
    rw [eL, ef] at hw
    have hv : v = some .null := hv.elim (fun ⟨i, hi, e, _⟩ => absurd (e ▸ (jq_oI hi).1) hno) (fun q => q.2)
    subst hv
    refine lv_astore_nN (lv' := [(3, .null), (0, .ref x), (1, .int ov), (2, .int rv)]) hx hb dX2_at_5 rfl hl (by decide) rfl (fun ls hl => ?_)
    refine lv_aload_nN hx hb dX2_at_6 rfl (lv_at hl 0 rfl) ?_
    refine lv_ifnonnullN hx hb dX2_at_7 ?_
    refine lv_iconst (v := (-1)) hx hb dX2_at_10 (by decide) ?_
    exact jx_iret hx hb hrt hlk hw (Nat.le_of_ble_eq_true rfl) (Nat.le_of_ble_eq_true rfl) dX2_at_11 ⟨by rw [sp_at, if_neg (fun q => ho q.1)], hX⟩
set_option maxHeartbeats 4000000 in
set_option maxRecDepth 100000 in
theorem c_X_below (l : Launch) (D : va_G) (ct : Nat → ClassId) {N : Nat} {L : List Nat} {f : Nat → va_E} {x : Nat} {As : jq_S} (hX : jX N ct x L f As) (hNb : N < 2 ^ 29) {ov too : Int32} {sc : Int64} :
    jz_M l D ct yX2_below cX2_below 6 (some .int) ({ frames := 2, cells := 0, slots := 0, locals := 48 } : Room) [.ref x, .int ov, .long sc, .int too] L f (fun v L' f' => v = some (.int (sp_below As ov sc too)) ∧ jX N ct x L' f' As) := by
  by_cases ho : jq_o ov
  · obtain ⟨i, hi, ei, hcl0⟩ := jq_oN ho
    subst ei
    refine jx_enter (by decide) (Nat.le_of_ble_eq_true rfl) ?_
    intro p e s m below meth c C hw ls hl
    obtain ⟨hx, hb, hrt, hlk, hnm, hml, hown, hts, hG⟩ := C
    have hl : lv_has ls 6 [(0, .ref x), (1, .int (nI i)), (2, .long sc), (4, .int too)] := hl
    obtain ⟨oa, g, o, hd, pa, hr, ps, k, u, PS, qs, S, hxL, haL, hfx, hfa, hgi, hSt, hcl⟩ := hX.opn hi
    refine lv_aload_n hx hb dX2_below_0 rfl (lv_at hl 0 rfl) ?_
    refine lv_iload_n hx hb dX2_below_1 rfl (lv_at hl 1 rfl) ?_
    refine cl_X_18 (As := [.int (nI i)]) (rest := []) hx hb hml hown hts hG hw (c_orderOf l D ct hxL haL hfx hfa) rfl ⟨Nat.le_of_ble_eq_true rfl, Nat.le_of_ble_eq_true rfl⟩ hxL hfx hl.1 rfl (Nat.le_of_ble_eq_true rfl) dX2_below_2 ⟨Nat.le_of_ble_eq_true rfl, Nat.le_of_ble_eq_true rfl⟩ (fun v L' f' H1 locs1 hp hw hcf => ?_)
    obtain ⟨hv, eL, ef⟩ := hp
    rw [eL, ef] at hw
    have hv : v = some (.ref o) := by
      rcases hv with ⟨i2, hi2, e2, e3⟩ | ⟨q, -⟩
      · have e4 : i = i2 := (nI_eq (by omega) (by omega)).mp e2
        rw [e3, ← e4, hgi]
        rfl
      · exact absurd (jq_oI hi).1 q
    subst hv
    obtain ⟨hoL, hpL, hfo, hfp, hV, hOk⟩ := id hSt
    refine lv_astore (lv' := [(5, .ref o), (0, .ref x), (1, .int (nI i)), (2, .long sc), (4, .int too)]) hx hb dX2_below_5 hl (by decide) rfl (fun ls hl => ?_)
    refine lv_aload hx hb dX2_below_7 (lv_at hl 0 rfl) ?_
    refine lv_ifnonnull (tgt := 14) hx hb dX2_below_9 (by decide) ?_
    refine lv_aload hx hb dX2_below_14 (lv_at hl 0 rfl) ?_
    refine lv_lload_n hx hb dX2_below_16 rfl (lv_at hl 3 rfl) ?_
    refine lv_iload hx hb dX2_below_17 (lv_at hl 4 rfl) ?_
    refine lv_if_eq (tgt := 27) hx hb dX2_below_19 (by decide) (fun hc => ?_) (fun hc => ?_)
    · refine lv_iconst (v := 0) hx hb dX2_below_27 (by decide) ?_
      obtain ⟨p1, p2, eqs, hA1, hA2⟩ := hOk.cut sc 0
      have esp : sp_below As (nI i) sc too = nI p1.length := by rw [sp_below, if_pos (jq_oI hi).1, (jq_oI hi).2, jq_below_of hOk eqs hA1 hA2 (Or.inl ⟨hc, rfl⟩)]
      have hN : jo_N k PS o := hV.nO (by decide) hfo
      have ef0 : va_up f o (jo_eO hd pa (nI qs.length) hr ps) = f := jz_self hfo
      have hlenN := hOk.len
      rw [← ef0] at hw
      refine cl_X_58 (As := [.long sc, .int 0]) (rest := []) hx hb hml hown hts hG hw (c_countAheadOf l D ct (f0 := f) (ns := hd :: qs) hV hN hoL (by rw [eqs]) hOk.sub (by simp only [List.length_cons]; omega) hOk.rows hOk.1.2 hOk.h1 hA1 hA2) rfl ⟨Nat.le_of_ble_eq_true rfl, Nat.le_of_ble_eq_true rfl⟩ hoL (va_up_self _ _ _) hl.1 rfl (Nat.le_of_ble_eq_true rfl) dX2_below_28 ⟨Nat.le_of_ble_eq_true rfl, Nat.le_of_ble_eq_true rfl⟩ (fun v L' f' H1 locs1 hp hw hcf => ?_)
      obtain ⟨rfl, eL, hr', ps', ef⟩ := hp
      rw [eL, ef, ef0] at hw
      have hX' := hcl N L _ (As i) (Nat.le_refl _) (hSt.same hr' ps')
      rw [jq_upSelf] at hX'
      exact jx_iret hx hb hrt hlk hw (Nat.le_of_ble_eq_true rfl) (Nat.le_of_ble_eq_true rfl) dX2_below_31 ⟨by rw [esp], hX'⟩
    · refine lv_ldc (own := RX2) (v := 2147483647) hx hb hown (hts (.constant RX2 68 2147483647) (by decide +kernel)) dX2_below_22 ?_
      refine lv_goto (tgt := 28) hx hb dX2_below_24 (by decide) ?_
      obtain ⟨p1, p2, eqs, hA1, hA2⟩ := hOk.cut sc 2147483647
      have esp : sp_below As (nI i) sc too = nI p1.length := by rw [sp_below, if_pos (jq_oI hi).1, (jq_oI hi).2, jq_below_of hOk eqs hA1 hA2 (Or.inr ⟨hc, rfl⟩)]
      have hN : jo_N k PS o := hV.nO (by decide) hfo
      have ef0 : va_up f o (jo_eO hd pa (nI qs.length) hr ps) = f := jz_self hfo
      have hlenN := hOk.len
      rw [← ef0] at hw
      refine cl_X_58 (As := [.long sc, .int 2147483647]) (rest := []) hx hb hml hown hts hG hw (c_countAheadOf l D ct (f0 := f) (ns := hd :: qs) hV hN hoL (by rw [eqs]) hOk.sub (by simp only [List.length_cons]; omega) hOk.rows hOk.1.2 hOk.h1 hA1 hA2) rfl ⟨Nat.le_of_ble_eq_true rfl, Nat.le_of_ble_eq_true rfl⟩ hoL (va_up_self _ _ _) hl.1 rfl (Nat.le_of_ble_eq_true rfl) dX2_below_28 ⟨Nat.le_of_ble_eq_true rfl, Nat.le_of_ble_eq_true rfl⟩ (fun v L' f' H1 locs1 hp hw hcf => ?_)
      obtain ⟨rfl, eL, hr', ps', ef⟩ := hp
      rw [eL, ef, ef0] at hw
      have hX' := hcl N L _ (As i) (Nat.le_refl _) (hSt.same hr' ps')
      rw [jq_upSelf] at hX'
      exact jx_iret hx hb hrt hlk hw (Nat.le_of_ble_eq_true rfl) (Nat.le_of_ble_eq_true rfl) dX2_below_31 ⟨by rw [esp], hX'⟩
  · refine jx_enter (by decide) (Nat.le_of_ble_eq_true rfl) ?_
    intro p e s m below meth c C hw ls hl
    obtain ⟨hx, hb, hrt, hlk, hnm, hml, hown, hts, hG⟩ := C
    have hl : lv_has ls 6 [(0, .ref x), (1, .int ov), (2, .long sc), (4, .int too)] := hl
    have hno := ho
    obtain ⟨oa, g, hxL, haL, hfx, hfa⟩ := hX.base
    refine lv_aload_n hx hb dX2_below_0 rfl (lv_at hl 0 rfl) ?_
    refine lv_iload_n hx hb dX2_below_1 rfl (lv_at hl 1 rfl) ?_
    refine cl_X_18 (As := [.int ov]) (rest := []) hx hb hml hown hts hG hw (c_orderOf l D ct hxL haL hfx hfa) rfl ⟨Nat.le_of_ble_eq_true rfl, Nat.le_of_ble_eq_true rfl⟩ hxL hfx hl.1 rfl (Nat.le_of_ble_eq_true rfl) dX2_below_2 ⟨Nat.le_of_ble_eq_true rfl, Nat.le_of_ble_eq_true rfl⟩ (fun v L' f' H1 locs1 hp hw hcf => ?_)
    obtain ⟨hv, eL, ef⟩ := hp
    rw [eL, ef] at hw
    have hv : v = some .null := hv.elim (fun ⟨i, hi, e, _⟩ => absurd (e ▸ (jq_oI hi).1) hno) (fun q => q.2)
    subst hv
    refine lv_astoreN (lv' := [(5, .null), (0, .ref x), (1, .int ov), (2, .long sc), (4, .int too)]) hx hb dX2_below_5 hl (by decide) rfl (fun ls hl => ?_)
    refine lv_aloadN hx hb dX2_below_7 (lv_at hl 0 rfl) ?_
    refine lv_ifnonnullN hx hb dX2_below_9 ?_
    refine lv_iconst (v := (-1)) hx hb dX2_below_12 (by decide) ?_
    exact jx_iret hx hb hrt hlk hw (Nat.le_of_ble_eq_true rfl) (Nat.le_of_ble_eq_true rfl) dX2_below_13 ⟨by rw [sp_below, if_neg ho], hX⟩
