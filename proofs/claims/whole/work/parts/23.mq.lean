section MC
variable {p : Program} {l : Launch} {e : Env} {R : Room} {s : State} {m : MethodId} {args : Array Value} {below : List Frame} {meth : Method} {c : Code} {H : Heap} {locs : List Loc} {cells slots : Nat} {Q : State → Prop} {D : va_G} {ct : Nat → ClassId} {A : Nat → Prop} {H0 : Heap} {L : List Nat}
variable {y rw sc th sz : Nat} {f : Nat → va_E} {ro tt zz : Nat → Int32} {ss : Nat → Int64} {N i : Nat} {As : List (Nat × Int64)}
set_option maxHeartbeats 4000000 in
set_option maxRecDepth 100000 in
theorem lp_clear (hx : p.tables.exec = Jvm.exec) (hb : c.code = cX3_clear) (hml : c.maxLocals = 4) (hown : s.vm.findClass RX3 = some m.cls) (hts : ∀ w ∈ jz_TT, w.before args s = true) (hG : jz_G D ct s) (hi : i < 4) {c2 : Int32}
    (kk : ∀ (tt1 : Nat → Int32) (f1 : Nat → va_E) (H : Heap) (locs : List Loc) (ls : Array Slot), jm_S ct y rw sc th sz L f1 ro ss tt1 zz → (∀ q, tt1 q = if 1000 * i ≤ q ∧ q < 1000 * i + 1000 then 0 else tt q) → jz_w D A H0 L f1 H locs → lv_has ls 4 [(1, .int (nI i)), (0, .ref y), (2, .int c2)] → W p l e R s m args below meth c H locs cells slots Q (F0 m 44 ls [])) :
    ∀ (d t : Nat) (tt1 : Nat → Int32) (f1 : Nat → va_E) (H : Heap) (locs : List Loc) (ls : Array Slot), 1000 - t < d → t ≤ 1000 → jm_S ct y rw sc th sz L f1 ro ss tt1 zz → (∀ q, tt1 q = if 1000 * i ≤ q ∧ q < 1000 * i + t then 0 else tt q) → jz_w D A H0 L f1 H locs → lv_has ls 4 [(1, .int (nI i)), (0, .ref y), (2, .int c2), (3, .int (nI t))] → W p l e R s m args below meth c H locs cells slots Q (F0 m 18 ls []) := by
  intro d
  induction d with
  | zero => intro t tt1 f1 H locs ls ht; exact absurd ht (Nat.not_lt_zero _)
  | succ d ih =>
    intro t tt1 f1 H locs ls ht htB hS hr1 hw hl
    refine lv_iload_n hx hb dX3_clear_18 rfl (lv_at hl 3 rfl) ?_
    refine lv_sipush (v := nI 1000) hx hb dX3_clear_19 (by decide) ?_
    refine lv_icmp_ge (tgt := 44) hx hb dX3_clear_22 (by decide) (fun hc => ?_) (fun hc => ?_)
    · have h4 : t = 1000 := by
        rcases Nat.lt_or_ge t 1000 with q | q
        · exact absurd (nI_lt q (by decide)) (Int32.not_lt.mpr hc)
        · omega
      subst h4
      exact kk tt1 f1 H locs ls hS hr1 hw (lv_sub hl [0, 1, 2] rfl)
    · have h4 : t < 1000 := by
        rcases Nat.lt_or_ge t 1000 with q | q
        · exact q
        · exact absurd (nI_le q (by omega)) hc
      refine lv_aload_n hx hb dX3_clear_25 rfl (lv_at hl 1 rfl) ?_
      refine gf_M_17 hx hb hown hts hG hw hS.1.1 hS.2.1 dX3_clear_26 ?_
      refine lv_sipush (v := nI 1000) hx hb dX3_clear_29 (by decide) ?_
      refine lv_iload_n hx hb dX3_clear_32 rfl (lv_at hl 0 rfl) ?_
      refine lv_imul hx hb dX3_clear_33 ?_
      rw [pk_mul]
      refine lv_iload_n hx hb dX3_clear_34 rfl (lv_at hl 3 rfl) ?_
      refine lv_iadd hx hb dX3_clear_35 ?_
      rw [nI_add]
      refine lv_iconst (v := 0) hx hb dX3_clear_36 (by decide) ?_
      refine jx_zastI hx hb hG hw hS.1.2.2.2.1 5 hS.2.2.2.2.1 rfl (j := 1000 * i + t) (by omega) (by decide) rfl dX3_clear_37 (fun H locs hw => ?_)
      have hS2 := hS.putT (upd tt1 (1000 * i + t) 0)
      refine lv_iinc (v := nI (t + 1)) (lv' := [(3, .int (nI (t + 1))), (1, .int (nI i)), (0, .ref y), (2, .int c2)]) hx hb dX3_clear_38 hl (k := 3) rfl (nI_succ t).symm (by decide) rfl (fun ls hl => ?_)
      refine lv_goto (tgt := 18) hx hb dX3_clear_41 (by decide) ?_
      refine ih (t + 1) _ _ H locs ls (by omega) (by omega) hS2 (fun q => ?_) hw (lv_sub hl [1, 2, 3, 0] rfl)
      by_cases z : q = 1000 * i + t
      · rw [z, pk_us, if_pos (by omega)]
      · rw [pk_un z, hr1]
        by_cases z2 : 1000 * i ≤ q ∧ q < 1000 * i + t
        · rw [if_pos z2, if_pos (by omega)]
        · rw [if_neg z2, if_neg (by omega)]
end MC
set_option maxHeartbeats 4000000 in
set_option maxRecDepth 100000 in
theorem c_M_clear (l : Launch) (D : va_G) (ct : Nat → ClassId) {N : Nat} {y : Nat} {L : List Nat} {f : Nat → va_E} {As : jq_S} (hM : jM N ct y L f As) (hN : N < 1000) {ov : Int32} :
    jz_M l D ct yX3_clear cX3_clear 4 (some .int) ({ frames := 1, cells := 0, slots := 0, locals := 20 } : Room) [.ref y, .int ov] L f (fun v L' f' => v = some (.int (sp_clr As ov).1) ∧ jM N ct y L' f' (sp_clr As ov).2) := by
  by_cases ho : jq_o ov
  · obtain ⟨i, hi, ei, hcl0⟩ := jq_oN ho
    subst ei
    obtain ⟨rw, sc, th, sz, ro, ss, tt, zz, hS, hAll⟩ := id hM
    have hRi := hAll i hi
    obtain ⟨hwf, hlN, hzz, hro, hss, htt⟩ := id hRi
    refine jx_enter (by decide) (Nat.le_of_ble_eq_true rfl) ?_
    intro p e s m below meth c C hw ls hl
    obtain ⟨hx, hb, hrt, hlk, hnm, hml, hown, hts, hG⟩ := C
    have hl : lv_has ls 4 [(0, .ref y), (1, .int (nI i))] := hl
    refine lv_iload_n hx hb dX3_clear_0 rfl (lv_at hl 1 rfl) ?_
    refine cl_M_25 (As := [.int (nI i)]) (rest := []) hx hb hml hown hts hG hw (c_M_isOrder l D ct L f (nI i)) rfl ⟨Nat.le_of_ble_eq_true rfl, Nat.le_of_ble_eq_true rfl⟩ hl.1 rfl (Nat.le_of_ble_eq_true rfl) dX3_clear_1 ⟨Nat.le_of_ble_eq_true rfl, Nat.le_of_ble_eq_true rfl⟩ (fun v L' f' H1 locs1 hp hw hcf => ?_)
    obtain ⟨hv, eL, ef⟩ := hp
    rw [eL, ef] at hw
    have hv : v = some (.int 1) := hv.elim (fun q => q.2) (fun q => absurd ho q.1)
    subst hv
    refine lv_if_ne (tgt := 9) hx hb dX3_clear_4 (by decide) (fun _ => ?_) (fun h => absurd h (by decide))
    refine lv_aload_n hx hb dX3_clear_9 rfl (lv_at hl 0 rfl) ?_
    refine gf_M_21 hx hb hown hts hG hw hS.1.1 hS.2.1 dX3_clear_10 ?_
    refine lv_iload_n hx hb dX3_clear_13 rfl (lv_at hl 1 rfl) ?_
    refine jx_ialdI hx hb hG hw hS.1.2.2.2.2.1 0 hS.2.2.2.2.2 rfl hi (by decide) dX3_clear_14 ?_
    rw [hzz]
    refine lv_istore_n (lv' := [(2, .int (nI (As i).length)), (0, .ref y), (1, .int (nI i))]) hx hb dX3_clear_15 rfl hl (by decide) rfl (fun ls hl => ?_)
    refine lv_iconst (v := nI 0) hx hb dX3_clear_16 (by decide) ?_
    refine lv_istore_n (lv' := [(3, .int (nI 0)), (2, .int (nI (As i).length)), (0, .ref y), (1, .int (nI i))]) hx hb dX3_clear_17 rfl hl (by decide) rfl (fun ls hl => ?_)
    refine lp_clear hx hb hml hown hts hG hi (fun tt1 f1 H locs ls hS1 ht1 hw hl => ?_) 1001 0 tt f _ _ ls (by decide) (by decide) hS (fun q => by rw [if_neg (by omega)]) hw (lv_sub hl [3, 2, 1, 0] rfl)
    refine lv_aload_n hx hb dX3_clear_44 rfl (lv_at hl 1 rfl) ?_
    refine gf_M_21 hx hb hown hts hG hw hS1.1.1 hS1.2.1 dX3_clear_45 ?_
    refine lv_iload_n hx hb dX3_clear_48 rfl (lv_at hl 0 rfl) ?_
    refine lv_iconst (v := nI 0) hx hb dX3_clear_49 (by decide) ?_
    refine jx_iastI hx hb hG hw hS1.1.2.2.2.2.1 0 hS1.2.2.2.2.2 rfl hi (by decide) dX3_clear_50 (fun H locs hw => ?_)
    have hS2 := hS1.putZ (upd zz i (nI 0))
    have hR2 : jm_R N i [] ro ss tt1 (upd zz i (nI 0)) := ⟨⟨List.Pairwise.nil, by simp, fun x hx => absurd hx List.not_mem_nil⟩, Nat.zero_le _, pk_us, fun q x hx => by simp at hx, fun x hx => absurd hx List.not_mem_nil, fun q hq => Or.inr ⟨by rw [ht1, if_pos (by omega)], rfl⟩⟩
    have hall2 := jM.upd hAll (Nat.le_refl _) (by omega) hi hR2 (fun q hq => ⟨rfl, rfl, by rw [ht1, if_neg (by omega)]⟩) (fun q hq => pk_un hq)
    have esp : sp_clr As (nI i) = (nI (As i).length, va_up As i []) := by rw [sp_clr, if_pos (jq_oI hi).1, (jq_oI hi).2]
    refine lv_iload_n hx hb dX3_clear_51 rfl (lv_at hl 2 rfl) ?_
    exact jx_iret hx hb hrt hlk hw (Nat.le_of_ble_eq_true rfl) (Nat.le_of_ble_eq_true rfl) dX3_clear_52 ⟨by rw [esp], by rw [esp]; exact ⟨rw, sc, th, sz, _, _, _, _, hS2, hall2⟩⟩
  · refine jx_enter (by decide) (Nat.le_of_ble_eq_true rfl) ?_
    intro p e s m below meth c C hw ls hl
    obtain ⟨hx, hb, hrt, hlk, hnm, hml, hown, hts, hG⟩ := C
    have hl : lv_has ls 4 [(0, .ref y), (1, .int ov)] := hl
    refine lv_iload_n hx hb dX3_clear_0 rfl (lv_at hl 1 rfl) ?_
    refine cl_M_25 (As := [.int ov]) (rest := []) hx hb hml hown hts hG hw (c_M_isOrder l D ct L f ov) rfl ⟨Nat.le_of_ble_eq_true rfl, Nat.le_of_ble_eq_true rfl⟩ hl.1 rfl (Nat.le_of_ble_eq_true rfl) dX3_clear_1 ⟨Nat.le_of_ble_eq_true rfl, Nat.le_of_ble_eq_true rfl⟩ (fun v L' f' H1 locs1 hp hw hcf => ?_)
    obtain ⟨hv, eL, ef⟩ := hp
    rw [eL, ef] at hw
    have hv : v = some (.int 0) := hv.elim (fun q => absurd q.1 ho) (fun q => q.2)
    subst hv
    refine lv_if_ne (tgt := 9) hx hb dX3_clear_4 (by decide) (fun h => absurd rfl h) (fun _ => ?_)
    refine lv_iconst (v := (-1)) hx hb dX3_clear_7 (by decide) ?_
    exact jx_iret hx hb hrt hlk hw (Nat.le_of_ble_eq_true rfl) (Nat.le_of_ble_eq_true rfl) dX3_clear_8 ⟨by rw [sp_clr, if_neg ho], by rw [sp_clr, if_neg ho]; exact hM⟩
set_option maxHeartbeats 4000000 in
set_option maxRecDepth 100000 in
theorem c_M_size (l : Launch) (D : va_G) (ct : Nat → ClassId) {N : Nat} {y : Nat} {L : List Nat} {f : Nat → va_E} {As : jq_S} (hM : jM N ct y L f As) (hN : N < 1000) {ov : Int32} :
    jz_M l D ct yX3_size cX3_size 2 (some .int) ({ frames := 1, cells := 0, slots := 0, locals := 20 } : Room) [.ref y, .int ov] L f (fun v L' f' => v = some (.int (sp_size As ov)) ∧ jM N ct y L' f' As) := by
  by_cases ho : jq_o ov
  · obtain ⟨i, hi, ei, hcl0⟩ := jq_oN ho
    subst ei
    obtain ⟨rw, sc, th, sz, ro, ss, tt, zz, hS, hAll⟩ := id hM
    have hRi := hAll i hi
    obtain ⟨hwf, hlN, hzz, hro, hss, htt⟩ := id hRi
    refine jx_enter (by decide) (Nat.le_of_ble_eq_true rfl) ?_
    intro p e s m below meth c C hw ls hl
    obtain ⟨hx, hb, hrt, hlk, hnm, hml, hown, hts, hG⟩ := C
    have hl : lv_has ls 2 [(0, .ref y), (1, .int (nI i))] := hl
    refine lv_iload_n hx hb dX3_size_0 rfl (lv_at hl 1 rfl) ?_
    refine cl_M_25 (As := [.int (nI i)]) (rest := []) hx hb hml hown hts hG hw (c_M_isOrder l D ct L f (nI i)) rfl ⟨Nat.le_of_ble_eq_true rfl, Nat.le_of_ble_eq_true rfl⟩ hl.1 rfl (Nat.le_of_ble_eq_true rfl) dX3_size_1 ⟨Nat.le_of_ble_eq_true rfl, Nat.le_of_ble_eq_true rfl⟩ (fun v L' f' H1 locs1 hp hw hcf => ?_)
    obtain ⟨hv, eL, ef⟩ := hp
    rw [eL, ef] at hw
    have hv : v = some (.int 1) := hv.elim (fun q => q.2) (fun q => absurd ho q.1)
    subst hv
    refine lv_if_eq (tgt := 16) hx hb dX3_size_4 (by decide) (fun h => absurd h (by decide)) (fun _ => ?_)
    refine lv_aload_n hx hb dX3_size_7 rfl (lv_at hl 0 rfl) ?_
    refine gf_M_21 hx hb hown hts hG hw hS.1.1 hS.2.1 dX3_size_8 ?_
    refine lv_iload_n hx hb dX3_size_11 rfl (lv_at hl 1 rfl) ?_
    refine jx_ialdI hx hb hG hw hS.1.2.2.2.2.1 0 hS.2.2.2.2.2 rfl hi (by decide) dX3_size_12 ?_
    rw [hzz]
    refine lv_goto (tgt := 17) hx hb dX3_size_13 (by decide) ?_
    exact jx_iret hx hb hrt hlk hw (Nat.le_of_ble_eq_true rfl) (Nat.le_of_ble_eq_true rfl) dX3_size_17 ⟨by rw [sp_size, if_pos (jq_oI hi).1, (jq_oI hi).2], hM⟩
  · refine jx_enter (by decide) (Nat.le_of_ble_eq_true rfl) ?_
    intro p e s m below meth c C hw ls hl
    obtain ⟨hx, hb, hrt, hlk, hnm, hml, hown, hts, hG⟩ := C
    have hl : lv_has ls 2 [(0, .ref y), (1, .int ov)] := hl
    refine lv_iload_n hx hb dX3_size_0 rfl (lv_at hl 1 rfl) ?_
    refine cl_M_25 (As := [.int ov]) (rest := []) hx hb hml hown hts hG hw (c_M_isOrder l D ct L f ov) rfl ⟨Nat.le_of_ble_eq_true rfl, Nat.le_of_ble_eq_true rfl⟩ hl.1 rfl (Nat.le_of_ble_eq_true rfl) dX3_size_1 ⟨Nat.le_of_ble_eq_true rfl, Nat.le_of_ble_eq_true rfl⟩ (fun v L' f' H1 locs1 hp hw hcf => ?_)
    obtain ⟨hv, eL, ef⟩ := hp
    rw [eL, ef] at hw
    have hv : v = some (.int 0) := hv.elim (fun q => absurd q.1 ho) (fun q => q.2)
    subst hv
    refine lv_if_eq (tgt := 16) hx hb dX3_size_4 (by decide) (fun _ => ?_) (fun h => absurd rfl h)
    refine lv_iconst (v := (-1)) hx hb dX3_size_16 (by decide) ?_
    exact jx_iret hx hb hrt hlk hw (Nat.le_of_ble_eq_true rfl) (Nat.le_of_ble_eq_true rfl) dX3_size_17 ⟨by rw [sp_size, if_neg ho], hM⟩
set_option maxHeartbeats 4000000 in
set_option maxRecDepth 100000 in
theorem c_M_score (l : Launch) (D : va_G) (ct : Nat → ClassId) {N : Nat} {y : Nat} {L : List Nat} {f : Nat → va_E} {As : jq_S} (hM : jM N ct y L f As) (hN : N < 1000) {ov mv : Int32} :
    jz_M l D ct yX3_score cX3_score 3 (some .long) ({ frames := 2, cells := 0, slots := 0, locals := 41 } : Room) [.ref y, .int ov, .int mv] L f (fun v L' f' => v = some (.long (sp_score As ov mv)) ∧ jM N ct y L' f' As) := by
  by_cases hgood : jq_o ov ∧ jq_m mv
  · obtain ⟨i, hi, ei, hcl0⟩ := jq_oN hgood.1
    subst ei
    obtain ⟨j, hj, ej, hcl1⟩ := jq_mN hgood.2
    subst ej
    obtain ⟨rw, sc, th, sz, ro, ss, tt, zz, hS, hAll⟩ := id hM
    have hRi := hAll i hi
    obtain ⟨hwf, hlN, hzz, hro, hss, htt⟩ := id hRi
    refine jx_enter (by decide) (Nat.le_of_ble_eq_true rfl) ?_
    intro p e s m below meth c C hw ls hl
    obtain ⟨hx, hb, hrt, hlk, hnm, hml, hown, hts, hG⟩ := C
    have hl : lv_has ls 3 [(0, .ref y), (1, .int (nI i)), (2, .int (nI j))] := hl
    refine lv_iload_n hx hb dX3_score_0 rfl (lv_at hl 1 rfl) ?_
    refine lv_iload_n hx hb dX3_score_1 rfl (lv_at hl 2 rfl) ?_
    refine cl_M_37 (As := [.int (nI i), .int (nI j)]) (rest := []) hx hb hml hown hts hG hw (c_M_isGood l D ct L f (nI i) (nI j)) rfl ⟨Nat.le_of_ble_eq_true rfl, Nat.le_of_ble_eq_true rfl⟩ hl.1 rfl (Nat.le_of_ble_eq_true rfl) dX3_score_2 ⟨Nat.le_of_ble_eq_true rfl, Nat.le_of_ble_eq_true rfl⟩ (fun v L' f' H1 locs1 hp hw hcf => ?_)
    obtain ⟨hv, eL, ef⟩ := hp
    rw [eL, ef] at hw
    have hv : v = some (.int 1) := hv.elim (fun q => q.2) (fun q => absurd hgood q.1)
    subst hv
    refine lv_if_ne (tgt := 12) hx hb dX3_score_5 (by decide) (fun _ => ?_) (fun h => absurd h (by decide))
    have esp : sp_score As (nI i) (nI j) = (jq_get (As i) j).getD 0 := by rw [sp_score, if_pos ⟨(jq_oI hi).1, (jq_mI hj).1⟩, (jq_oI hi).2, (jq_mI hj).2]
    refine lv_aload_n hx hb dX3_score_12 rfl (lv_at hl 0 rfl) ?_
    refine gf_M_17 hx hb hown hts hG hw hS.1.1 hS.2.1 dX3_score_13 ?_
    refine lv_sipush (v := nI 1000) hx hb dX3_score_16 (by decide) ?_
    refine lv_iload_n hx hb dX3_score_19 rfl (lv_at hl 1 rfl) ?_
    refine lv_imul hx hb dX3_score_20 ?_
    rw [pk_mul]
    refine lv_iload_n hx hb dX3_score_21 rfl (lv_at hl 2 rfl) ?_
    refine lv_iadd hx hb dX3_score_22 ?_
    rw [nI_add]
    refine jx_zaldI hx hb hG hw hS.1.2.2.2.1 5 hS.2.2.2.2.1 rfl (by omega) (by decide) dX3_score_23 ?_
    rcases htt j hj with ⟨et, s1, hget⟩ | ⟨et, hget⟩
    · rw [et]
      refine lv_if_eq (tgt := 42) hx hb dX3_score_24 (by decide) (fun h => absurd h (by decide)) (fun _ => ?_)
      refine lv_aload_n hx hb dX3_score_27 rfl (lv_at hl 0 rfl) ?_
      refine gf_M_13 hx hb hown hts hG hw hS.1.1 hS.2.1 dX3_score_28 ?_
      refine lv_sipush (v := nI 1000) hx hb dX3_score_31 (by decide) ?_
      refine lv_iload_n hx hb dX3_score_34 rfl (lv_at hl 1 rfl) ?_
      refine lv_imul hx hb dX3_score_35 ?_
      rw [pk_mul]
      refine lv_iload_n hx hb dX3_score_36 rfl (lv_at hl 2 rfl) ?_
      refine lv_iadd hx hb dX3_score_37 ?_
      rw [nI_add]
      refine jx_laldI hx hb hG hw hS.1.2.2.1 4 hS.2.2.2.1 rfl (by omega) (by decide) dX3_score_38 ?_
      refine lv_goto (tgt := 43) hx hb dX3_score_39 (by decide) ?_
      exact jx_lret hx hb hrt hlk hw (Nat.le_of_ble_eq_true rfl) (Nat.le_of_ble_eq_true rfl) dX3_score_43 ⟨by rw [esp, hget, hss (j, s1) (jq_get_mem hget)]; rfl, hM⟩
    · rw [et]
      refine lv_if_eq (tgt := 42) hx hb dX3_score_24 (by decide) (fun _ => ?_) (fun h => absurd rfl h)
      refine lv_lconst (v := 0) hx hb dX3_score_42 (by decide) ?_
      exact jx_lret hx hb hrt hlk hw (Nat.le_of_ble_eq_true rfl) (Nat.le_of_ble_eq_true rfl) dX3_score_43 ⟨by rw [esp, hget]; rfl, hM⟩
  · refine jx_enter (by decide) (Nat.le_of_ble_eq_true rfl) ?_
    intro p e s m below meth c C hw ls hl
    obtain ⟨hx, hb, hrt, hlk, hnm, hml, hown, hts, hG⟩ := C
    have hl : lv_has ls 3 [(0, .ref y), (1, .int ov), (2, .int mv)] := hl
    refine lv_iload_n hx hb dX3_score_0 rfl (lv_at hl 1 rfl) ?_
    refine lv_iload_n hx hb dX3_score_1 rfl (lv_at hl 2 rfl) ?_
    refine cl_M_37 (As := [.int ov, .int mv]) (rest := []) hx hb hml hown hts hG hw (c_M_isGood l D ct L f ov mv) rfl ⟨Nat.le_of_ble_eq_true rfl, Nat.le_of_ble_eq_true rfl⟩ hl.1 rfl (Nat.le_of_ble_eq_true rfl) dX3_score_2 ⟨Nat.le_of_ble_eq_true rfl, Nat.le_of_ble_eq_true rfl⟩ (fun v L' f' H1 locs1 hp hw hcf => ?_)
    obtain ⟨hv, eL, ef⟩ := hp
    rw [eL, ef] at hw
    have hv : v = some (.int 0) := hv.elim (fun q => absurd q.1 hgood) (fun q => q.2)
    subst hv
    refine lv_if_ne (tgt := 12) hx hb dX3_score_5 (by decide) (fun h => absurd rfl h) (fun _ => ?_)
    refine lv_ldc2 (own := RX3) (v := -1) hx hb hown (hts (.constantLong RX3 49 (-1)) (by decide +kernel)) dX3_score_8 ?_
    exact jx_lret hx hb hrt hlk hw (Nat.le_of_ble_eq_true rfl) (Nat.le_of_ble_eq_true rfl) dX3_score_11 ⟨by rw [sp_score, if_neg hgood], hM⟩
section MRK
variable {p : Program} {l : Launch} {e : Env} {R : Room} {s : State} {m : MethodId} {args : Array Value} {below : List Frame} {meth : Method} {c : Code} {H : Heap} {locs : List Loc} {cells slots : Nat} {Q : State → Prop} {D : va_G} {ct : Nat → ClassId} {A : Nat → Prop} {H0 : Heap} {L : List Nat}
variable {y rw sc th sz : Nat} {f : Nat → va_E} {ro tt zz : Nat → Int32} {ss : Nat → Int64} {N i : Nat} {As : List (Nat × Int64)}
set_option maxHeartbeats 4000000 in
set_option maxRecDepth 100000 in
theorem lp_rank (hx : p.tables.exec = Jvm.exec) (hb : c.code = cX3_rank) (hml : c.maxLocals = 4) (hown : s.vm.findClass RX3 = some m.cls) (hts : ∀ w ∈ jz_TT, w.before args s = true) (hG : jz_G D ct s) (hS : jm_S ct y rw sc th sz L f ro ss tt zz) (hw : jz_w D A H0 L f H locs) (hi : i < 4) (hR0 : jm_R N i As ro ss tt zz) (hN : N < 1000) {A1 A2 : List (Nat × Int64)} {j : Nat} {s0 : Int64} (eA : As = A1 ++ (j, s0) :: A2)
    (kk : ∀ (ls : Array Slot), lv_has ls 4 [(3, .int (nI A1.length))] → W p l e R s m args below meth c H locs cells slots Q (F0 m 49 ls [])) :
    ∀ (d t : Nat) (ls : Array Slot), A1.length - t < d → t ≤ A1.length → lv_has ls 4 [(0, .ref y), (1, .int (nI i)), (2, .int (nI j)), (3, .int (nI t))] → W p l e R s m args below meth c H locs cells slots Q (F0 m 27 ls []) := by
  obtain ⟨hwf, hlN, hzz, hro, hss, htt⟩ := id hR0
  have hlen : As.length = A1.length + A2.length + 1 := by rw [eA]; simp; omega
  intro d
  induction d with
  | zero => intro t ls ht; exact absurd ht (Nat.not_lt_zero _)
  | succ d ih =>
    intro t ls ht htA hl
    have h4 : t < As.length := by omega
    obtain ⟨x, hxt⟩ : ∃ x, As[t]? = some x := ⟨_, List.getElem?_eq_getElem h4⟩
    have hxA : x ∈ As := List.mem_of_getElem? hxt
    have hx1 := hwf.2.2 x hxA
    have hj : j < 1000 := hwf.2.2 (j, s0) (by rw [eA]; simp)
    have hiff : x.1 = j ↔ t = A1.length := by
      constructor
      · intro q
        rcases Nat.lt_or_ge t A1.length with z | z
        · have hn := hwf.2.1
          rw [eA, List.map_append, List.map_cons] at hn
          rw [eA, List.getElem?_append_left z] at hxt
          exact absurd q ((List.nodup_append.mp hn).2.2 x.1 (List.mem_map.mpr ⟨x, List.mem_of_getElem? hxt, rfl⟩) j List.mem_cons_self)
        · omega
      · intro q
        rw [eA, q, List.getElem?_append_right (Nat.le_refl _), Nat.sub_self] at hxt
        cases hxt
        rfl
    refine lv_aload_n hx hb dX3_rank_27 rfl (lv_at hl 0 rfl) ?_
    refine gf_M_7 hx hb hown hts hG hw hS.1.1 hS.2.1 dX3_rank_28 ?_
    refine lv_sipush (v := nI 1000) hx hb dX3_rank_31 (by decide) ?_
    refine lv_iload_n hx hb dX3_rank_34 rfl (lv_at hl 1 rfl) ?_
    refine lv_imul hx hb dX3_rank_35 ?_
    rw [pk_mul]
    refine lv_iload_n hx hb dX3_rank_36 rfl (lv_at hl 3 rfl) ?_
    refine lv_iadd hx hb dX3_rank_37 ?_
    rw [nI_add]
    refine jx_saldI hx hb hG hw hS.1.2.1 3 hS.2.2.1 rfl (by omega) (by decide) dX3_rank_38 ?_
    rw [hro t x hxt]
    refine lv_iload_n hx hb dX3_rank_39 rfl (lv_at hl 2 rfl) ?_
    refine lv_icmp_eq (tgt := 49) hx hb dX3_rank_40 (by decide) (fun hc => ?_) (fun hc => ?_)
    · have ht0 : t = A1.length := hiff.mp ((nI_eq (by omega) (by omega)).mp hc)
      subst ht0
      exact kk ls (lv_sub hl [3] rfl)
    · have ht0 : t ≠ A1.length := fun q => hc (by rw [hiff.mpr q])
      refine lv_iinc (v := nI (t + 1)) (lv' := [(3, .int (nI (t + 1))), (0, .ref y), (1, .int (nI i)), (2, .int (nI j))]) hx hb dX3_rank_43 hl (k := 3) rfl (nI_succ t).symm (by decide) rfl (fun ls hl => ?_)
      refine lv_goto (tgt := 27) hx hb dX3_rank_46 (by decide) ?_
      exact ih (t + 1) ls (by omega) (by omega) (lv_sub hl [1, 2, 3, 0] rfl)
end MRK
set_option maxHeartbeats 4000000 in
set_option maxRecDepth 100000 in
theorem c_M_rank (l : Launch) (D : va_G) (ct : Nat → ClassId) {N : Nat} {y : Nat} {L : List Nat} {f : Nat → va_E} {As : jq_S} (hM : jM N ct y L f As) (hN : N < 1000) {ov mv : Int32} :
    jz_M l D ct yX3_rank cX3_rank 4 (some .int) ({ frames := 2, cells := 0, slots := 0, locals := 41 } : Room) [.ref y, .int ov, .int mv] L f (fun v L' f' => v = some (.int (sp_rank As ov mv)) ∧ jM N ct y L' f' As) := by
  by_cases hgood : jq_o ov ∧ jq_m mv
  · obtain ⟨i, hi, ei, hcl0⟩ := jq_oN hgood.1
    subst ei
    obtain ⟨j, hj, ej, hcl1⟩ := jq_mN hgood.2
    subst ej
    obtain ⟨rw, sc, th, sz, ro, ss, tt, zz, hS, hAll⟩ := id hM
    have hRi := hAll i hi
    obtain ⟨hwf, hlN, hzz, hro, hss, htt⟩ := id hRi
    refine jx_enter (by decide) (Nat.le_of_ble_eq_true rfl) ?_
    intro p e s m below meth c C hw ls hl
    obtain ⟨hx, hb, hrt, hlk, hnm, hml, hown, hts, hG⟩ := C
    have hl : lv_has ls 4 [(0, .ref y), (1, .int (nI i)), (2, .int (nI j))] := hl
    refine lv_iload_n hx hb dX3_rank_0 rfl (lv_at hl 1 rfl) ?_
    refine lv_iload_n hx hb dX3_rank_1 rfl (lv_at hl 2 rfl) ?_
    refine cl_M_37 (As := [.int (nI i), .int (nI j)]) (rest := []) hx hb hml hown hts hG hw (c_M_isGood l D ct L f (nI i) (nI j)) rfl ⟨Nat.le_of_ble_eq_true rfl, Nat.le_of_ble_eq_true rfl⟩ hl.1 rfl (Nat.le_of_ble_eq_true rfl) dX3_rank_2 ⟨Nat.le_of_ble_eq_true rfl, Nat.le_of_ble_eq_true rfl⟩ (fun v L' f' H1 locs1 hp hw hcf => ?_)
    obtain ⟨hv, eL, ef⟩ := hp
    rw [eL, ef] at hw
    have hv : v = some (.int 1) := hv.elim (fun q => q.2) (fun q => absurd hgood q.1)
    subst hv
    refine lv_if_eq (tgt := 23) hx hb dX3_rank_5 (by decide) (fun h => absurd h (by decide)) (fun _ => ?_)
    refine lv_aload_n hx hb dX3_rank_8 rfl (lv_at hl 0 rfl) ?_
    refine gf_M_17 hx hb hown hts hG hw hS.1.1 hS.2.1 dX3_rank_9 ?_
    refine lv_sipush (v := nI 1000) hx hb dX3_rank_12 (by decide) ?_
    refine lv_iload_n hx hb dX3_rank_15 rfl (lv_at hl 1 rfl) ?_
    refine lv_imul hx hb dX3_rank_16 ?_
    rw [pk_mul]
    refine lv_iload_n hx hb dX3_rank_17 rfl (lv_at hl 2 rfl) ?_
    refine lv_iadd hx hb dX3_rank_18 ?_
    rw [nI_add]
    refine jx_zaldI hx hb hG hw hS.1.2.2.2.1 5 hS.2.2.2.2.1 rfl (by omega) (by decide) dX3_rank_19 ?_
    rcases htt j hj with ⟨et, s1, hget⟩ | ⟨et, hget⟩
    · rw [et]
      refine lv_if_ne (tgt := 25) hx hb dX3_rank_20 (by decide) (fun _ => ?_) (fun h => absurd h (by decide))
      obtain ⟨A1, A2, eA⟩ := List.append_of_mem (jq_get_mem hget)
      have hne : ∀ x ∈ A1, x.1 ≠ j := fun x hx q => by
        have hn := hwf.2.1
        rw [eA, List.map_append, List.map_cons] at hn
        exact (List.nodup_append.mp hn).2.2 x.1 (List.mem_map.mpr ⟨x, hx, rfl⟩) j List.mem_cons_self q
      have esp : sp_rank As (nI i) (nI j) = nI A1.length := by rw [sp_rank, if_pos ⟨(jq_oI hi).1, (jq_mI hj).1⟩, (jq_oI hi).2, (jq_mI hj).2, hget, eA, jq_idx_of hne]
      refine lv_iconst (v := nI 0) hx hb dX3_rank_25 (by decide) ?_
      refine lv_istore_n (lv' := [(3, .int (nI 0)), (0, .ref y), (1, .int (nI i)), (2, .int (nI j))]) hx hb dX3_rank_26 rfl hl (by decide) rfl (fun ls hl => ?_)
      refine lp_rank hx hb hml hown hts hG hS hw hi hRi hN eA (fun ls hl => ?_) (A1.length + 1) 0 ls (by omega) (Nat.zero_le _) (lv_sub hl [1, 2, 3, 0] rfl)
      refine lv_iload_n hx hb dX3_rank_49 rfl (lv_at hl 0 rfl) ?_
      exact jx_iret hx hb hrt hlk hw (Nat.le_of_ble_eq_true rfl) (Nat.le_of_ble_eq_true rfl) dX3_rank_50 ⟨by rw [esp], hM⟩
    · rw [et]
      have esp : sp_rank As (nI i) (nI j) = -1 := by rw [sp_rank, if_pos ⟨(jq_oI hi).1, (jq_mI hj).1⟩, (jq_oI hi).2, (jq_mI hj).2, hget]
      refine lv_if_ne (tgt := 25) hx hb dX3_rank_20 (by decide) (fun h => absurd rfl h) (fun _ => ?_)
      refine lv_iconst (v := (-1)) hx hb dX3_rank_23 (by decide) ?_
      exact jx_iret hx hb hrt hlk hw (Nat.le_of_ble_eq_true rfl) (Nat.le_of_ble_eq_true rfl) dX3_rank_24 ⟨by rw [esp], hM⟩
  · refine jx_enter (by decide) (Nat.le_of_ble_eq_true rfl) ?_
    intro p e s m below meth c C hw ls hl
    obtain ⟨hx, hb, hrt, hlk, hnm, hml, hown, hts, hG⟩ := C
    have hl : lv_has ls 4 [(0, .ref y), (1, .int ov), (2, .int mv)] := hl
    refine lv_iload_n hx hb dX3_rank_0 rfl (lv_at hl 1 rfl) ?_
    refine lv_iload_n hx hb dX3_rank_1 rfl (lv_at hl 2 rfl) ?_
    refine cl_M_37 (As := [.int ov, .int mv]) (rest := []) hx hb hml hown hts hG hw (c_M_isGood l D ct L f ov mv) rfl ⟨Nat.le_of_ble_eq_true rfl, Nat.le_of_ble_eq_true rfl⟩ hl.1 rfl (Nat.le_of_ble_eq_true rfl) dX3_rank_2 ⟨Nat.le_of_ble_eq_true rfl, Nat.le_of_ble_eq_true rfl⟩ (fun v L' f' H1 locs1 hp hw hcf => ?_)
    obtain ⟨hv, eL, ef⟩ := hp
    rw [eL, ef] at hw
    have hv : v = some (.int 0) := hv.elim (fun q => absurd q.1 hgood) (fun q => q.2)
    subst hv
    refine lv_if_eq (tgt := 23) hx hb dX3_rank_5 (by decide) (fun _ => ?_) (fun h => absurd rfl h)
    refine lv_iconst (v := (-1)) hx hb dX3_rank_23 (by decide) ?_
    exact jx_iret hx hb hrt hlk hw (Nat.le_of_ble_eq_true rfl) (Nat.le_of_ble_eq_true rfl) dX3_rank_24 ⟨by rw [sp_rank, if_neg hgood], hM⟩
set_option maxHeartbeats 4000000 in
set_option maxRecDepth 100000 in
theorem c_M_at (l : Launch) (D : va_G) (ct : Nat → ClassId) {N : Nat} {y : Nat} {L : List Nat} {f : Nat → va_E} {As : jq_S} (hM : jM N ct y L f As) (hN : N < 1000) {ov rv : Int32} :
    jz_M l D ct yX3_at cX3_at 3 (some .int) ({ frames := 1, cells := 0, slots := 0, locals := 20 } : Room) [.ref y, .int ov, .int rv] L f (fun v L' f' => v = some (.int (sp_at As ov rv)) ∧ jM N ct y L' f' As) := by
  by_cases ho : jq_o ov
  · obtain ⟨i, hi, ei, hcl0⟩ := jq_oN ho
    subst ei
    obtain ⟨rw, sc, th, sz, ro, ss, tt, zz, hS, hAll⟩ := id hM
    have hRi := hAll i hi
    obtain ⟨hwf, hlN, hzz, hro, hss, htt⟩ := id hRi
    refine jx_enter (by decide) (Nat.le_of_ble_eq_true rfl) ?_
    intro p e s m below meth c C hw ls hl
    obtain ⟨hx, hb, hrt, hlk, hnm, hml, hown, hts, hG⟩ := C
    have hl : lv_has ls 3 [(0, .ref y), (1, .int (nI i)), (2, .int rv)] := hl
    refine lv_iload_n hx hb dX3_at_0 rfl (lv_at hl 1 rfl) ?_
    refine cl_M_25 (As := [.int (nI i)]) (rest := []) hx hb hml hown hts hG hw (c_M_isOrder l D ct L f (nI i)) rfl ⟨Nat.le_of_ble_eq_true rfl, Nat.le_of_ble_eq_true rfl⟩ hl.1 rfl (Nat.le_of_ble_eq_true rfl) dX3_at_1 ⟨Nat.le_of_ble_eq_true rfl, Nat.le_of_ble_eq_true rfl⟩ (fun v L' f' H1 locs1 hp hw hcf => ?_)
    obtain ⟨hv, eL, ef⟩ := hp
    rw [eL, ef] at hw
    have hv : v = some (.int 1) := hv.elim (fun q => q.2) (fun q => absurd ho q.1)
    subst hv
    refine lv_if_eq (tgt := 36) hx hb dX3_at_4 (by decide) (fun h => absurd h (by decide)) (fun _ => ?_)
    refine lv_iload_n hx hb dX3_at_7 rfl (lv_at hl 2 rfl) ?_
    refine lv_if_lt (tgt := 36) hx hb dX3_at_8 (by decide) (fun h1 => ?_) (fun h1 => ?_)
    · refine lv_iconst (v := (-1)) hx hb dX3_at_36 (by decide) ?_
      exact jx_iret hx hb hrt hlk hw (Nat.le_of_ble_eq_true rfl) (Nat.le_of_ble_eq_true rfl) dX3_at_37 ⟨by rw [sp_at, if_neg (fun q => absurd h1 (Int32.not_lt.mpr q.2.1))], hM⟩
    · refine lv_iload_n hx hb dX3_at_11 rfl (lv_at hl 2 rfl) ?_
      refine lv_aload_n hx hb dX3_at_12 rfl (lv_at hl 0 rfl) ?_
      refine gf_M_21 hx hb hown hts hG hw hS.1.1 hS.2.1 dX3_at_13 ?_
      refine lv_iload_n hx hb dX3_at_16 rfl (lv_at hl 1 rfl) ?_
      refine jx_ialdI hx hb hG hw hS.1.2.2.2.2.1 0 hS.2.2.2.2.2 rfl hi (by decide) dX3_at_17 ?_
      rw [hzz]
      refine lv_icmp_ge (tgt := 36) hx hb dX3_at_18 (by decide) (fun h2 => ?_) (fun h2 => ?_)
      · refine lv_iconst (v := (-1)) hx hb dX3_at_36 (by decide) ?_
        exact jx_iret hx hb hrt hlk hw (Nat.le_of_ble_eq_true rfl) (Nat.le_of_ble_eq_true rfl) dX3_at_37 ⟨by rw [sp_at, if_neg (fun q => absurd q.2.2 (by rw [(jq_oI hi).2]; exact Int32.not_lt.mpr h2))], hM⟩
      · obtain ⟨t, ht31, rfl⟩ := nI_of h1
        have htl : t < (As i).length := by
          rcases Nat.lt_or_ge t (As i).length with z | z
          · exact z
          · exact absurd (nI_le z ht31) h2
        obtain ⟨x, hxt⟩ : ∃ x, (As i)[t]? = some x := ⟨_, List.getElem?_eq_getElem htl⟩
        have esp : sp_at As (nI i) (nI t) = nI x.1 := by rw [sp_at, if_pos ⟨(jq_oI hi).1, nI_pos' ht31, by rw [(jq_oI hi).2]; exact nI_lt htl (by omega)⟩, (jq_oI hi).2, nI_clamp ht31, hxt]
        refine lv_aload_n hx hb dX3_at_21 rfl (lv_at hl 0 rfl) ?_
        refine gf_M_7 hx hb hown hts hG hw hS.1.1 hS.2.1 dX3_at_22 ?_
        refine lv_sipush (v := nI 1000) hx hb dX3_at_25 (by decide) ?_
        refine lv_iload_n hx hb dX3_at_28 rfl (lv_at hl 1 rfl) ?_
        refine lv_imul hx hb dX3_at_29 ?_
        rw [pk_mul]
        refine lv_iload_n hx hb dX3_at_30 rfl (lv_at hl 2 rfl) ?_
        refine lv_iadd hx hb dX3_at_31 ?_
        rw [nI_add]
        refine jx_saldI hx hb hG hw hS.1.2.1 3 hS.2.2.1 rfl (by omega) (by decide) dX3_at_32 ?_
        refine lv_goto (tgt := 37) hx hb dX3_at_33 (by decide) ?_
        exact jx_iret hx hb hrt hlk hw (Nat.le_of_ble_eq_true rfl) (Nat.le_of_ble_eq_true rfl) dX3_at_37 ⟨by rw [esp, hro t x hxt], hM⟩
  · refine jx_enter (by decide) (Nat.le_of_ble_eq_true rfl) ?_
    intro p e s m below meth c C hw ls hl
    obtain ⟨hx, hb, hrt, hlk, hnm, hml, hown, hts, hG⟩ := C
    have hl : lv_has ls 3 [(0, .ref y), (1, .int ov), (2, .int rv)] := hl
    refine lv_iload_n hx hb dX3_at_0 rfl (lv_at hl 1 rfl) ?_
    refine cl_M_25 (As := [.int ov]) (rest := []) hx hb hml hown hts hG hw (c_M_isOrder l D ct L f ov) rfl ⟨Nat.le_of_ble_eq_true rfl, Nat.le_of_ble_eq_true rfl⟩ hl.1 rfl (Nat.le_of_ble_eq_true rfl) dX3_at_1 ⟨Nat.le_of_ble_eq_true rfl, Nat.le_of_ble_eq_true rfl⟩ (fun v L' f' H1 locs1 hp hw hcf => ?_)
    obtain ⟨hv, eL, ef⟩ := hp
    rw [eL, ef] at hw
    have hv : v = some (.int 0) := hv.elim (fun q => absurd q.1 ho) (fun q => q.2)
    subst hv
    refine lv_if_eq (tgt := 36) hx hb dX3_at_4 (by decide) (fun _ => ?_) (fun h => absurd rfl h)
    refine lv_iconst (v := (-1)) hx hb dX3_at_36 (by decide) ?_
    exact jx_iret hx hb hrt hlk hw (Nat.le_of_ble_eq_true rfl) (Nat.le_of_ble_eq_true rfl) dX3_at_37 ⟨by rw [sp_at, if_neg (fun q => ho q.1)], hM⟩
