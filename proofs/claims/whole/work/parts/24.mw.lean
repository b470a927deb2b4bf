section MBL
variable {p : Program} {l : Launch} {e : Env} {R : Room} {s : State} {m : MethodId} {args : Array Value} {below : List Frame} {meth : Method} {c : Code} {H : Heap} {locs : List Loc} {cells slots : Nat} {Q : State → Prop} {D : va_G} {ct : Nat → ClassId} {A : Nat → Prop} {H0 : Heap} {L : List Nat}
variable {y rw sc th sz : Nat} {f : Nat → va_E} {ro tt zz : Nat → Int32} {ss : Nat → Int64} {N i : Nat} {As : List (Nat × Int64)}
set_option maxHeartbeats 4000000 in
set_option maxRecDepth 100000 in
theorem lp_below (hx : p.tables.exec = Jvm.exec) (hb : c.code = cX3_below) (hml : c.maxLocals = 9) (hown : s.vm.findClass RX3 = some m.cls) (hts : ∀ w ∈ jz_TT, w.before args s = true) (hG : jz_G D ct s) (hS : jm_S ct y rw sc th sz L f ro ss tt zz) (hw : jz_w D A H0 L f H locs) (hi : i < 4) (hR0 : jm_R N i As ro ss tt zz) (hN : N < 1000) {s0 : Int64} {too : Int32}
    (kk : ∀ (ls : Array Slot), lv_has ls 9 [(5, .int (nI (As.countP (jq_low s0 too))))] → W p l e R s m args below meth c H locs cells slots Q (F0 m 87 ls [])) :
    ∀ (d t : Nat) (ls : Array Slot), As.length - t < d → t ≤ As.length → lv_has ls 9 [(0, .ref y), (1, .int (nI i)), (2, .long s0), (4, .int too), (5, .int (nI ((As.take t).countP (jq_low s0 too)))), (6, .int (nI t))] → W p l e R s m args below meth c H locs cells slots Q (F0 m 15 ls []) := by
  obtain ⟨hwf, hlN, hzz, hro, hss, htt⟩ := id hR0
  intro d
  induction d with
  | zero => intro t ls ht; exact absurd ht (Nat.not_lt_zero _)
  | succ d ih =>
    intro t ls ht htA hl
    refine lv_iload hx hb dX3_below_15 (lv_at hl 5 rfl) ?_
    refine lv_aload_n hx hb dX3_below_17 rfl (lv_at hl 0 rfl) ?_
    refine gf_M_21 hx hb hown hts hG hw hS.1.1 hS.2.1 dX3_below_18 ?_
    refine lv_iload_n hx hb dX3_below_21 rfl (lv_at hl 1 rfl) ?_
    refine jx_ialdI hx hb hG hw hS.1.2.2.2.2.1 0 hS.2.2.2.2.2 rfl hi (by decide) dX3_below_22 ?_
    rw [hzz]
    refine lv_icmp_ge (tgt := 87) hx hb dX3_below_23 (by decide) (fun hc => ?_) (fun hc => ?_)
    · have h4 : t = As.length := by
        rcases Nat.lt_or_ge t As.length with q | q
        · exact absurd (nI_lt q (by omega)) (Int32.not_lt.mpr hc)
        · omega
      subst h4
      rw [List.take_length] at hl
      exact kk ls (lv_sub hl [4] rfl)
    · have h4 : t < As.length := by
        rcases Nat.lt_or_ge t As.length with q | q
        · exact q
        · exact absurd (nI_le q (by omega)) hc
      obtain ⟨x, hxt⟩ : ∃ x, As[t]? = some x := ⟨_, List.getElem?_eq_getElem h4⟩
      have hxA : x ∈ As := List.mem_of_getElem? hxt
      have hx1 := hwf.2.2 x hxA
      have htk : (As.take (t + 1)).countP (jq_low s0 too) = (As.take t).countP (jq_low s0 too) + (if jq_low s0 too x = true then 1 else 0) := by
        rw [List.take_add_one, List.countP_append, hxt]
        congr 1
        simp [List.countP_cons]
      refine lv_aload_n hx hb dX3_below_26 rfl (lv_at hl 0 rfl) ?_
      refine gf_M_13 hx hb hown hts hG hw hS.1.1 hS.2.1 dX3_below_27 ?_
      refine lv_sipush (v := nI 1000) hx hb dX3_below_30 (by decide) ?_
      refine lv_iload_n hx hb dX3_below_33 rfl (lv_at hl 1 rfl) ?_
      refine lv_imul hx hb dX3_below_34 ?_
      rw [pk_mul]
      refine lv_aload_n hx hb dX3_below_35 rfl (lv_at hl 0 rfl) ?_
      refine gf_M_7 hx hb hown hts hG hw hS.1.1 hS.2.1 dX3_below_36 ?_
      refine lv_sipush (v := nI 1000) hx hb dX3_below_39 (by decide) ?_
      refine lv_iload_n hx hb dX3_below_42 rfl (lv_at hl 1 rfl) ?_
      refine lv_imul hx hb dX3_below_43 ?_
      rw [pk_mul]
      refine lv_iload hx hb dX3_below_44 (lv_at hl 5 rfl) ?_
      refine lv_iadd hx hb dX3_below_46 ?_
      rw [nI_add]
      refine jx_saldI hx hb hG hw hS.1.2.1 3 hS.2.2.1 rfl (by omega) (by decide) dX3_below_47 ?_
      rw [hro t x hxt]
      refine lv_iadd hx hb dX3_below_48 ?_
      rw [nI_add]
      refine jx_laldI hx hb hG hw hS.1.2.2.1 4 hS.2.2.2.1 rfl (by omega) (by decide) dX3_below_49 ?_
      rw [hss x hxA]
      refine lv_lstore (lv' := [(7, .long x.2), (0, .ref y), (1, .int (nI i)), (2, .long s0), (4, .int too), (5, .int (nI ((As.take t).countP (jq_low s0 too)))), (6, .int (nI t))]) hx hb dX3_below_50 hl (by decide) rfl (fun ls hl => ?_)
      refine lv_iload hx hb dX3_below_52 (lv_at hl 5 rfl) ?_
      refine lv_lload hx hb dX3_below_54 (lv_at hl 0 rfl) ?_
      refine lv_lload_n hx hb dX3_below_56 rfl (lv_at hl 3 rfl) ?_
      refine W.lcmp hx hb dX3_below_57 ?_
      refine lv_if_lt (tgt := 73) hx hb dX3_below_58 (by decide) (fun h1x => ?_) (fun h1x => ?_)
      · have h1 := (lg_cmp_lt _ _).mp h1x
        have hbit : jq_low s0 too x = true := by simp [jq_low, h1]
        rw [hbit, if_pos rfl] at htk
        refine lv_iconst (v := nI 1) hx hb dX3_below_73 (by decide) ?_
        refine lv_goto (tgt := 78) hx hb dX3_below_74 (by decide) ?_
        refine lv_iadd hx hb dX3_below_78 ?_
        rw [nI_add, ← htk]
        refine lv_istore (lv' := [(5, .int (nI ((As.take (t + 1)).countP (jq_low s0 too)))), (7, .long x.2), (0, .ref y), (1, .int (nI i)), (2, .long s0), (4, .int too), (6, .int (nI t))]) hx hb dX3_below_79 hl (by decide) rfl (fun ls hl => ?_)
        refine lv_iinc (v := nI (t + 1)) (lv' := [(6, .int (nI (t + 1))), (5, .int (nI ((As.take (t + 1)).countP (jq_low s0 too)))), (7, .long x.2), (0, .ref y), (1, .int (nI i)), (2, .long s0), (4, .int too)]) hx hb dX3_below_81 hl (k := 6) rfl (nI_succ t).symm (by decide) rfl (fun ls hl => ?_)
        refine lv_goto (tgt := 15) hx hb dX3_below_84 (by decide) ?_
        exact ih (t + 1) ls (by omega) (by omega) (lv_sub hl [3, 4, 5, 6, 1, 0] rfl)
      · have h1 : ¬ x.2 < s0 := fun q => h1x ((lg_cmp_lt _ _).mpr q)
        refine lv_iload hx hb dX3_below_61 (lv_at hl 4 rfl) ?_
        refine lv_if_eq (tgt := 77) hx hb dX3_below_63 (by decide) (fun h2 => ?_) (fun h2 => ?_)
        · have hbit : jq_low s0 too x = false := by simp [jq_low, h1, h2]
          rw [hbit, if_neg (by decide)] at htk
          refine lv_iconst (v := nI 0) hx hb dX3_below_77 (by decide) ?_
          refine lv_iadd hx hb dX3_below_78 ?_
          rw [nI_add, ← htk]
          refine lv_istore (lv' := [(5, .int (nI ((As.take (t + 1)).countP (jq_low s0 too)))), (7, .long x.2), (0, .ref y), (1, .int (nI i)), (2, .long s0), (4, .int too), (6, .int (nI t))]) hx hb dX3_below_79 hl (by decide) rfl (fun ls hl => ?_)
          refine lv_iinc (v := nI (t + 1)) (lv' := [(6, .int (nI (t + 1))), (5, .int (nI ((As.take (t + 1)).countP (jq_low s0 too)))), (7, .long x.2), (0, .ref y), (1, .int (nI i)), (2, .long s0), (4, .int too)]) hx hb dX3_below_81 hl (k := 6) rfl (nI_succ t).symm (by decide) rfl (fun ls hl => ?_)
          refine lv_goto (tgt := 15) hx hb dX3_below_84 (by decide) ?_
          exact ih (t + 1) ls (by omega) (by omega) (lv_sub hl [3, 4, 5, 6, 1, 0] rfl)
        · refine lv_lload hx hb dX3_below_66 (lv_at hl 0 rfl) ?_
          refine lv_lload_n hx hb dX3_below_68 rfl (lv_at hl 3 rfl) ?_
          refine W.lcmp hx hb dX3_below_69 ?_
          refine lv_if_ne (tgt := 77) hx hb dX3_below_70 (by decide) (fun h3x => ?_) (fun h3x => ?_)
          · have h3 : ¬ x.2 = s0 := fun q => h3x ((lg_cmp_eq _ _).mpr q)
            have hbit : jq_low s0 too x = false := by simp [jq_low, h1, h3]
            rw [hbit, if_neg (by decide)] at htk
            refine lv_iconst (v := nI 0) hx hb dX3_below_77 (by decide) ?_
            refine lv_iadd hx hb dX3_below_78 ?_
            rw [nI_add, ← htk]
            refine lv_istore (lv' := [(5, .int (nI ((As.take (t + 1)).countP (jq_low s0 too)))), (7, .long x.2), (0, .ref y), (1, .int (nI i)), (2, .long s0), (4, .int too), (6, .int (nI t))]) hx hb dX3_below_79 hl (by decide) rfl (fun ls hl => ?_)
            refine lv_iinc (v := nI (t + 1)) (lv' := [(6, .int (nI (t + 1))), (5, .int (nI ((As.take (t + 1)).countP (jq_low s0 too)))), (7, .long x.2), (0, .ref y), (1, .int (nI i)), (2, .long s0), (4, .int too)]) hx hb dX3_below_81 hl (k := 6) rfl (nI_succ t).symm (by decide) rfl (fun ls hl => ?_)
            refine lv_goto (tgt := 15) hx hb dX3_below_84 (by decide) ?_
            exact ih (t + 1) ls (by omega) (by omega) (lv_sub hl [3, 4, 5, 6, 1, 0] rfl)
          · have h3 := (lg_cmp_eq _ _).mp h3x
            have hbit : jq_low s0 too x = true := by simp [jq_low, h2, h3]
            rw [hbit, if_pos rfl] at htk
            refine lv_iconst (v := nI 1) hx hb dX3_below_73 (by decide) ?_
            refine lv_goto (tgt := 78) hx hb dX3_below_74 (by decide) ?_
            refine lv_iadd hx hb dX3_below_78 ?_
            rw [nI_add, ← htk]
            refine lv_istore (lv' := [(5, .int (nI ((As.take (t + 1)).countP (jq_low s0 too)))), (7, .long x.2), (0, .ref y), (1, .int (nI i)), (2, .long s0), (4, .int too), (6, .int (nI t))]) hx hb dX3_below_79 hl (by decide) rfl (fun ls hl => ?_)
            refine lv_iinc (v := nI (t + 1)) (lv' := [(6, .int (nI (t + 1))), (5, .int (nI ((As.take (t + 1)).countP (jq_low s0 too)))), (7, .long x.2), (0, .ref y), (1, .int (nI i)), (2, .long s0), (4, .int too)]) hx hb dX3_below_81 hl (k := 6) rfl (nI_succ t).symm (by decide) rfl (fun ls hl => ?_)
            refine lv_goto (tgt := 15) hx hb dX3_below_84 (by decide) ?_
            exact ih (t + 1) ls (by omega) (by omega) (lv_sub hl [3, 4, 5, 6, 1, 0] rfl)
end MBL
set_option maxHeartbeats 4000000 in
set_option maxRecDepth 100000 in
theorem c_M_below (l : Launch) (D : va_G) (ct : Nat → ClassId) {N : Nat} {y : Nat} {L : List Nat} {f : Nat → va_E} {As : jq_S} (hM : jM N ct y L f As) (hN : N < 1000) {ov too : Int32} {s0 : Int64} :
    jz_M l D ct yX3_below cX3_below 9 (some .int) ({ frames := 1, cells := 0, slots := 0, locals := 20 } : Room) [.ref y, .int ov, .long s0, .int too] L f (fun v L' f' => v = some (.int (sp_below As ov s0 too)) ∧ jM N ct y L' f' As) := by
  by_cases ho : jq_o ov
  · obtain ⟨i, hi, ei, hcl0⟩ := jq_oN ho
    subst ei
    obtain ⟨rw, sc, th, sz, ro, ss, tt, zz, hS, hAll⟩ := id hM
    have hRi := hAll i hi
    obtain ⟨hwf, hlN, hzz, hro, hss, htt⟩ := id hRi
    refine jx_enter (by decide) (Nat.le_of_ble_eq_true rfl) ?_
    intro p e s m below meth c C hw ls hl
    obtain ⟨hx, hb, hrt, hlk, hnm, hml, hown, hts, hG⟩ := C
    have hl : lv_has ls 9 [(0, .ref y), (1, .int (nI i)), (2, .long s0), (4, .int too)] := hl
    refine lv_iload_n hx hb dX3_below_0 rfl (lv_at hl 1 rfl) ?_
    refine cl_M_25 (As := [.int (nI i)]) (rest := []) hx hb hml hown hts hG hw (c_M_isOrder l D ct L f (nI i)) rfl ⟨Nat.le_of_ble_eq_true rfl, Nat.le_of_ble_eq_true rfl⟩ hl.1 rfl (Nat.le_of_ble_eq_true rfl) dX3_below_1 ⟨Nat.le_of_ble_eq_true rfl, Nat.le_of_ble_eq_true rfl⟩ (fun v L' f' H1 locs1 hp hw hcf => ?_)
    obtain ⟨hv, eL, ef⟩ := hp
    rw [eL, ef] at hw
    have hv : v = some (.int 1) := hv.elim (fun q => q.2) (fun q => absurd ho q.1)
    subst hv
    refine lv_if_ne (tgt := 9) hx hb dX3_below_4 (by decide) (fun _ => ?_) (fun h => absurd h (by decide))
    refine lv_iconst (v := nI 0) hx hb dX3_below_9 (by decide) ?_
    refine lv_istore (lv' := [(5, .int (nI 0)), (0, .ref y), (1, .int (nI i)), (2, .long s0), (4, .int too)]) hx hb dX3_below_10 hl (by decide) rfl (fun ls hl => ?_)
    refine lv_iconst (v := nI 0) hx hb dX3_below_12 (by decide) ?_
    refine lv_istore (lv' := [(6, .int (nI 0)), (5, .int (nI 0)), (0, .ref y), (1, .int (nI i)), (2, .long s0), (4, .int too)]) hx hb dX3_below_13 hl (by decide) rfl (fun ls hl => ?_)
    have esp : sp_below As (nI i) s0 too = nI ((As i).countP (jq_low s0 too)) := by rw [sp_below, if_pos (jq_oI hi).1, (jq_oI hi).2]
    refine lp_below hx hb hml hown hts hG hS hw hi hRi hN (fun ls hl => ?_) ((As i).length + 1) 0 ls (by omega) (Nat.zero_le _) (lv_sub hl [2, 3, 4, 5, 1, 0] rfl)
    refine lv_iload hx hb dX3_below_87 (lv_at hl 0 rfl) ?_
    exact jx_iret hx hb hrt hlk hw (Nat.le_of_ble_eq_true rfl) (Nat.le_of_ble_eq_true rfl) dX3_below_89 ⟨by rw [esp], hM⟩
  · refine jx_enter (by decide) (Nat.le_of_ble_eq_true rfl) ?_
    intro p e s m below meth c C hw ls hl
    obtain ⟨hx, hb, hrt, hlk, hnm, hml, hown, hts, hG⟩ := C
    have hl : lv_has ls 9 [(0, .ref y), (1, .int ov), (2, .long s0), (4, .int too)] := hl
    refine lv_iload_n hx hb dX3_below_0 rfl (lv_at hl 1 rfl) ?_
    refine cl_M_25 (As := [.int ov]) (rest := []) hx hb hml hown hts hG hw (c_M_isOrder l D ct L f ov) rfl ⟨Nat.le_of_ble_eq_true rfl, Nat.le_of_ble_eq_true rfl⟩ hl.1 rfl (Nat.le_of_ble_eq_true rfl) dX3_below_1 ⟨Nat.le_of_ble_eq_true rfl, Nat.le_of_ble_eq_true rfl⟩ (fun v L' f' H1 locs1 hp hw hcf => ?_)
    obtain ⟨hv, eL, ef⟩ := hp
    rw [eL, ef] at hw
    have hv : v = some (.int 0) := hv.elim (fun q => absurd q.1 ho) (fun q => q.2)
    subst hv
    refine lv_if_ne (tgt := 9) hx hb dX3_below_4 (by decide) (fun h => absurd rfl h) (fun _ => ?_)
    refine lv_iconst (v := (-1)) hx hb dX3_below_7 (by decide) ?_
    exact jx_iret hx hb hrt hlk hw (Nat.le_of_ble_eq_true rfl) (Nat.le_of_ble_eq_true rfl) dX3_below_8 ⟨by rw [sp_below, if_neg ho], hM⟩
section MWK
variable {p : Program} {l : Launch} {e : Env} {R : Room} {s : State} {m : MethodId} {args : Array Value} {below : List Frame} {meth : Method} {c : Code} {H : Heap} {locs : List Loc} {cells slots : Nat} {Q : State → Prop} {D : va_G} {ct : Nat → ClassId} {A : Nat → Prop} {H0 : Heap} {L : List Nat}
variable {y rw sc th sz : Nat} {f : Nat → va_E} {ro tt zz : Nat → Int32} {ss : Nat → Int64} {N i : Nat} {As : List (Nat × Int64)}
set_option maxHeartbeats 4000000 in
set_option maxRecDepth 100000 in
theorem lp_mwalk (hx : p.tables.exec = Jvm.exec) (hb : c.code = cX3_walk) (hml : c.maxLocals = 6) (hown : s.vm.findClass RX3 = some m.cls) (hts : ∀ w ∈ jz_TT, w.before args s = true) (hG : jz_G D ct s) (hS : jm_S ct y rw sc th sz L f ro ss tt zz) (hw : jz_w D A H0 L f H locs) (hi : i < 4) (hR0 : jm_R N i As ro ss tt zz) (hN : N < 1000) {fr nn : Nat} (hfr : fr < 2 ^ 31) (hnn : nn ≤ 1000) {res : Int32}
    (kk : ∀ (ls : Array Slot), lv_has ls 6 [(4, .int res)] → W p l e R s m args below meth c H locs cells slots Q (F0 m 77 ls [])) :
    ∀ (d t : Nat) (sm : Int32) (ls : Array Slot), As.length - t < d → fr ≤ t → t < 2 ^ 31 → jq_sum sm ((As.drop t).take (nn - (t - fr))) = res → lv_has ls 6 [(0, .ref y), (1, .int (nI i)), (2, .int (nI fr)), (3, .int (nI nn)), (4, .int sm), (5, .int (nI t))] → W p l e R s m args below meth c H locs cells slots Q (F0 m 31 ls []) := by
  obtain ⟨hwf, hlN, hzz, hro, hss, htt⟩ := id hR0
  intro d
  induction d with
  | zero => intro t sm ls ht; exact absurd ht (Nat.not_lt_zero _)
  | succ d ih =>
    intro t sm ls ht hft ht31 hres hl
    refine lv_iload hx hb dX3_walk_31 (lv_at hl 5 rfl) ?_
    refine lv_aload_n hx hb dX3_walk_33 rfl (lv_at hl 0 rfl) ?_
    refine gf_M_21 hx hb hown hts hG hw hS.1.1 hS.2.1 dX3_walk_34 ?_
    refine lv_iload_n hx hb dX3_walk_37 rfl (lv_at hl 1 rfl) ?_
    refine jx_ialdI hx hb hG hw hS.1.2.2.2.2.1 0 hS.2.2.2.2.2 rfl hi (by decide) dX3_walk_38 ?_
    rw [hzz]
    refine lv_icmp_ge (tgt := 77) hx hb dX3_walk_39 (by decide) (fun hc => ?_) (fun hc => ?_)
    · have h4 : As.length ≤ t := by
        rcases Nat.lt_or_ge t As.length with q | q
        · exact absurd (nI_lt q (by omega)) (Int32.not_lt.mpr hc)
        · exact q
      rw [List.drop_eq_nil_of_le h4, List.take_nil] at hres
      have hres : sm = res := hres
      subst hres
      exact kk ls (lv_sub hl [4] rfl)
    · have h4 : t < As.length := by
        rcases Nat.lt_or_ge t As.length with q | q
        · exact q
        · exact absurd (nI_le q (by omega)) hc
      refine lv_iload hx hb dX3_walk_42 (lv_at hl 5 rfl) ?_
      refine lv_iload_n hx hb dX3_walk_44 rfl (lv_at hl 2 rfl) ?_
      refine lv_isub hx hb dX3_walk_45 ?_
      rw [pk_sub hft]
      refine lv_iload_n hx hb dX3_walk_46 rfl (lv_at hl 3 rfl) ?_
      refine lv_icmp_ge (tgt := 77) hx hb dX3_walk_47 (by decide) (fun hd => ?_) (fun hd => ?_)
      · have h5 : nn ≤ t - fr := by
          rcases Nat.lt_or_ge (t - fr) nn with q | q
          · exact absurd (nI_lt q (by omega)) (Int32.not_lt.mpr hd)
          · exact q
        rw [show nn - (t - fr) = 0 by omega, List.take_zero] at hres
        have hres : sm = res := hres
        subst hres
        exact kk ls (lv_sub hl [4] rfl)
      · have h5 : t - fr < nn := by
          rcases Nat.lt_or_ge (t - fr) nn with q | q
          · exact q
          · exact absurd (nI_le q (by omega)) hd
        obtain ⟨x, hxt⟩ : ∃ x, As[t]? = some x := ⟨_, List.getElem?_eq_getElem h4⟩
        refine lv_bipush (v := 31) hx hb dX3_walk_50 (by decide) ?_
        refine lv_iload hx hb dX3_walk_52 (lv_at hl 4 rfl) ?_
        refine lv_imul hx hb dX3_walk_54 ?_
        refine lv_aload_n hx hb dX3_walk_55 rfl (lv_at hl 0 rfl) ?_
        refine gf_M_7 hx hb hown hts hG hw hS.1.1 hS.2.1 dX3_walk_56 ?_
        refine lv_sipush (v := nI 1000) hx hb dX3_walk_59 (by decide) ?_
        refine lv_iload_n hx hb dX3_walk_62 rfl (lv_at hl 1 rfl) ?_
        refine lv_imul hx hb dX3_walk_63 ?_
        rw [pk_mul]
        refine lv_iload hx hb dX3_walk_64 (lv_at hl 5 rfl) ?_
        refine lv_iadd hx hb dX3_walk_66 ?_
        rw [nI_add]
        refine jx_saldI hx hb hG hw hS.1.2.1 3 hS.2.2.1 rfl (by omega) (by decide) dX3_walk_67 ?_
        rw [hro t x hxt]
        refine lv_iadd hx hb dX3_walk_68 ?_
        refine lv_istore (lv' := [(4, .int ((31 * sm) + (nI x.1))), (0, .ref y), (1, .int (nI i)), (2, .int (nI fr)), (3, .int (nI nn)), (5, .int (nI t))]) hx hb dX3_walk_69 hl (by decide) rfl (fun ls hl => ?_)
        refine lv_iinc (v := nI (t + 1)) (lv' := [(5, .int (nI (t + 1))), (4, .int ((31 * sm) + (nI x.1))), (0, .ref y), (1, .int (nI i)), (2, .int (nI fr)), (3, .int (nI nn))]) hx hb dX3_walk_71 hl (k := 5) rfl (nI_succ t).symm (by decide) rfl (fun ls hl => ?_)
        refine lv_goto (tgt := 31) hx hb dX3_walk_74 (by decide) ?_
        refine ih (t + 1) (31 * sm + nI x.1) ls (by omega) (by omega) (by omega) ?_ (lv_sub hl [2, 3, 4, 5, 1, 0] rfl)
        rw [← hres, List.drop_eq_getElem_cons h4, (List.getElem?_eq_some_iff.mp hxt).2, show nn - (t - fr) = (nn - (t + 1 - fr)) + 1 by omega, List.take_succ_cons, jq_sum]
end MWK
set_option maxHeartbeats 4000000 in
set_option maxRecDepth 100000 in
theorem c_M_walk (l : Launch) (D : va_G) (ct : Nat → ClassId) {N : Nat} {y : Nat} {L : List Nat} {f : Nat → va_E} {As : jq_S} (hM : jM N ct y L f As) (hN : N < 1000) {ov fv nv : Int32} :
    jz_M l D ct yX3_walk cX3_walk 6 (some .int) ({ frames := 1, cells := 0, slots := 0, locals := 20 } : Room) [.ref y, .int ov, .int fv, .int nv] L f (fun v L' f' => v = some (.int (sp_walk As ov fv nv)) ∧ jM N ct y L' f' As) := by
  by_cases ho : jq_o ov
  · obtain ⟨i, hi, ei, hcl0⟩ := jq_oN ho
    subst ei
    obtain ⟨rw, sc, th, sz, ro, ss, tt, zz, hS, hAll⟩ := id hM
    have hRi := hAll i hi
    obtain ⟨hwf, hlN, hzz, hro, hss, htt⟩ := id hRi
    refine jx_enter (by decide) (Nat.le_of_ble_eq_true rfl) ?_
    intro p e s m below meth c C hw ls hl
    obtain ⟨hx, hb, hrt, hlk, hnm, hml, hown, hts, hG⟩ := C
    have hl : lv_has ls 6 [(0, .ref y), (1, .int (nI i)), (2, .int fv), (3, .int nv)] := hl
    refine lv_iload_n hx hb dX3_walk_0 rfl (lv_at hl 1 rfl) ?_
    refine cl_M_25 (As := [.int (nI i)]) (rest := []) hx hb hml hown hts hG hw (c_M_isOrder l D ct L f (nI i)) rfl ⟨Nat.le_of_ble_eq_true rfl, Nat.le_of_ble_eq_true rfl⟩ hl.1 rfl (Nat.le_of_ble_eq_true rfl) dX3_walk_1 ⟨Nat.le_of_ble_eq_true rfl, Nat.le_of_ble_eq_true rfl⟩ (fun v L' f' H1 locs1 hp hw hcf => ?_)
    obtain ⟨hv, eL, ef⟩ := hp
    rw [eL, ef] at hw
    have hv : v = some (.int 1) := hv.elim (fun q => q.2) (fun q => absurd ho q.1)
    subst hv
    refine lv_if_eq (tgt := 22) hx hb dX3_walk_4 (by decide) (fun h => absurd h (by decide)) (fun _ => ?_)
    refine lv_iload_n hx hb dX3_walk_7 rfl (lv_at hl 2 rfl) ?_
    refine lv_if_lt (tgt := 22) hx hb dX3_walk_8 (by decide) (fun h1 => ?_) (fun h1 => ?_)
    · refine lv_iconst (v := (-1)) hx hb dX3_walk_22 (by decide) ?_
      exact jx_iret hx hb hrt hlk hw (Nat.le_of_ble_eq_true rfl) (Nat.le_of_ble_eq_true rfl) dX3_walk_23 ⟨by rw [sp_walk, if_neg (fun q => q.2.1 h1)], hM⟩
    · refine lv_iload_n hx hb dX3_walk_11 rfl (lv_at hl 3 rfl) ?_
      refine lv_if_lt (tgt := 22) hx hb dX3_walk_12 (by decide) (fun h2 => ?_) (fun h2 => ?_)
      · refine lv_iconst (v := (-1)) hx hb dX3_walk_22 (by decide) ?_
        exact jx_iret hx hb hrt hlk hw (Nat.le_of_ble_eq_true rfl) (Nat.le_of_ble_eq_true rfl) dX3_walk_23 ⟨by rw [sp_walk, if_neg (fun q => q.2.2.1 h2)], hM⟩
      · refine lv_iload_n hx hb dX3_walk_15 rfl (lv_at hl 3 rfl) ?_
        refine lv_sipush (v := nI 1000) hx hb dX3_walk_16 (by decide) ?_
        refine lv_icmp_le (tgt := 24) hx hb dX3_walk_19 (by decide) (fun h3 => ?_) (fun h3 => ?_)
        · obtain ⟨nn, hn31, rfl⟩ := nI_of h2
          have hnn : nn ≤ 1000 := (nI_leI hn31 (by decide)).mp h3
          obtain ⟨fr, hf31, rfl⟩ := nI_of h1
          have esp : sp_walk As (nI i) (nI fr) (nI nn) = jq_sum 7 (((As i).drop fr).take nn) := by rw [sp_walk, if_pos ⟨(jq_oI hi).1, h1, h2, h3⟩, (jq_oI hi).2, nI_clamp hn31, nI_clamp hf31]
          refine lv_bipush (v := 7) hx hb dX3_walk_24 (by decide) ?_
          refine lv_istore (lv' := [(4, .int 7), (0, .ref y), (1, .int (nI i)), (2, .int (nI fr)), (3, .int (nI nn))]) hx hb dX3_walk_26 hl (by decide) rfl (fun ls hl => ?_)
          refine lv_iload_n hx hb dX3_walk_28 rfl (lv_at hl 3 rfl) ?_
          refine lv_istore (lv' := [(5, .int (nI fr)), (4, .int 7), (0, .ref y), (1, .int (nI i)), (2, .int (nI fr)), (3, .int (nI nn))]) hx hb dX3_walk_29 hl (by decide) rfl (fun ls hl => ?_)
          refine lp_mwalk (res := sp_walk As (nI i) (nI fr) (nI nn)) hx hb hml hown hts hG hS hw hi hRi hN hf31 hnn (fun ls hl => ?_) ((As i).length - fr + 1) fr 7 ls (by omega) (Nat.le_refl _) hf31 (by rw [esp, Nat.sub_self, Nat.sub_zero]) (lv_sub hl [2, 3, 4, 5, 1, 0] rfl)
          refine lv_iload hx hb dX3_walk_77 (lv_at hl 0 rfl) ?_
          exact jx_iret hx hb hrt hlk hw (Nat.le_of_ble_eq_true rfl) (Nat.le_of_ble_eq_true rfl) dX3_walk_79 ⟨rfl, hM⟩
        · refine lv_iconst (v := (-1)) hx hb dX3_walk_22 (by decide) ?_
          exact jx_iret hx hb hrt hlk hw (Nat.le_of_ble_eq_true rfl) (Nat.le_of_ble_eq_true rfl) dX3_walk_23 ⟨by rw [sp_walk, if_neg (fun q => h3 q.2.2.2)], hM⟩
  · refine jx_enter (by decide) (Nat.le_of_ble_eq_true rfl) ?_
    intro p e s m below meth c C hw ls hl
    obtain ⟨hx, hb, hrt, hlk, hnm, hml, hown, hts, hG⟩ := C
    have hl : lv_has ls 6 [(0, .ref y), (1, .int ov), (2, .int fv), (3, .int nv)] := hl
    refine lv_iload_n hx hb dX3_walk_0 rfl (lv_at hl 1 rfl) ?_
    refine cl_M_25 (As := [.int ov]) (rest := []) hx hb hml hown hts hG hw (c_M_isOrder l D ct L f ov) rfl ⟨Nat.le_of_ble_eq_true rfl, Nat.le_of_ble_eq_true rfl⟩ hl.1 rfl (Nat.le_of_ble_eq_true rfl) dX3_walk_1 ⟨Nat.le_of_ble_eq_true rfl, Nat.le_of_ble_eq_true rfl⟩ (fun v L' f' H1 locs1 hp hw hcf => ?_)
    obtain ⟨hv, eL, ef⟩ := hp
    rw [eL, ef] at hw
    have hv : v = some (.int 0) := hv.elim (fun q => absurd q.1 ho) (fun q => q.2)
    subst hv
    refine lv_if_eq (tgt := 22) hx hb dX3_walk_4 (by decide) (fun _ => ?_) (fun h => absurd rfl h)
    refine lv_iconst (v := (-1)) hx hb dX3_walk_22 (by decide) ?_
    exact jx_iret hx hb hrt hlk hw (Nat.le_of_ble_eq_true rfl) (Nat.le_of_ble_eq_true rfl) dX3_walk_23 ⟨by rw [sp_walk, if_neg (fun q => ho q.1)], hM⟩
set_option maxHeartbeats 4000000 in
set_option maxRecDepth 100000 in
theorem c_M_init (l : Launch) (D : va_G) (ct : Nat → ClassId) {L : List Nat} {f : Nat → va_E} {y : Nat} (hyL : y ∈ L) (hfy : f y = .inr (3, [.null, .null, .null, .null])) :
    jz_M l D ct yX3_init cX3_init 1 none ({ frames := 1, cells := 4, slots := 12004, locals := 12 } : Room) [.ref y] L f (fun v L' f' => v = none ∧ jM 0 ct y L' f' (fun _ => [])) := by
  refine jx_enter (by decide) (Nat.le_of_ble_eq_true rfl) ?_
  intro p e s m below meth c C hw ls hl
  obtain ⟨hx, hb, hrt, hlk, hnm, hml, hown, hts, hG⟩ := C
  have hl : lv_has ls 1 [(0, .ref y)] := hl
  refine lv_aload_n hx hb dX3_init_0 rfl (lv_at hl 0 rfl) ?_
  refine W.objInit hx hb hown (hts _ (by decide +kernel)) (hts _ (by decide +kernel)) (hts _ jz_objc) rfl (by rw [hml]; exact hl.1) rfl dX3_init_1 (Nat.le_of_ble_eq_true rfl) (Nat.le_of_ble_eq_true rfl) ?_
  refine W.eq (g2 := F0 m 4 ls []) rfl ?_
  refine lv_aload_n hx hb dX3_init_4 rfl (lv_at hl 0 rfl) ?_
  refine lv_sipush (v := nI 4000) hx hb dX3_init_5 (by decide) ?_
  refine jx_newa (a0 := (4000, .inl (fun _ => 0))) hx hb hts (by decide +kernel) (ty := .short) rfl hG hw 3 rfl (N' := 4000) (fun cA => rfl) (nI_pos (by decide)) (nI_clamp (by decide)) (by decide) (Nat.le_of_ble_eq_true rfl) (Nat.le_of_ble_eq_true rfl) dX3_init_8 (fun rw H hrwL hw => ?_)
  have hyrw : y ≠ rw := fun z => hrwL (z ▸ hyL)
  have hyM0 : y ∈ (L ++ [rw]) := List.mem_append_left _ hyL
  have hrwM : rw ∈ (L ++ [rw]) := List.mem_append_right _ (List.mem_singleton.mpr rfl)
  refine pf_M_7 hx hb hown hts hG hw hyM0 (by rw [va_up_ne _ _ hyrw]; exact hfy) hnm dX3_init_10 (fun H locs hw => ?_)
  obtain ⟨g0, hg0⟩ : ∃ z, z = va_up (va_up f rw (.inl (ct 3, 4000, .inl (fun _ => 0)))) y (.inr (3, [.ref rw, .null, .null, .null])) := ⟨_, rfl⟩
  have hw : jz_w D (va_A (va_pl L f) s.heap.size) s.heap (L ++ [rw]) g0 H locs := by rw [hg0]; exact hw
  have hfy0 : g0 y = .inr (3, [.ref rw, .null, .null, .null]) := by rw [hg0, va_up_self]
  have hfrw : g0 rw = .inl (ct 3, 4000, .inl (fun _ => 0)) := by rw [hg0, va_up_ne _ _ hyrw.symm, va_up_self]
  refine lv_aload_n hx hb dX3_init_13 rfl (lv_at hl 0 rfl) ?_
  refine lv_sipush (v := nI 4000) hx hb dX3_init_14 (by decide) ?_
  refine jx_newa (a0 := (4000, .inr (.inl (fun _ => 0)))) hx hb hts (by decide +kernel) (ty := .long) rfl hG hw 4 rfl (N' := 4000) (fun cA => rfl) (nI_pos (by decide)) (nI_clamp (by decide)) (by decide) (Nat.le_of_ble_eq_true rfl) (Nat.le_of_ble_eq_true rfl) dX3_init_17 (fun sc H hscL hw => ?_)
  have hysc : y ≠ sc := fun z => hscL (z ▸ hyM0)
  have hrwsc : rw ≠ sc := fun z => hscL (z ▸ hrwM)
  have hyM1 : y ∈ ((L ++ [rw]) ++ [sc]) := List.mem_append_left _ hyM0
  have hrwM : rw ∈ ((L ++ [rw]) ++ [sc]) := List.mem_append_left _ hrwM
  have hscM : sc ∈ ((L ++ [rw]) ++ [sc]) := List.mem_append_right _ (List.mem_singleton.mpr rfl)
  refine pf_M_13 hx hb hown hts hG hw hyM1 (by rw [va_up_ne _ _ hysc]; exact hfy0) hnm dX3_init_19 (fun H locs hw => ?_)
  obtain ⟨g1, hg1⟩ : ∃ z, z = va_up (va_up g0 sc (.inl (ct 4, 4000, .inr (.inl (fun _ => 0))))) y (.inr (3, [.ref rw, .ref sc, .null, .null])) := ⟨_, rfl⟩
  have hw : jz_w D (va_A (va_pl L f) s.heap.size) s.heap ((L ++ [rw]) ++ [sc]) g1 H locs := by rw [hg1]; exact hw
  have hfy1 : g1 y = .inr (3, [.ref rw, .ref sc, .null, .null]) := by rw [hg1, va_up_self]
  have hfrw : g1 rw = .inl (ct 3, 4000, .inl (fun _ => 0)) := by rw [hg1, va_up_ne _ _ hyrw.symm, va_up_ne _ _ hrwsc]; exact hfrw
  have hfsc : g1 sc = .inl (ct 4, 4000, .inr (.inl (fun _ => 0))) := by rw [hg1, va_up_ne _ _ hysc.symm, va_up_self]
  refine lv_aload_n hx hb dX3_init_22 rfl (lv_at hl 0 rfl) ?_
  refine lv_sipush (v := nI 4000) hx hb dX3_init_23 (by decide) ?_
  refine jx_newa (a0 := (4000, .inl (fun _ => 0))) hx hb hts (by decide +kernel) (ty := .boolean) rfl hG hw 5 rfl (N' := 4000) (fun cA => rfl) (nI_pos (by decide)) (nI_clamp (by decide)) (by decide) (Nat.le_of_ble_eq_true rfl) (Nat.le_of_ble_eq_true rfl) dX3_init_26 (fun th H hthL hw => ?_)
  have hyth : y ≠ th := fun z => hthL (z ▸ hyM1)
  have hrwth : rw ≠ th := fun z => hthL (z ▸ hrwM)
  have hscth : sc ≠ th := fun z => hthL (z ▸ hscM)
  have hyM2 : y ∈ (((L ++ [rw]) ++ [sc]) ++ [th]) := List.mem_append_left _ hyM1
  have hrwM : rw ∈ (((L ++ [rw]) ++ [sc]) ++ [th]) := List.mem_append_left _ hrwM
  have hscM : sc ∈ (((L ++ [rw]) ++ [sc]) ++ [th]) := List.mem_append_left _ hscM
  have hthM : th ∈ (((L ++ [rw]) ++ [sc]) ++ [th]) := List.mem_append_right _ (List.mem_singleton.mpr rfl)
  refine pf_M_17 hx hb hown hts hG hw hyM2 (by rw [va_up_ne _ _ hyth]; exact hfy1) hnm dX3_init_28 (fun H locs hw => ?_)
  obtain ⟨g2, hg2⟩ : ∃ z, z = va_up (va_up g1 th (.inl (ct 5, 4000, .inl (fun _ => 0)))) y (.inr (3, [.ref rw, .ref sc, .ref th, .null])) := ⟨_, rfl⟩
  have hw : jz_w D (va_A (va_pl L f) s.heap.size) s.heap (((L ++ [rw]) ++ [sc]) ++ [th]) g2 H locs := by rw [hg2]; exact hw
  have hfy2 : g2 y = .inr (3, [.ref rw, .ref sc, .ref th, .null]) := by rw [hg2, va_up_self]
  have hfrw : g2 rw = .inl (ct 3, 4000, .inl (fun _ => 0)) := by rw [hg2, va_up_ne _ _ hyrw.symm, va_up_ne _ _ hrwth]; exact hfrw
  have hfsc : g2 sc = .inl (ct 4, 4000, .inr (.inl (fun _ => 0))) := by rw [hg2, va_up_ne _ _ hysc.symm, va_up_ne _ _ hscth]; exact hfsc
  have hfth : g2 th = .inl (ct 5, 4000, .inl (fun _ => 0)) := by rw [hg2, va_up_ne _ _ hyth.symm, va_up_self]
  refine lv_aload_n hx hb dX3_init_31 rfl (lv_at hl 0 rfl) ?_
  refine lv_iconst (v := nI 4) hx hb dX3_init_32 (by decide) ?_
  refine jx_newa (a0 := (4, .inl (fun _ => 0))) hx hb hts (by decide +kernel) (ty := .int) rfl hG hw 0 rfl (N' := 4) (fun cA => rfl) (nI_pos (by decide)) (nI_clamp (by decide)) (by decide) (Nat.le_of_ble_eq_true rfl) (Nat.le_of_ble_eq_true rfl) dX3_init_33 (fun sz H hszL hw => ?_)
  have hysz : y ≠ sz := fun z => hszL (z ▸ hyM2)
  have hrwsz : rw ≠ sz := fun z => hszL (z ▸ hrwM)
  have hscsz : sc ≠ sz := fun z => hszL (z ▸ hscM)
  have hthsz : th ≠ sz := fun z => hszL (z ▸ hthM)
  have hyM3 : y ∈ ((((L ++ [rw]) ++ [sc]) ++ [th]) ++ [sz]) := List.mem_append_left _ hyM2
  have hrwM : rw ∈ ((((L ++ [rw]) ++ [sc]) ++ [th]) ++ [sz]) := List.mem_append_left _ hrwM
  have hscM : sc ∈ ((((L ++ [rw]) ++ [sc]) ++ [th]) ++ [sz]) := List.mem_append_left _ hscM
  have hthM : th ∈ ((((L ++ [rw]) ++ [sc]) ++ [th]) ++ [sz]) := List.mem_append_left _ hthM
  have hszM : sz ∈ ((((L ++ [rw]) ++ [sc]) ++ [th]) ++ [sz]) := List.mem_append_right _ (List.mem_singleton.mpr rfl)
  refine pf_M_21 hx hb hown hts hG hw hyM3 (by rw [va_up_ne _ _ hysz]; exact hfy2) hnm dX3_init_35 (fun H locs hw => ?_)
  obtain ⟨g3, hg3⟩ : ∃ z, z = va_up (va_up g2 sz (.inl (ct 0, 4, .inl (fun _ => 0)))) y (.inr (3, [.ref rw, .ref sc, .ref th, .ref sz])) := ⟨_, rfl⟩
  have hw : jz_w D (va_A (va_pl L f) s.heap.size) s.heap ((((L ++ [rw]) ++ [sc]) ++ [th]) ++ [sz]) g3 H locs := by rw [hg3]; exact hw
  have hfy3 : g3 y = .inr (3, [.ref rw, .ref sc, .ref th, .ref sz]) := by rw [hg3, va_up_self]
  have hfrw : g3 rw = .inl (ct 3, 4000, .inl (fun _ => 0)) := by rw [hg3, va_up_ne _ _ hyrw.symm, va_up_ne _ _ hrwsz]; exact hfrw
  have hfsc : g3 sc = .inl (ct 4, 4000, .inr (.inl (fun _ => 0))) := by rw [hg3, va_up_ne _ _ hysc.symm, va_up_ne _ _ hscsz]; exact hfsc
  have hfth : g3 th = .inl (ct 5, 4000, .inl (fun _ => 0)) := by rw [hg3, va_up_ne _ _ hyth.symm, va_up_ne _ _ hthsz]; exact hfth
  have hfsz : g3 sz = .inl (ct 0, 4, .inl (fun _ => 0)) := by rw [hg3, va_up_ne _ _ hysz.symm, va_up_self]
  have hR : ∀ i, i < 4 → jm_R 0 i ((fun _ => [] : jq_S) i) (fun _ => 0) (fun _ => 0) (fun _ => 0) (fun _ => 0) := fun i hi => ⟨⟨List.Pairwise.nil, by simp, fun x hx => absurd hx List.not_mem_nil⟩, Nat.le_refl _, rfl, fun q x hx => by simp at hx, fun x hx => absurd hx List.not_mem_nil, fun q hq => Or.inr ⟨rfl, rfl⟩⟩
  exact jx_vret hx hb hrt hlk hw (Nat.le_of_ble_eq_true rfl) (Nat.le_of_ble_eq_true rfl) dX3_init_38 ⟨rfl, rw, sc, th, sz, _, _, _, _, ⟨⟨hyM3, hrwM, hscM, hthM, hszM, hrwth⟩, hfy3, hfrw, hfsc, hfth, hfsz⟩, hR⟩
