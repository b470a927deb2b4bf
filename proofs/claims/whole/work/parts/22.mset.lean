section MST
variable {p : Program} {l : Launch} {e : Env} {R : Room} {s : State} {m : MethodId} {args : Array Value} {below : List Frame} {meth : Method} {c : Code} {H : Heap} {locs : List Loc} {cells slots : Nat} {Q : State → Prop} {D : va_G} {ct : Nat → ClassId} {A : Nat → Prop} {H0 : Heap} {L : List Nat}
variable {y rw sc th sz : Nat} {f : Nat → va_E} {ro tt zz : Nat → Int32} {ss : Nat → Int64} {N i : Nat} {As : List (Nat × Int64)}
set_option maxHeartbeats 4000000 in
set_option maxRecDepth 100000 in
theorem lp_down (hx : p.tables.exec = Jvm.exec) (hb : c.code = cX3_set) (hml : c.maxLocals = 9) (hown : s.vm.findClass RX3 = some m.cls) (hts : ∀ w ∈ jz_TT, w.before args s = true) (hG : jz_G D ct s) (hi : i < 4) (hR0 : jm_R N i As ro ss tt zz) (hN : N < 1000) {A1 A2 : List (Nat × Int64)} (eA : As = A1 ++ A2) {j : Nat} {s0 : Int64} {c6 : Int32}
    (kk : ∀ (ro1 : Nat → Int32) (f1 : Nat → va_E) (H : Heap) (locs : List Loc) (ls : Array Slot), jm_S ct y rw sc th sz L f1 ro1 ss tt zz → (∀ q, ro1 q = if 1000 * i + A1.length < q ∧ q ≤ 1000 * i + As.length then ro (q - 1) else ro q) → jz_w D A H0 L f1 H locs → lv_has ls 9 [(0, .ref y), (1, .int (nI i)), (2, .int (nI j)), (3, .long s0), (5, .int (nI (1000 * i))), (6, .int c6), (7, .int (nI A1.length))] → W p l e R s m args below meth c H locs cells slots Q (F0 m 112 ls [])) :
    ∀ (t : Nat) (ro1 : Nat → Int32) (f1 : Nat → va_E) (H : Heap) (locs : List Loc) (ls : Array Slot), A1.length ≤ t → t ≤ As.length → jm_S ct y rw sc th sz L f1 ro1 ss tt zz → (∀ q, ro1 q = if 1000 * i + t < q ∧ q ≤ 1000 * i + As.length then ro (q - 1) else ro q) → jz_w D A H0 L f1 H locs → lv_has ls 9 [(0, .ref y), (1, .int (nI i)), (2, .int (nI j)), (3, .long s0), (5, .int (nI (1000 * i))), (6, .int c6), (7, .int (nI A1.length)), (8, .int (nI t))] → W p l e R s m args below meth c H locs cells slots Q (F0 m 77 ls []) := by
  obtain ⟨hwf, hlN, hzz, hro, hss, htt⟩ := id hR0
  intro t
  induction t with
  | zero =>
    intro ro1 f1 H locs ls htA htB hS hr1 hw hl
    refine lv_iload hx hb dX3_set_77 (lv_at hl 7 rfl) ?_
    refine lv_iload hx hb dX3_set_79 (lv_at hl 6 rfl) ?_
    refine lv_icmp_le (tgt := 112) hx hb dX3_set_81 (by decide) (fun hc => ?_) (fun h => absurd (nI_le (Nat.zero_le _) (by omega)) h)
    have h4 : 0 = A1.length := by omega
    exact kk ro1 f1 H locs ls hS (by rw [← h4]; exact hr1) hw (lv_sub hl [0, 1, 2, 3, 4, 5, 6] rfl)
  | succ t ih =>
    intro ro1 f1 H locs ls htA htB hS hr1 hw hl
    refine lv_iload hx hb dX3_set_77 (lv_at hl 7 rfl) ?_
    refine lv_iload hx hb dX3_set_79 (lv_at hl 6 rfl) ?_
    refine lv_icmp_le (tgt := 112) hx hb dX3_set_81 (by decide) (fun hc => ?_) (fun hc => ?_)
    · have h5 : t + 1 ≤ A1.length := (nI_leI (by omega) (by omega)).mp hc
      have h4 : (t + 1) = A1.length := by omega
      exact kk ro1 f1 H locs ls hS (by rw [← h4]; exact hr1) hw (lv_sub hl [0, 1, 2, 3, 4, 5, 6] rfl)
    · have h5 : A1.length ≤ t := by
        rcases Nat.lt_or_ge t A1.length with q | q
        · exact absurd (nI_le (show t + 1 ≤ A1.length by omega) (by omega)) hc
        · exact q
      have h6 : t < As.length := by omega
      obtain ⟨x, hxt⟩ : ∃ x, As[t]? = some x := ⟨_, List.getElem?_eq_getElem h6⟩
      have hx1 := hwf.2.2 x (List.mem_of_getElem? hxt)
      have hval : ro1 (1000 * i + t) = nI x.1 := by rw [hr1, if_neg (by omega)]; exact hro t x hxt
      refine lv_aload_n hx hb dX3_set_84 rfl (lv_at hl 0 rfl) ?_
      refine gf_M_7 hx hb hown hts hG hw hS.1.1 hS.2.1 dX3_set_85 ?_
      refine lv_iload hx hb dX3_set_88 (lv_at hl 4 rfl) ?_
      refine lv_iload hx hb dX3_set_90 (lv_at hl 7 rfl) ?_
      refine lv_iadd hx hb dX3_set_92 ?_
      rw [nI_add]
      refine lv_aload_n hx hb dX3_set_93 rfl (lv_at hl 0 rfl) ?_
      refine gf_M_7 hx hb hown hts hG hw hS.1.1 hS.2.1 dX3_set_94 ?_
      refine lv_iload hx hb dX3_set_97 (lv_at hl 4 rfl) ?_
      refine lv_iload hx hb dX3_set_99 (lv_at hl 7 rfl) ?_
      refine lv_iadd hx hb dX3_set_101 ?_
      rw [nI_add]
      refine lv_iconst (v := nI 1) hx hb dX3_set_102 (by decide) ?_
      refine lv_isub hx hb dX3_set_103 ?_
      rw [show nI (1000 * i + (t + 1)) - nI 1 = nI (1000 * i + t) from nI_pred (1000 * i + t)]
      refine jx_saldI hx hb hG hw hS.1.2.1 3 hS.2.2.1 rfl (by omega) (by decide) dX3_set_104 ?_
      refine jx_sastI hx hb hG hw hS.1.2.1 3 hS.2.2.1 rfl (j := 1000 * i + (t + 1)) (by omega) (by decide) (by rw [hval]; exact jm_nar hx1) dX3_set_105 (fun H locs hw => ?_)
      have hS2 := hS.putR (upd ro1 (1000 * i + (t + 1)) (ro1 (1000 * i + t)))
      refine lv_iinc (v := nI t) (lv' := [(8, .int (nI t)), (0, .ref y), (1, .int (nI i)), (2, .int (nI j)), (3, .long s0), (5, .int (nI (1000 * i))), (6, .int c6), (7, .int (nI A1.length))]) hx hb dX3_set_106 hl (k := 7) rfl (pk_m1 t) (by decide) rfl (fun ls hl => ?_)
      refine lv_goto (tgt := 77) hx hb dX3_set_109 (by decide) ?_
      refine ih _ _ H locs ls h5 (by omega) hS2 (fun q => ?_) hw (lv_sub hl [1, 2, 3, 4, 5, 6, 7, 0] rfl)
      by_cases z : q = 1000 * i + (t + 1)
      · rw [z, pk_us, hr1, if_neg (by omega), if_pos (by omega)]
        congr 1
      · rw [pk_un z, hr1]
        by_cases z2 : 1000 * i + (t + 1) < q ∧ q ≤ 1000 * i + As.length
        · rw [if_pos z2, if_pos (by omega)]
        · rw [if_neg z2, if_neg (by omega)]
end MST
set_option maxHeartbeats 4000000 in
set_option maxRecDepth 100000 in
theorem c_M_set (l : Launch) (D : va_G) (ct : Nat → ClassId) {N : Nat} {y : Nat} {L : List Nat} {f : Nat → va_E} {As : jq_S} (hM : jM N ct y L f As) (hN : N < 1000) {ov mv : Int32} {s0 : Int64} :
    jz_M l D ct yX3_set cX3_set 9 (some .int) ({ frames := 3, cells := 0, slots := 0, locals := 72 } : Room) [.ref y, .int ov, .int mv, .long s0] L f (fun v L' f' => v = some (.int (sp_set As ov mv s0).1) ∧ jM (N + 1) ct y L' f' (sp_set As ov mv s0).2) := by
  by_cases hgood : jq_o ov ∧ jq_m mv
  · obtain ⟨i, hi, ei, hcl0⟩ := jq_oN hgood.1
    subst ei
    obtain ⟨j, hj, ej, hcl1⟩ := jq_mN hgood.2
    subst ej
    obtain ⟨rw, sc, th, sz, ro, ss, tt, zz, hS, hAll⟩ := id hM
    have hRi := hAll i hi
    obtain ⟨hwf, hlN, hzz, hro, hss, htt⟩ := id hRi
    refine jx_enter (by decide) (Nat.le_of_ble_eq_true rfl) ?_
    intro p e s m below meth c C hw ls hl
    obtain ⟨hx, hb, hrt, hlk, hnm, hml, hown, hts, hG⟩ := C
    have hl : lv_has ls 9 [(0, .ref y), (1, .int (nI i)), (2, .int (nI j)), (3, .long s0)] := hl
    refine lv_iload_n hx hb dX3_set_0 rfl (lv_at hl 1 rfl) ?_
    refine lv_iload_n hx hb dX3_set_1 rfl (lv_at hl 2 rfl) ?_
    refine cl_M_37 (As := [.int (nI i), .int (nI j)]) (rest := []) hx hb hml hown hts hG hw (c_M_isGood l D ct L f (nI i) (nI j)) rfl ⟨Nat.le_of_ble_eq_true rfl, Nat.le_of_ble_eq_true rfl⟩ hl.1 rfl (Nat.le_of_ble_eq_true rfl) dX3_set_2 ⟨Nat.le_of_ble_eq_true rfl, Nat.le_of_ble_eq_true rfl⟩ (fun v L' f' H1 locs1 hp hw hcf => ?_)
    obtain ⟨hv, eL, ef⟩ := hp
    rw [eL, ef] at hw
    have hv : v = some (.int 1) := hv.elim (fun q => q.2) (fun q => absurd hgood q.1)
    subst hv
    refine lv_if_ne (tgt := 10) hx hb dX3_set_5 (by decide) (fun _ => ?_) (fun h => absurd h (by decide))
    refine lv_sipush (v := nI 1000) hx hb dX3_set_10 (by decide) ?_
    refine lv_iload_n hx hb dX3_set_13 rfl (lv_at hl 1 rfl) ?_
    refine lv_imul hx hb dX3_set_14 ?_
    rw [pk_mul]
    refine lv_istore (lv' := [(5, .int (nI (1000 * i))), (0, .ref y), (1, .int (nI i)), (2, .int (nI j)), (3, .long s0)]) hx hb dX3_set_15 hl (by decide) rfl (fun ls hl => ?_)
    refine lv_aload_n hx hb dX3_set_17 rfl (lv_at hl 1 rfl) ?_
    refine gf_M_17 hx hb hown hts hG hw hS.1.1 hS.2.1 dX3_set_18 ?_
    refine lv_iload hx hb dX3_set_21 (lv_at hl 0 rfl) ?_
    refine lv_iload_n hx hb dX3_set_23 rfl (lv_at hl 3 rfl) ?_
    refine lv_iadd hx hb dX3_set_24 ?_
    rw [nI_add]
    refine jx_zaldI hx hb hG hw hS.1.2.2.2.1 5 hS.2.2.2.2.1 rfl (by omega) (by decide) dX3_set_25 ?_
    rcases htt j hj with ⟨et, s1, hget⟩ | ⟨et, hget⟩
    · rw [et]
      refine lv_istore (lv' := [(6, .int 1), (5, .int (nI (1000 * i))), (0, .ref y), (1, .int (nI i)), (2, .int (nI j)), (3, .long s0)]) hx hb dX3_set_26 hl (by decide) rfl (fun ls hl => ?_)
      refine lv_iload hx hb dX3_set_28 (lv_at hl 0 rfl) ?_
      refine lv_if_eq (tgt := 49) hx hb dX3_set_30 (by decide) (fun h => absurd h (by decide)) (fun _ => ?_)
      have hsv : ss (1000 * i + j) = s1 := hss (j, s1) (jq_get_mem hget)
      refine lv_aload_n hx hb dX3_set_33 rfl (lv_at hl 2 rfl) ?_
      refine gf_M_13 hx hb hown hts hG hw hS.1.1 hS.2.1 dX3_set_34 ?_
      refine lv_iload hx hb dX3_set_37 (lv_at hl 1 rfl) ?_
      refine lv_iload_n hx hb dX3_set_39 rfl (lv_at hl 4 rfl) ?_
      refine lv_iadd hx hb dX3_set_40 ?_
      rw [nI_add]
      refine jx_laldI hx hb hG hw hS.1.2.2.1 4 hS.2.2.2.1 rfl (by omega) (by decide) dX3_set_41 ?_
      rw [hsv]
      refine lv_lload_n hx hb dX3_set_42 rfl (lv_at hl 5 rfl) ?_
      refine W.lcmp hx hb dX3_set_43 ?_
      refine lv_if_ne (tgt := 49) hx hb dX3_set_44 (by decide) (fun hne => ?_) (fun heq => ?_)
      · have hne : ¬ s1 = s0 := fun z => hne ((lg_cmp_eq _ _).mpr z)
        refine lv_iload hx hb dX3_set_49 (lv_at hl 0 rfl) ?_
        refine lv_if_eq (tgt := 60) hx hb dX3_set_51 (by decide) (fun h => absurd h (by decide)) (fun _ => ?_)
        obtain ⟨A1, A2, eA⟩ := List.append_of_mem (jq_get_mem hget)
        refine lv_aload_n hx hb dX3_set_54 rfl (lv_at hl 2 rfl) ?_
        refine lv_iload_n hx hb dX3_set_55 rfl (lv_at hl 3 rfl) ?_
        refine lv_iload_n hx hb dX3_set_56 rfl (lv_at hl 4 rfl) ?_
        refine cl_M_41 (As := [.int (nI i), .int (nI j)]) (rest := []) hx hb hml hown hts hG hw (c_M_leave l D ct hS hi hRi (by omega) eA) rfl ⟨Nat.le_of_ble_eq_true rfl, Nat.le_of_ble_eq_true rfl⟩ hS.1.1 hS.2.1 hl.1 rfl (Nat.le_of_ble_eq_true rfl) dX3_set_57 ⟨Nat.le_of_ble_eq_true rfl, Nat.le_of_ble_eq_true rfl⟩ (fun v L' f' H1 locs1 hp hw hcf => ?_)
        obtain ⟨rfl, eL, roT, hST, hr'⟩ := hp
        rw [eL] at hw
        have hRT := hRi.del (by omega) eA hr'
        have hAllT := jM.upd hAll (Nat.le_refl _) (by omega) hi hRT (fun q hq => ⟨by rw [hr', if_neg (by have := hRT.2.1; simp only [List.length_append] at *; omega)], rfl, pk_un (by omega)⟩) (fun q hq => pk_un hq)
        have e1 : A1 ++ A2 = jq_del (As i) j := jq_del_of hwf.2.1 ⟨A1, A2, s1, eA, rfl⟩
        have habs : jq_get (A1 ++ A2) j = none := jm_get_ap (s := s1) (by have h0 := hwf.2.1; rw [eA] at h0; exact h0)
        generalize hta : upd tt (1000 * i + j) 0 = ttT at hST hRT hAllT
        generalize hza : upd zz i (nI (A1 ++ A2).length) = zzT at hST hRT hAllT
        have hlT := hRT.2.1
        have hzT := hRT.2.2.1
        obtain ⟨B1, B2, eB, g1, g2⟩ := jz_cutBy hRT.1.1 s0 (jz_word (nI j))
        have hBl : (A1 ++ A2).length = B1.length + B2.length := by rw [eB, List.length_append]
        refine lv_aload_n hx hb dX3_set_60 rfl (lv_at hl 2 rfl) ?_
        refine lv_iload_n hx hb dX3_set_61 rfl (lv_at hl 3 rfl) ?_
        refine lv_lload_n hx hb dX3_set_62 rfl (lv_at hl 5 rfl) ?_
        refine lv_iload_n hx hb dX3_set_63 rfl (lv_at hl 4 rfl) ?_
        refine cl_M_45 (As := [.int (nI i), .long s0, .int (nI j)]) (rest := []) hx hb hml hown hts hG hw (c_M_place l D ct hST hi hRT (by omega) eB hj g1 g2) rfl ⟨Nat.le_of_ble_eq_true rfl, Nat.le_of_ble_eq_true rfl⟩ hST.1.1 hST.2.1 hl.1 rfl (Nat.le_of_ble_eq_true rfl) dX3_set_64 ⟨Nat.le_of_ble_eq_true rfl, Nat.le_of_ble_eq_true rfl⟩ (fun v L' f' H1 locs1 hp hw hcf => ?_)
        obtain ⟨rfl, eL3, ef3⟩ := hp
        rw [eL3, ef3] at hw
        refine lv_istore (lv' := [(7, .int (nI B1.length)), (6, .int 1), (5, .int (nI (1000 * i))), (0, .ref y), (1, .int (nI i)), (2, .int (nI j)), (3, .long s0)]) hx hb dX3_set_67 hl (by decide) rfl (fun ls hl => ?_)
        refine lv_aload_n hx hb dX3_set_69 rfl (lv_at hl 3 rfl) ?_
        refine gf_M_21 hx hb hown hts hG hw hST.1.1 hST.2.1 dX3_set_70 ?_
        refine lv_iload_n hx hb dX3_set_73 rfl (lv_at hl 4 rfl) ?_
        refine jx_ialdI hx hb hG hw hST.1.2.2.2.2.1 0 hST.2.2.2.2.2 rfl hi (by decide) dX3_set_74 ?_
        rw [hzT]
        refine lv_istore (lv' := [(8, .int (nI (A1 ++ A2).length)), (7, .int (nI B1.length)), (6, .int 1), (5, .int (nI (1000 * i))), (0, .ref y), (1, .int (nI i)), (2, .int (nI j)), (3, .long s0)]) hx hb dX3_set_75 hl (by decide) rfl (fun ls hl => ?_)
        refine lp_down hx hb hml hown hts hG hi hRT hN eB (fun ro1 f1 H locs ls hS1 hr1 hw hl => ?_) (A1 ++ A2).length roT _ _ _ ls (by omega) (Nat.le_refl _) hST (fun q => by rw [if_neg (by omega)]) hw (lv_sub hl [4, 5, 6, 7, 3, 2, 1, 0] rfl)
        refine lv_aload_n hx hb dX3_set_112 rfl (lv_at hl 0 rfl) ?_
        refine gf_M_7 hx hb hown hts hG hw hS1.1.1 hS1.2.1 dX3_set_113 ?_
        refine lv_iload hx hb dX3_set_116 (lv_at hl 4 rfl) ?_
        refine lv_iload hx hb dX3_set_118 (lv_at hl 6 rfl) ?_
        refine lv_iadd hx hb dX3_set_120 ?_
        rw [nI_add]
        refine lv_iload_n hx hb dX3_set_121 rfl (lv_at hl 2 rfl) ?_
        refine lv_i2s (v := nI j) hx hb dX3_set_122 (lg_i2s_small (by rw [nI_toInt (by omega)]; omega) (by rw [nI_toInt (by omega)]; omega)) ?_
        refine jx_sastI hx hb hG hw hS1.1.2.1 3 hS1.2.2.1 rfl (j := 1000 * i + B1.length) (by omega) (by decide) (jm_nar hj) dX3_set_123 (fun H locs hw => ?_)
        have hS2 := hS1.putR (upd ro1 (1000 * i + B1.length) (nI j))
        refine lv_aload_n hx hb dX3_set_124 rfl (lv_at hl 0 rfl) ?_
        refine gf_M_13 hx hb hown hts hG hw hS2.1.1 hS2.2.1 dX3_set_125 ?_
        refine lv_iload hx hb dX3_set_128 (lv_at hl 4 rfl) ?_
        refine lv_iload_n hx hb dX3_set_130 rfl (lv_at hl 2 rfl) ?_
        refine lv_iadd hx hb dX3_set_131 ?_
        rw [nI_add]
        refine lv_lload_n hx hb dX3_set_132 rfl (lv_at hl 3 rfl) ?_
        refine jx_lastI hx hb hG hw hS2.1.2.2.1 4 hS2.2.2.2.1 rfl (j := 1000 * i + j) (by omega) (by decide) dX3_set_133 (fun H locs hw => ?_)
        have hS3 := hS2.putS (vp_updL ss (1000 * i + j) s0)
        refine lv_aload_n hx hb dX3_set_134 rfl (lv_at hl 0 rfl) ?_
        refine gf_M_17 hx hb hown hts hG hw hS3.1.1 hS3.2.1 dX3_set_135 ?_
        refine lv_iload hx hb dX3_set_138 (lv_at hl 4 rfl) ?_
        refine lv_iload_n hx hb dX3_set_140 rfl (lv_at hl 2 rfl) ?_
        refine lv_iadd hx hb dX3_set_141 ?_
        rw [nI_add]
        refine lv_iconst (v := 1) hx hb dX3_set_142 (by decide) ?_
        refine jx_zastI hx hb hG hw hS3.1.2.2.2.1 5 hS3.2.2.2.2.1 rfl (j := 1000 * i + j) (by omega) (by decide) rfl dX3_set_143 (fun H locs hw => ?_)
        have hS4 := hS3.putT (upd ttT (1000 * i + j) 1)
        refine lv_aload_n hx hb dX3_set_144 rfl (lv_at hl 0 rfl) ?_
        refine gf_M_21 hx hb hown hts hG hw hS4.1.1 hS4.2.1 dX3_set_145 ?_
        refine lv_iload_n hx hb dX3_set_148 rfl (lv_at hl 1 rfl) ?_
        refine lv_dup2_11 hx hb dX3_set_149 rfl rfl ?_
        refine jx_ialdI hx hb hG hw hS4.1.2.2.2.2.1 0 hS4.2.2.2.2.2 rfl hi (by decide) dX3_set_150 ?_
        refine lv_iconst (v := nI 1) hx hb dX3_set_151 (by decide) ?_
        refine lv_iadd hx hb dX3_set_152 ?_
        rw [hzT, nI_add]
        refine jx_iastI hx hb hG hw hS4.1.2.2.2.2.1 0 hS4.2.2.2.2.2 rfl hi (by decide) dX3_set_153 (fun H locs hw => ?_)
        have hS5 := hS4.putZ (upd zzT i (nI ((A1 ++ A2).length + 1)))
        obtain ⟨hins, hR5⟩ := hRT.ins (ro' := upd ro1 (1000 * i + B1.length) (nI j)) hj habs eB g1 g2 (fun q => by
          by_cases z : q = 1000 * i + B1.length
          · rw [z, pk_us, if_pos rfl]
          · rw [pk_un z, if_neg z]; exact hr1 q)
        have hall5 := jM.upd hAllT (Nat.le_succ N) (by omega) hi hR5 (fun q hq => ⟨by rw [pk_un (by omega), hr1, if_neg (by omega)], pk_uLn (by omega), pk_un (by omega)⟩) (fun q hq => pk_un hq)
        have e2 := jq_ins_of hins
        have esq : sq_set (As i) j s0 = (2, B1 ++ (j, s0) :: B2) := by rw [sq_set, hget]; show (if s1 = s0 then _ else _) = _; rw [if_neg hne, e2, e1]
        refine lv_iload hx hb dX3_set_154 (lv_at hl 5 rfl) ?_
        refine lv_if_eq (tgt := 163) hx hb dX3_set_156 (by decide) (fun h => absurd h (by decide)) (fun _ => ?_)
        refine lv_iconst (v := 2) hx hb dX3_set_159 (by decide) ?_
        refine lv_goto (tgt := 164) hx hb dX3_set_160 (by decide) ?_
        exact jx_iret hx hb hrt hlk hw (Nat.le_of_ble_eq_true rfl) (Nat.le_of_ble_eq_true rfl) dX3_set_164 ⟨by rw [sp_set_at hi hj, esq], by rw [sp_set_at hi hj, esq]; exact ⟨rw, sc, th, sz, _, _, _, _, hS5, (by rw [bx_uu] at hall5; exact hall5)⟩⟩
      · have heq : s1 = s0 := (lg_cmp_eq _ _).mp heq
        have esq : sq_set (As i) j s0 = (0, As i) := by rw [sq_set, hget]; show (if s1 = s0 then _ else _) = _; rw [if_pos heq]
        refine lv_iconst (v := 0) hx hb dX3_set_47 (by decide) ?_
        exact jx_iret hx hb hrt hlk hw (Nat.le_of_ble_eq_true rfl) (Nat.le_of_ble_eq_true rfl) dX3_set_48 ⟨by rw [sp_set_at hi hj, esq], by rw [sp_set_at hi hj, esq]; show jM (N + 1) ct y L f (va_up As i (As i)); rw [jq_upSelf]; exact hM.mono (Nat.le_succ _)⟩
    · rw [et]
      refine lv_istore (lv' := [(6, .int 0), (5, .int (nI (1000 * i))), (0, .ref y), (1, .int (nI i)), (2, .int (nI j)), (3, .long s0)]) hx hb dX3_set_26 hl (by decide) rfl (fun ls hl => ?_)
      refine lv_iload hx hb dX3_set_28 (lv_at hl 0 rfl) ?_
      refine lv_if_eq (tgt := 49) hx hb dX3_set_30 (by decide) (fun _ => ?_) (fun h => absurd rfl h)
      refine lv_iload hx hb dX3_set_49 (lv_at hl 0 rfl) ?_
      refine lv_if_eq (tgt := 60) hx hb dX3_set_51 (by decide) (fun _ => ?_) (fun h => absurd rfl h)
      have hST := hS
      have hRT := hRi
      have hAllT := hAll
      have habs := hget
      generalize hra : ro = roT at hST hRT hAllT
      generalize hta : tt = ttT at hST hRT hAllT
      generalize hza : zz = zzT at hST hRT hAllT
      have hlT := hRT.2.1
      have hzT := hRT.2.2.1
      obtain ⟨B1, B2, eB, g1, g2⟩ := jz_cutBy hRT.1.1 s0 (jz_word (nI j))
      have hBl : (As i).length = B1.length + B2.length := by rw [eB, List.length_append]
      refine lv_aload_n hx hb dX3_set_60 rfl (lv_at hl 2 rfl) ?_
      refine lv_iload_n hx hb dX3_set_61 rfl (lv_at hl 3 rfl) ?_
      refine lv_lload_n hx hb dX3_set_62 rfl (lv_at hl 5 rfl) ?_
      refine lv_iload_n hx hb dX3_set_63 rfl (lv_at hl 4 rfl) ?_
      refine cl_M_45 (As := [.int (nI i), .long s0, .int (nI j)]) (rest := []) hx hb hml hown hts hG hw (c_M_place l D ct hST hi hRT (by omega) eB hj g1 g2) rfl ⟨Nat.le_of_ble_eq_true rfl, Nat.le_of_ble_eq_true rfl⟩ hST.1.1 hST.2.1 hl.1 rfl (Nat.le_of_ble_eq_true rfl) dX3_set_64 ⟨Nat.le_of_ble_eq_true rfl, Nat.le_of_ble_eq_true rfl⟩ (fun v L' f' H1 locs1 hp hw hcf => ?_)
      obtain ⟨rfl, eL3, ef3⟩ := hp
      rw [eL3, ef3] at hw
      refine lv_istore (lv' := [(7, .int (nI B1.length)), (6, .int 0), (5, .int (nI (1000 * i))), (0, .ref y), (1, .int (nI i)), (2, .int (nI j)), (3, .long s0)]) hx hb dX3_set_67 hl (by decide) rfl (fun ls hl => ?_)
      refine lv_aload_n hx hb dX3_set_69 rfl (lv_at hl 3 rfl) ?_
      refine gf_M_21 hx hb hown hts hG hw hST.1.1 hST.2.1 dX3_set_70 ?_
      refine lv_iload_n hx hb dX3_set_73 rfl (lv_at hl 4 rfl) ?_
      refine jx_ialdI hx hb hG hw hST.1.2.2.2.2.1 0 hST.2.2.2.2.2 rfl hi (by decide) dX3_set_74 ?_
      rw [hzT]
      refine lv_istore (lv' := [(8, .int (nI (As i).length)), (7, .int (nI B1.length)), (6, .int 0), (5, .int (nI (1000 * i))), (0, .ref y), (1, .int (nI i)), (2, .int (nI j)), (3, .long s0)]) hx hb dX3_set_75 hl (by decide) rfl (fun ls hl => ?_)
      refine lp_down hx hb hml hown hts hG hi hRT hN eB (fun ro1 f1 H locs ls hS1 hr1 hw hl => ?_) (As i).length roT _ _ _ ls (by omega) (Nat.le_refl _) hST (fun q => by rw [if_neg (by omega)]) hw (lv_sub hl [4, 5, 6, 7, 3, 2, 1, 0] rfl)
      refine lv_aload_n hx hb dX3_set_112 rfl (lv_at hl 0 rfl) ?_
      refine gf_M_7 hx hb hown hts hG hw hS1.1.1 hS1.2.1 dX3_set_113 ?_
      refine lv_iload hx hb dX3_set_116 (lv_at hl 4 rfl) ?_
      refine lv_iload hx hb dX3_set_118 (lv_at hl 6 rfl) ?_
      refine lv_iadd hx hb dX3_set_120 ?_
      rw [nI_add]
      refine lv_iload_n hx hb dX3_set_121 rfl (lv_at hl 2 rfl) ?_
      refine lv_i2s (v := nI j) hx hb dX3_set_122 (lg_i2s_small (by rw [nI_toInt (by omega)]; omega) (by rw [nI_toInt (by omega)]; omega)) ?_
      refine jx_sastI hx hb hG hw hS1.1.2.1 3 hS1.2.2.1 rfl (j := 1000 * i + B1.length) (by omega) (by decide) (jm_nar hj) dX3_set_123 (fun H locs hw => ?_)
      have hS2 := hS1.putR (upd ro1 (1000 * i + B1.length) (nI j))
      refine lv_aload_n hx hb dX3_set_124 rfl (lv_at hl 0 rfl) ?_
      refine gf_M_13 hx hb hown hts hG hw hS2.1.1 hS2.2.1 dX3_set_125 ?_
      refine lv_iload hx hb dX3_set_128 (lv_at hl 4 rfl) ?_
      refine lv_iload_n hx hb dX3_set_130 rfl (lv_at hl 2 rfl) ?_
      refine lv_iadd hx hb dX3_set_131 ?_
      rw [nI_add]
      refine lv_lload_n hx hb dX3_set_132 rfl (lv_at hl 3 rfl) ?_
      refine jx_lastI hx hb hG hw hS2.1.2.2.1 4 hS2.2.2.2.1 rfl (j := 1000 * i + j) (by omega) (by decide) dX3_set_133 (fun H locs hw => ?_)
      have hS3 := hS2.putS (vp_updL ss (1000 * i + j) s0)
      refine lv_aload_n hx hb dX3_set_134 rfl (lv_at hl 0 rfl) ?_
      refine gf_M_17 hx hb hown hts hG hw hS3.1.1 hS3.2.1 dX3_set_135 ?_
      refine lv_iload hx hb dX3_set_138 (lv_at hl 4 rfl) ?_
      refine lv_iload_n hx hb dX3_set_140 rfl (lv_at hl 2 rfl) ?_
      refine lv_iadd hx hb dX3_set_141 ?_
      rw [nI_add]
      refine lv_iconst (v := 1) hx hb dX3_set_142 (by decide) ?_
      refine jx_zastI hx hb hG hw hS3.1.2.2.2.1 5 hS3.2.2.2.2.1 rfl (j := 1000 * i + j) (by omega) (by decide) rfl dX3_set_143 (fun H locs hw => ?_)
      have hS4 := hS3.putT (upd ttT (1000 * i + j) 1)
      refine lv_aload_n hx hb dX3_set_144 rfl (lv_at hl 0 rfl) ?_
      refine gf_M_21 hx hb hown hts hG hw hS4.1.1 hS4.2.1 dX3_set_145 ?_
      refine lv_iload_n hx hb dX3_set_148 rfl (lv_at hl 1 rfl) ?_
      refine lv_dup2_11 hx hb dX3_set_149 rfl rfl ?_
      refine jx_ialdI hx hb hG hw hS4.1.2.2.2.2.1 0 hS4.2.2.2.2.2 rfl hi (by decide) dX3_set_150 ?_
      refine lv_iconst (v := nI 1) hx hb dX3_set_151 (by decide) ?_
      refine lv_iadd hx hb dX3_set_152 ?_
      rw [hzT, nI_add]
      refine jx_iastI hx hb hG hw hS4.1.2.2.2.2.1 0 hS4.2.2.2.2.2 rfl hi (by decide) dX3_set_153 (fun H locs hw => ?_)
      have hS5 := hS4.putZ (upd zzT i (nI ((As i).length + 1)))
      obtain ⟨hins, hR5⟩ := hRT.ins (ro' := upd ro1 (1000 * i + B1.length) (nI j)) hj habs eB g1 g2 (fun q => by
        by_cases z : q = 1000 * i + B1.length
        · rw [z, pk_us, if_pos rfl]
        · rw [pk_un z, if_neg z]; exact hr1 q)
      have hall5 := jM.upd hAllT (Nat.le_succ N) (by omega) hi hR5 (fun q hq => ⟨by rw [pk_un (by omega), hr1, if_neg (by omega)], pk_uLn (by omega), pk_un (by omega)⟩) (fun q hq => pk_un hq)
      have e2 := jq_ins_of hins
      have esq : sq_set (As i) j s0 = (1, B1 ++ (j, s0) :: B2) := by rw [sq_set, hget, e2]
      refine lv_iload hx hb dX3_set_154 (lv_at hl 5 rfl) ?_
      refine lv_if_eq (tgt := 163) hx hb dX3_set_156 (by decide) (fun _ => ?_) (fun h => absurd rfl h)
      refine lv_iconst (v := 1) hx hb dX3_set_163 (by decide) ?_
      exact jx_iret hx hb hrt hlk hw (Nat.le_of_ble_eq_true rfl) (Nat.le_of_ble_eq_true rfl) dX3_set_164 ⟨by rw [sp_set_at hi hj, esq], by rw [sp_set_at hi hj, esq]; exact ⟨rw, sc, th, sz, _, _, _, _, hS5, hall5⟩⟩
  · refine jx_enter (by decide) (Nat.le_of_ble_eq_true rfl) ?_
    intro p e s m below meth c C hw ls hl
    obtain ⟨hx, hb, hrt, hlk, hnm, hml, hown, hts, hG⟩ := C
    have hl : lv_has ls 9 [(0, .ref y), (1, .int ov), (2, .int mv), (3, .long s0)] := hl
    refine lv_iload_n hx hb dX3_set_0 rfl (lv_at hl 1 rfl) ?_
    refine lv_iload_n hx hb dX3_set_1 rfl (lv_at hl 2 rfl) ?_
    refine cl_M_37 (As := [.int ov, .int mv]) (rest := []) hx hb hml hown hts hG hw (c_M_isGood l D ct L f ov mv) rfl ⟨Nat.le_of_ble_eq_true rfl, Nat.le_of_ble_eq_true rfl⟩ hl.1 rfl (Nat.le_of_ble_eq_true rfl) dX3_set_2 ⟨Nat.le_of_ble_eq_true rfl, Nat.le_of_ble_eq_true rfl⟩ (fun v L' f' H1 locs1 hp hw hcf => ?_)
    obtain ⟨hv, eL, ef⟩ := hp
    rw [eL, ef] at hw
    have hv : v = some (.int 0) := hv.elim (fun q => absurd q.1 hgood) (fun q => q.2)
    subst hv
    refine lv_if_ne (tgt := 10) hx hb dX3_set_5 (by decide) (fun h => absurd rfl h) (fun _ => ?_)
    refine lv_iconst (v := (-1)) hx hb dX3_set_8 (by decide) ?_
    exact jx_iret hx hb hrt hlk hw (Nat.le_of_ble_eq_true rfl) (Nat.le_of_ble_eq_true rfl) dX3_set_9 ⟨by rw [sp_set, if_neg hgood], by rw [sp_set, if_neg hgood]; exact (hM.mono (Nat.le_succ _))⟩
