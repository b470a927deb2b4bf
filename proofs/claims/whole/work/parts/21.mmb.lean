section ML
variable {p : Program} {l : Launch} {e : Env} {R : Room} {s : State} {m : MethodId} {args : Array Value} {below : List Frame} {meth : Method} {c : Code} {H : Heap} {locs : List Loc} {cells slots : Nat} {Q : State → Prop} {D : va_G} {ct : Nat → ClassId} {A : Nat → Prop} {H0 : Heap} {L : List Nat}
variable {y rw sc th sz : Nat} {f : Nat → va_E} {ro tt zz : Nat → Int32} {ss : Nat → Int64} {N i : Nat} {As : List (Nat × Int64)}
set_option maxHeartbeats 4000000 in
set_option maxRecDepth 100000 in
theorem lp_find (hx : p.tables.exec = Jvm.exec) (hb : c.code = cX3_leave) (hml : c.maxLocals = 6) (hown : s.vm.findClass RX3 = some m.cls) (hts : ∀ w ∈ jz_TT, w.before args s = true) (hG : jz_G D ct s) {zz1 : Nat → Int32} (hS : jm_S ct y rw sc th sz L f ro ss tt zz1) (hw : jz_w D A H0 L f H locs) (hi : i < 4) (hR0 : jm_R N i As ro ss tt zz) (hN : N ≤ 1000) {A1 A2 : List (Nat × Int64)} {j : Nat} {s0 : Int64} (eA : As = A1 ++ (j, s0) :: A2)
    (kk : ∀ (ls : Array Slot), lv_has ls 6 [(0, .ref y), (1, .int (nI i)), (2, .int (nI j)), (3, .int (nI (1000 * i))), (4, .int (nI A1.length))] → W p l e R s m args below meth c H locs cells slots Q (F0 m 38 ls [])) :
    ∀ (d t : Nat) (ls : Array Slot), A1.length - t < d → t ≤ A1.length → lv_has ls 6 [(0, .ref y), (1, .int (nI i)), (2, .int (nI j)), (3, .int (nI (1000 * i))), (4, .int (nI t))] → W p l e R s m args below meth c H locs cells slots Q (F0 m 19 ls []) := by
  obtain ⟨hwf, hlN, hzz, hro, hss, htt⟩ := id hR0
  have hlen : As.length = A1.length + A2.length + 1 := by rw [eA]; simp; omega
  intro d
  induction d with
  | zero => intro t ls ht; exact absurd ht (Nat.not_lt_zero _)
  | succ d ih =>
    intro t ls ht htA hl
    have h4 : t < As.length := by omega
    obtain ⟨x, hxt⟩ : ∃ x, As[t]? = some x := ⟨_, List.getElem?_eq_getElem h4⟩
    have hxA : x ∈ As := List.mem_of_getElem? hxt
    have hx1 := hwf.2.2 x hxA
    have hj : j < 1000 := hwf.2.2 (j, s0) (by rw [eA]; simp)
    have hiff : x.1 = j ↔ t = A1.length := by
      constructor
      · intro q
        rcases Nat.lt_or_ge t A1.length with z | z
        · have hn := hwf.2.1
          rw [eA, List.map_append, List.map_cons] at hn
          rw [eA, List.getElem?_append_left z] at hxt
          exact absurd q ((List.nodup_append.mp hn).2.2 x.1 (List.mem_map.mpr ⟨x, List.mem_of_getElem? hxt, rfl⟩) j List.mem_cons_self)
        · omega
      · intro q
        rw [eA, q, List.getElem?_append_right (Nat.le_refl _), Nat.sub_self] at hxt
        cases hxt
        rfl
    refine lv_aload_n hx hb dX3_leave_19 rfl (lv_at hl 0 rfl) ?_
    refine gf_M_7 hx hb hown hts hG hw hS.1.1 hS.2.1 dX3_leave_20 ?_
    refine lv_iload_n hx hb dX3_leave_23 rfl (lv_at hl 3 rfl) ?_
    refine lv_iload hx hb dX3_leave_24 (lv_at hl 4 rfl) ?_
    refine lv_iadd hx hb dX3_leave_26 ?_
    rw [nI_add]
    refine jx_saldI hx hb hG hw hS.1.2.1 3 hS.2.2.1 rfl (by omega) (by decide) dX3_leave_27 ?_
    rw [hro t x hxt]
    refine lv_iload_n hx hb dX3_leave_28 rfl (lv_at hl 2 rfl) ?_
    refine lv_icmp_eq (tgt := 38) hx hb dX3_leave_29 (by decide) (fun hc => ?_) (fun hc => ?_)
    · have ht0 : t = A1.length := hiff.mp ((nI_eq (by omega) (by omega)).mp hc)
      subst ht0
      exact kk ls hl
    · have ht0 : t ≠ A1.length := fun q => hc (by rw [hiff.mpr q])
      refine lv_iinc (v := nI (t + 1)) (lv' := [(4, .int (nI (t + 1))), (0, .ref y), (1, .int (nI i)), (2, .int (nI j)), (3, .int (nI (1000 * i)))]) hx hb dX3_leave_32 hl (k := 4) rfl (nI_succ t).symm (by decide) rfl (fun ls hl => ?_)
      refine lv_goto (tgt := 19) hx hb dX3_leave_35 (by decide) ?_
      exact ih (t + 1) ls (by omega) (by omega) (lv_sub hl [1, 2, 3, 4, 0] rfl)
set_option maxHeartbeats 4000000 in
set_option maxRecDepth 100000 in
theorem lp_up (hx : p.tables.exec = Jvm.exec) (hb : c.code = cX3_leave) (hml : c.maxLocals = 6) (hown : s.vm.findClass RX3 = some m.cls) (hts : ∀ w ∈ jz_TT, w.before args s = true) (hG : jz_G D ct s) {zz1 : Nat → Int32} (hi : i < 4) (hR0 : jm_R N i As ro ss tt zz) (hN : N ≤ 1000) {A1 A2 : List (Nat × Int64)} {j : Nat} {s0 : Int64} (eA : As = A1 ++ (j, s0) :: A2) (hz1 : zz1 i = nI (A1 ++ A2).length)
    (kk : ∀ (ro1 : Nat → Int32) (f1 : Nat → va_E) (H : Heap) (locs : List Loc) (ls : Array Slot), jm_S ct y rw sc th sz L f1 ro1 ss tt zz1 → (∀ q, ro1 q = if 1000 * i + A1.length ≤ q ∧ q < 1000 * i + (A1 ++ A2).length then ro (q + 1) else ro q) → jz_w D A H0 L f1 H locs → lv_has ls 6 [(0, .ref y), (1, .int (nI i)), (2, .int (nI j)), (3, .int (nI (1000 * i)))] → W p l e R s m args below meth c H locs cells slots Q (F0 m 79 ls [])) :
    ∀ (d t : Nat) (ro1 : Nat → Int32) (f1 : Nat → va_E) (H : Heap) (locs : List Loc) (ls : Array Slot), (A1 ++ A2).length - t < d → A1.length ≤ t → t ≤ (A1 ++ A2).length → jm_S ct y rw sc th sz L f1 ro1 ss tt zz1 → (∀ q, ro1 q = if 1000 * i + A1.length ≤ q ∧ q < 1000 * i + t then ro (q + 1) else ro q) → jz_w D A H0 L f1 H locs → lv_has ls 6 [(0, .ref y), (1, .int (nI i)), (2, .int (nI j)), (3, .int (nI (1000 * i))), (5, .int (nI t))] → W p l e R s m args below meth c H locs cells slots Q (F0 m 42 ls []) := by
  obtain ⟨hwf, hlN, hzz, hro, hss, htt⟩ := id hR0
  have hlen : As.length = (A1 ++ A2).length + 1 := by rw [eA]; simp; omega
  intro d
  induction d with
  | zero => intro t ro1 f1 H locs ls ht; exact absurd ht (Nat.not_lt_zero _)
  | succ d ih =>
    intro t ro1 f1 H locs ls ht htA htB hS hr1 hw hl
    refine lv_iload hx hb dX3_leave_42 (lv_at hl 4 rfl) ?_
    refine lv_aload_n hx hb dX3_leave_44 rfl (lv_at hl 0 rfl) ?_
    refine gf_M_21 hx hb hown hts hG hw hS.1.1 hS.2.1 dX3_leave_45 ?_
    refine lv_iload_n hx hb dX3_leave_48 rfl (lv_at hl 1 rfl) ?_
    refine jx_ialdI hx hb hG hw hS.1.2.2.2.2.1 0 hS.2.2.2.2.2 rfl hi (by decide) dX3_leave_49 ?_
    rw [hz1]
    refine lv_icmp_ge (tgt := 79) hx hb dX3_leave_50 (by decide) (fun hc => ?_) (fun hc => ?_)
    · have h4 : t = (A1 ++ A2).length := by
        have : (A1 ++ A2).length ≤ t := by
          rcases Nat.lt_or_ge t (A1 ++ A2).length with q | q
          · exact absurd (nI_lt q (by omega)) (Int32.not_lt.mpr hc)
          · exact q
        omega
      exact kk ro1 f1 H locs ls hS (by rw [← h4]; exact hr1) hw (lv_sub hl [0, 1, 2, 3] rfl)
    · have h4 : t < (A1 ++ A2).length := by
        rcases Nat.lt_or_ge t (A1 ++ A2).length with q | q
        · exact q
        · exact absurd (nI_le q (by omega)) hc
      have h5 : t + 1 < As.length := by omega
      obtain ⟨x, hxt⟩ : ∃ x, As[t + 1]? = some x := ⟨_, List.getElem?_eq_getElem h5⟩
      have hxA : x ∈ As := List.mem_of_getElem? hxt
      have hx1 := hwf.2.2 x hxA
      have hval : ro1 (1000 * i + t + 1) = nI x.1 := by rw [hr1, if_neg (by omega)]; exact hro (t + 1) x hxt
      refine lv_aload_n hx hb dX3_leave_53 rfl (lv_at hl 0 rfl) ?_
      refine gf_M_7 hx hb hown hts hG hw hS.1.1 hS.2.1 dX3_leave_54 ?_
      refine lv_iload_n hx hb dX3_leave_57 rfl (lv_at hl 3 rfl) ?_
      refine lv_iload hx hb dX3_leave_58 (lv_at hl 4 rfl) ?_
      refine lv_iadd hx hb dX3_leave_60 ?_
      rw [nI_add]
      refine lv_aload_n hx hb dX3_leave_61 rfl (lv_at hl 0 rfl) ?_
      refine gf_M_7 hx hb hown hts hG hw hS.1.1 hS.2.1 dX3_leave_62 ?_
      refine lv_iload_n hx hb dX3_leave_65 rfl (lv_at hl 3 rfl) ?_
      refine lv_iload hx hb dX3_leave_66 (lv_at hl 4 rfl) ?_
      refine lv_iadd hx hb dX3_leave_68 ?_
      rw [nI_add]
      refine lv_iconst (v := nI 1) hx hb dX3_leave_69 (by decide) ?_
      refine lv_iadd hx hb dX3_leave_70 ?_
      rw [nI_add]
      refine jx_saldI hx hb hG hw hS.1.2.1 3 hS.2.2.1 rfl (by omega) (by decide) dX3_leave_71 ?_
      refine jx_sastI hx hb hG hw hS.1.2.1 3 hS.2.2.1 rfl (j := 1000 * i + t) (by omega) (by decide) (by rw [hval]; exact jm_nar hx1) dX3_leave_72 (fun H locs hw => ?_)
      have hS2 := hS.putR (upd ro1 (1000 * i + t) (ro1 (1000 * i + t + 1)))
      refine lv_iinc (v := nI (t + 1)) (lv' := [(5, .int (nI (t + 1))), (0, .ref y), (1, .int (nI i)), (2, .int (nI j)), (3, .int (nI (1000 * i)))]) hx hb dX3_leave_73 hl (k := 4) rfl (nI_succ t).symm (by decide) rfl (fun ls hl => ?_)
      refine lv_goto (tgt := 42) hx hb dX3_leave_76 (by decide) ?_
      refine ih (t + 1) _ _ H locs ls (by omega) (by omega) (by omega) hS2 (fun q => ?_) hw (lv_sub hl [1, 2, 3, 4, 0] rfl)
      by_cases z : q = 1000 * i + t
      · rw [z, pk_us, hr1, if_neg (by omega), if_pos (by omega)]
      · rw [pk_un z, hr1]
        by_cases z2 : 1000 * i + A1.length ≤ q ∧ q < 1000 * i + t
        · rw [if_pos z2, if_pos (by omega)]
        · rw [if_neg z2, if_neg (by omega)]
end ML
set_option maxHeartbeats 4000000 in
set_option maxRecDepth 100000 in
theorem c_M_leave (l : Launch) (D : va_G) (ct : Nat → ClassId) {y rw sc th sz : Nat} {L : List Nat} {f : Nat → va_E} {ro tt zz : Nat → Int32} {ss : Nat → Int64} (hS : jm_S ct y rw sc th sz L f ro ss tt zz) {N i : Nat} {As : List (Nat × Int64)} (hi : i < 4) (hR0 : jm_R N i As ro ss tt zz) (hN : N ≤ 1000) {A1 A2 : List (Nat × Int64)} {j : Nat} {s0 : Int64} (eA : As = A1 ++ (j, s0) :: A2) :
    jz_M l D ct yX3_leave cX3_leave 6 none ({ frames := 0, cells := 0, slots := 0, locals := 0 } : Room) [.ref y, .int (nI i), .int (nI j)] L f (fun v L' f' => v = none ∧ L' = L ∧ ∃ ro' : Nat → Int32, jm_S ct y rw sc th sz L f' ro' ss (upd tt (1000 * i + j) 0) (upd zz i (nI (A1 ++ A2).length)) ∧ ∀ q, ro' q = if 1000 * i + A1.length ≤ q ∧ q < 1000 * i + (A1 ++ A2).length then ro (q + 1) else ro q) := by
  have hj : j < 1000 := hR0.1.2.2 (j, s0) (by rw [eA]; simp)
  have hlen : As.length = (A1 ++ A2).length + 1 := by rw [eA]; simp; omega
  have hzi := hR0.2.2.1
  have hlN := hR0.2.1
  refine jx_enter (by decide) (Nat.le_of_ble_eq_true rfl) ?_
  intro p e s m below meth c C hw ls hl
  obtain ⟨hx, hb, hrt, hlk, hnm, hml, hown, hts, hG⟩ := C
  have hl : lv_has ls 6 [(0, .ref y), (1, .int (nI i)), (2, .int (nI j))] := hl
  refine lv_sipush (v := nI 1000) hx hb dX3_leave_0 (by decide) ?_
  refine lv_iload_n hx hb dX3_leave_3 rfl (lv_at hl 1 rfl) ?_
  refine lv_imul hx hb dX3_leave_4 ?_
  rw [pk_mul]
  refine lv_istore_n (lv' := [(3, .int (nI (1000 * i))), (0, .ref y), (1, .int (nI i)), (2, .int (nI j))]) hx hb dX3_leave_5 rfl hl (by decide) rfl (fun ls hl => ?_)
  refine lv_aload_n hx hb dX3_leave_6 rfl (lv_at hl 1 rfl) ?_
  refine gf_M_21 hx hb hown hts hG hw hS.1.1 hS.2.1 dX3_leave_7 ?_
  refine lv_iload_n hx hb dX3_leave_10 rfl (lv_at hl 2 rfl) ?_
  refine lv_dup2_11 hx hb dX3_leave_11 rfl rfl ?_
  refine jx_ialdI hx hb hG hw hS.1.2.2.2.2.1 0 hS.2.2.2.2.2 rfl hi (by decide) dX3_leave_12 ?_
  refine lv_iconst (v := 1) hx hb dX3_leave_13 (by decide) ?_
  refine lv_isub hx hb dX3_leave_14 ?_
  rw [hzi, hlen, nI_pred]
  refine jx_iastI hx hb hG hw hS.1.2.2.2.2.1 0 hS.2.2.2.2.2 rfl hi (by decide) dX3_leave_15 (fun H locs hw => ?_)
  have hS1 := hS.putZ (upd zz i (nI (A1 ++ A2).length))
  obtain ⟨f1, hf1⟩ : ∃ z, z = va_up f sz (.inl (ct 0, 4, .inl (upd zz i (nI (A1 ++ A2).length)))) := ⟨_, rfl⟩
  rw [← hf1] at hS1
  have hw : jz_w D (va_A (va_pl L f) s.heap.size) s.heap L f1 H locs := by rw [hf1]; exact hw
  refine lv_iconst (v := nI 0) hx hb dX3_leave_16 (by decide) ?_
  refine lv_istore (lv' := [(4, .int (nI 0)), (3, .int (nI (1000 * i))), (0, .ref y), (1, .int (nI i)), (2, .int (nI j))]) hx hb dX3_leave_17 hl (by decide) rfl (fun ls hl => ?_)
  refine lp_find hx hb hml hown hts hG hS1 hw hi hR0 hN eA (fun ls hl => ?_) (A1.length + 1) 0 ls (by omega) (Nat.zero_le _) (lv_sub hl [2, 3, 4, 1, 0] rfl)
  refine lv_iload hx hb dX3_leave_38 (lv_at hl 4 rfl) ?_
  refine lv_istore (lv' := [(5, .int (nI A1.length)), (0, .ref y), (1, .int (nI i)), (2, .int (nI j)), (3, .int (nI (1000 * i))), (4, .int (nI A1.length))]) hx hb dX3_leave_40 hl (by decide) rfl (fun ls hl => ?_)
  refine lp_up hx hb hml hown hts hG hi hR0 hN eA pk_us (fun ro1 f2 H locs ls hS2 hr1 hw hl => ?_) ((A1 ++ A2).length - A1.length + 1) A1.length ro f1 H locs ls (by omega) (Nat.le_refl _) (by simp) hS1 (fun q => by rw [if_neg (by omega)]) hw (lv_sub hl [1, 2, 3, 4, 0] rfl)
  refine lv_aload_n hx hb dX3_leave_79 rfl (lv_at hl 0 rfl) ?_
  refine gf_M_17 hx hb hown hts hG hw hS2.1.1 hS2.2.1 dX3_leave_80 ?_
  refine lv_iload_n hx hb dX3_leave_83 rfl (lv_at hl 3 rfl) ?_
  refine lv_iload_n hx hb dX3_leave_84 rfl (lv_at hl 2 rfl) ?_
  refine lv_iadd hx hb dX3_leave_85 ?_
  rw [nI_add]
  refine lv_iconst (v := 0) hx hb dX3_leave_86 (by decide) ?_
  refine jx_zastI hx hb hG hw hS2.1.2.2.2.1 5 hS2.2.2.2.2.1 rfl (j := 1000 * i + j) (by omega) (by decide) rfl dX3_leave_87 (fun H locs hw => ?_)
  exact jx_vret hx hb hrt hlk hw (Nat.le_refl _) (Nat.le_refl _) dX3_leave_88 ⟨rfl, rfl, ro1, hS2.putT _, hr1⟩
set_option maxHeartbeats 4000000 in
set_option maxRecDepth 100000 in
theorem c_M_remove (l : Launch) (D : va_G) (ct : Nat → ClassId) {N : Nat} {y : Nat} {L : List Nat} {f : Nat → va_E} {As : jq_S} (hM : jM N ct y L f As) (hN : N < 1000) {ov mv : Int32} :
    jz_M l D ct yX3_remove cX3_remove 3 (some .int) ({ frames := 2, cells := 0, slots := 0, locals := 41 } : Room) [.ref y, .int ov, .int mv] L f (fun v L' f' => v = some (.int (sp_rem As ov mv).1) ∧ jM N ct y L' f' (sp_rem As ov mv).2) := by
  by_cases hgood : jq_o ov ∧ jq_m mv
  · obtain ⟨i, hi, ei, hcl0⟩ := jq_oN hgood.1
    subst ei
    obtain ⟨j, hj, ej, hcl1⟩ := jq_mN hgood.2
    subst ej
    obtain ⟨rw, sc, th, sz, ro, ss, tt, zz, hS, hAll⟩ := id hM
    have hRi := hAll i hi
    obtain ⟨hwf, hlN, hzz, hro, hss, htt⟩ := id hRi
    refine jx_enter (by decide) (Nat.le_of_ble_eq_true rfl) ?_
    intro p e s m below meth c C hw ls hl
    obtain ⟨hx, hb, hrt, hlk, hnm, hml, hown, hts, hG⟩ := C
    have hl : lv_has ls 3 [(0, .ref y), (1, .int (nI i)), (2, .int (nI j))] := hl
    refine lv_iload_n hx hb dX3_remove_0 rfl (lv_at hl 1 rfl) ?_
    refine lv_iload_n hx hb dX3_remove_1 rfl (lv_at hl 2 rfl) ?_
    refine cl_M_37 (As := [.int (nI i), .int (nI j)]) (rest := []) hx hb hml hown hts hG hw (c_M_isGood l D ct L f (nI i) (nI j)) rfl ⟨Nat.le_of_ble_eq_true rfl, Nat.le_of_ble_eq_true rfl⟩ hl.1 rfl (Nat.le_of_ble_eq_true rfl) dX3_remove_2 ⟨Nat.le_of_ble_eq_true rfl, Nat.le_of_ble_eq_true rfl⟩ (fun v L' f' H1 locs1 hp hw hcf => ?_)
    obtain ⟨hv, eL, ef⟩ := hp
    rw [eL, ef] at hw
    have hv : v = some (.int 1) := hv.elim (fun q => q.2) (fun q => absurd hgood q.1)
    subst hv
    refine lv_if_ne (tgt := 10) hx hb dX3_remove_5 (by decide) (fun _ => ?_) (fun h => absurd h (by decide))
    refine lv_aload_n hx hb dX3_remove_10 rfl (lv_at hl 0 rfl) ?_
    refine gf_M_17 hx hb hown hts hG hw hS.1.1 hS.2.1 dX3_remove_11 ?_
    refine lv_sipush (v := nI 1000) hx hb dX3_remove_14 (by decide) ?_
    refine lv_iload_n hx hb dX3_remove_17 rfl (lv_at hl 1 rfl) ?_
    refine lv_imul hx hb dX3_remove_18 ?_
    rw [pk_mul]
    refine lv_iload_n hx hb dX3_remove_19 rfl (lv_at hl 2 rfl) ?_
    refine lv_iadd hx hb dX3_remove_20 ?_
    rw [nI_add]
    refine jx_zaldI hx hb hG hw hS.1.2.2.2.1 5 hS.2.2.2.2.1 rfl (by omega) (by decide) dX3_remove_21 ?_
    rcases htt j hj with ⟨et, s0, hget⟩ | ⟨et, hget⟩
    · rw [et]
      refine lv_if_ne (tgt := 27) hx hb dX3_remove_22 (by decide) (fun _ => ?_) (fun h => absurd h (by decide))
      obtain ⟨A1, A2, eA⟩ := List.append_of_mem (jq_get_mem hget)
      refine lv_aload_n hx hb dX3_remove_27 rfl (lv_at hl 0 rfl) ?_
      refine lv_iload_n hx hb dX3_remove_28 rfl (lv_at hl 1 rfl) ?_
      refine lv_iload_n hx hb dX3_remove_29 rfl (lv_at hl 2 rfl) ?_
      refine cl_M_41 (As := [.int (nI i), .int (nI j)]) (rest := []) hx hb hml hown hts hG hw (c_M_leave l D ct hS hi hRi (by omega) eA) rfl ⟨Nat.le_of_ble_eq_true rfl, Nat.le_of_ble_eq_true rfl⟩ hS.1.1 hS.2.1 hl.1 rfl (Nat.le_of_ble_eq_true rfl) dX3_remove_30 ⟨Nat.le_of_ble_eq_true rfl, Nat.le_of_ble_eq_true rfl⟩ (fun v L' f' H1 locs1 hp hw hcf => ?_)
      obtain ⟨rfl, eL, ro', hS', hr'⟩ := hp
      rw [eL] at hw
      have hR' := hRi.del (by omega) eA hr'
      have hall' := jM.upd hAll (Nat.le_refl _) (by omega) hi hR' (fun q hq => ⟨by rw [hr', if_neg (by have := hR'.2.1; simp only [List.length_append] at *; omega)], rfl, pk_un (by omega)⟩) (fun q hq => pk_un hq)
      have e1 : A1 ++ A2 = jq_del (As i) j := jq_del_of hwf.2.1 ⟨A1, A2, s0, eA, rfl⟩
      have esq : sq_rem (As i) j = (1, A1 ++ A2) := by rw [sq_rem, hget, e1]
      refine lv_iconst (v := 1) hx hb dX3_remove_33 (by decide) ?_
      exact jx_iret hx hb hrt hlk hw (Nat.le_of_ble_eq_true rfl) (Nat.le_of_ble_eq_true rfl) dX3_remove_34 ⟨by rw [sp_rem_at hi hj, esq], by rw [sp_rem_at hi hj, esq]; exact ⟨rw, sc, th, sz, ro', ss, _, _, hS', hall'⟩⟩
    · rw [et]
      refine lv_if_ne (tgt := 27) hx hb dX3_remove_22 (by decide) (fun h => absurd rfl h) (fun _ => ?_)
      have esq : sq_rem (As i) j = (0, As i) := by rw [sq_rem, hget]
      refine lv_iconst (v := 0) hx hb dX3_remove_25 (by decide) ?_
      exact jx_iret hx hb hrt hlk hw (Nat.le_of_ble_eq_true rfl) (Nat.le_of_ble_eq_true rfl) dX3_remove_26 ⟨by rw [sp_rem_at hi hj, esq], by rw [sp_rem_at hi hj, esq]; show jM N ct y L f (va_up As i (As i)); rw [jq_upSelf]; exact hM⟩
  · refine jx_enter (by decide) (Nat.le_of_ble_eq_true rfl) ?_
    intro p e s m below meth c C hw ls hl
    obtain ⟨hx, hb, hrt, hlk, hnm, hml, hown, hts, hG⟩ := C
    have hl : lv_has ls 3 [(0, .ref y), (1, .int ov), (2, .int mv)] := hl
    refine lv_iload_n hx hb dX3_remove_0 rfl (lv_at hl 1 rfl) ?_
    refine lv_iload_n hx hb dX3_remove_1 rfl (lv_at hl 2 rfl) ?_
    refine cl_M_37 (As := [.int ov, .int mv]) (rest := []) hx hb hml hown hts hG hw (c_M_isGood l D ct L f ov mv) rfl ⟨Nat.le_of_ble_eq_true rfl, Nat.le_of_ble_eq_true rfl⟩ hl.1 rfl (Nat.le_of_ble_eq_true rfl) dX3_remove_2 ⟨Nat.le_of_ble_eq_true rfl, Nat.le_of_ble_eq_true rfl⟩ (fun v L' f' H1 locs1 hp hw hcf => ?_)
    obtain ⟨hv, eL, ef⟩ := hp
    rw [eL, ef] at hw
    have hv : v = some (.int 0) := hv.elim (fun q => absurd q.1 hgood) (fun q => q.2)
    subst hv
    refine lv_if_ne (tgt := 10) hx hb dX3_remove_5 (by decide) (fun h => absurd rfl h) (fun _ => ?_)
    refine lv_iconst (v := (-1)) hx hb dX3_remove_8 (by decide) ?_
    exact jx_iret hx hb hrt hlk hw (Nat.le_of_ble_eq_true rfl) (Nat.le_of_ble_eq_true rfl) dX3_remove_9 ⟨by rw [sp_rem, if_neg hgood], by rw [sp_rem, if_neg hgood]; exact hM⟩
