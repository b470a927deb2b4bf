set_option maxHeartbeats 4000000 in
set_option maxRecDepth 100000 in
theorem c_M_isOrder (l : Launch) (D : va_G) (ct : Nat → ClassId) (L : List Nat) (f : Nat → va_E) (x : Int32) : jz_M l D ct yX3_isOrder cX3_isOrder 1 (some .boolean) ({ frames := 0, cells := 0, slots := 0, locals := 0 } : Room) [.int x] L f (fun v L' f' => (jq_o x ∧ v = some (.int 1) ∨ ¬ jq_o x ∧ v = some (.int 0)) ∧ L' = L ∧ f' = f) := by
  refine jx_enter (by decide) (Nat.le_of_ble_eq_true rfl) ?_
  intro p e s m below meth c C hw ls hl
  obtain ⟨hx, hb, hrt, hlk, hnm, hml, hown, hts, hG⟩ := C
  have hl : lv_has ls 1 [(0, .int x)] := hl
  refine lv_iload_n hx hb dX3_isOrder_0 rfl (lv_at hl 0 rfl) ?_
  refine lv_if_lt (tgt := 13) hx hb dX3_isOrder_1 (by decide) (fun h1 => ?_) (fun h1 => ?_)
  · refine lv_iconst (v := 0) hx hb dX3_isOrder_13 (by decide) ?_
    exact jx_zret hx hb hrt rfl hlk hw (Nat.zero_le _) (Nat.zero_le _) dX3_isOrder_14 ⟨Or.inr ⟨fun q => absurd h1 (Int32.not_lt.mpr q.1), rfl⟩, rfl, rfl⟩
  · refine lv_iload_n hx hb dX3_isOrder_4 rfl (lv_at hl 0 rfl) ?_
    refine lv_iconst (v := 4) hx hb dX3_isOrder_5 (by decide) ?_
    refine lv_icmp_ge (tgt := 13) hx hb dX3_isOrder_6 (by decide) (fun h2 => ?_) (fun h2 => ?_)
    · refine lv_iconst (v := 0) hx hb dX3_isOrder_13 (by decide) ?_
      exact jx_zret hx hb hrt rfl hlk hw (Nat.zero_le _) (Nat.zero_le _) dX3_isOrder_14 ⟨Or.inr ⟨fun q => absurd q.2 (Int32.not_lt.mpr h2), rfl⟩, rfl, rfl⟩
    · refine lv_iconst (v := 1) hx hb dX3_isOrder_9 (by decide) ?_
      refine lv_goto (tgt := 14) hx hb dX3_isOrder_10 (by decide) ?_
      exact jx_zret hx hb hrt rfl hlk hw (Nat.zero_le _) (Nat.zero_le _) dX3_isOrder_14 ⟨Or.inl ⟨⟨Int32.not_lt.mp h1, Int32.not_le.mp h2⟩, rfl⟩, rfl, rfl⟩
set_option maxHeartbeats 4000000 in
set_option maxRecDepth 100000 in
theorem c_M_isGood (l : Launch) (D : va_G) (ct : Nat → ClassId) (L : List Nat) (f : Nat → va_E) (ov mv : Int32) : jz_M l D ct yX3_isGood cX3_isGood 2 (some .boolean) ({ frames := 1, cells := 0, slots := 0, locals := 20 } : Room) [.int ov, .int mv] L f (fun v L' f' => ((jq_o ov ∧ jq_m mv) ∧ v = some (.int 1) ∨ ¬ (jq_o ov ∧ jq_m mv) ∧ v = some (.int 0)) ∧ L' = L ∧ f' = f) := by
  refine jx_enter (by decide) (Nat.le_of_ble_eq_true rfl) ?_
  intro p e s m below meth c C hw ls hl
  obtain ⟨hx, hb, hrt, hlk, hnm, hml, hown, hts, hG⟩ := C
  have hl : lv_has ls 2 [(0, .int ov), (1, .int mv)] := hl
  refine lv_iload_n hx hb dX3_isGood_0 rfl (lv_at hl 0 rfl) ?_
  refine cl_M_25 (As := [.int ov]) (rest := []) hx hb hml hown hts hG hw (c_M_isOrder l D ct L f ov) rfl ⟨Nat.le_of_ble_eq_true rfl, Nat.le_of_ble_eq_true rfl⟩ hl.1 rfl (Nat.le_of_ble_eq_true rfl) dX3_isGood_1 ⟨Nat.le_of_ble_eq_true rfl, Nat.le_of_ble_eq_true rfl⟩ (fun v L' f' H1 locs1 hp hw hcf => ?_)
  obtain ⟨hv, eL, ef⟩ := hp
  rw [eL, ef] at hw
  rcases hv with ⟨ho, rfl⟩ | ⟨ho, rfl⟩
  · refine lv_if_eq (tgt := 22) hx hb dX3_isGood_4 (by decide) (fun h => absurd h (by decide)) (fun _ => ?_)
    refine lv_iload_n hx hb dX3_isGood_7 rfl (lv_at hl 1 rfl) ?_
    refine lv_if_lt (tgt := 22) hx hb dX3_isGood_8 (by decide) (fun h1 => ?_) (fun h1 => ?_)
    · refine lv_iconst (v := 0) hx hb dX3_isGood_22 (by decide) ?_
      exact jx_zret hx hb hrt rfl hlk hw (Nat.zero_le _) (Nat.zero_le _) dX3_isGood_23 ⟨Or.inr ⟨fun q => absurd h1 (Int32.not_lt.mpr q.2.1), rfl⟩, rfl, rfl⟩
    · refine lv_iload_n hx hb dX3_isGood_11 rfl (lv_at hl 1 rfl) ?_
      refine lv_sipush (v := 1000) hx hb dX3_isGood_12 (by decide) ?_
      refine lv_icmp_ge (tgt := 22) hx hb dX3_isGood_15 (by decide) (fun h2 => ?_) (fun h2 => ?_)
      · refine lv_iconst (v := 0) hx hb dX3_isGood_22 (by decide) ?_
        exact jx_zret hx hb hrt rfl hlk hw (Nat.zero_le _) (Nat.zero_le _) dX3_isGood_23 ⟨Or.inr ⟨fun q => absurd q.2.2 (Int32.not_lt.mpr h2), rfl⟩, rfl, rfl⟩
      · refine lv_iconst (v := 1) hx hb dX3_isGood_18 (by decide) ?_
        refine lv_goto (tgt := 23) hx hb dX3_isGood_19 (by decide) ?_
        exact jx_zret hx hb hrt rfl hlk hw (Nat.zero_le _) (Nat.zero_le _) dX3_isGood_23 ⟨Or.inl ⟨⟨ho, Int32.not_lt.mp h1, Int32.not_le.mp h2⟩, rfl⟩, rfl, rfl⟩
  · refine lv_if_eq (tgt := 22) hx hb dX3_isGood_4 (by decide) (fun _ => ?_) (fun h => absurd rfl h)
    refine lv_iconst (v := 0) hx hb dX3_isGood_22 (by decide) ?_
    exact jx_zret hx hb hrt rfl hlk hw (Nat.zero_le _) (Nat.zero_le _) dX3_isGood_23 ⟨Or.inr ⟨fun q => ho q.1, rfl⟩, rfl, rfl⟩
set_option maxHeartbeats 4000000 in
set_option maxRecDepth 100000 in
theorem c_M_word (l : Launch) (D : va_G) (ct : Nat → ClassId) (L : List Nat) (f : Nat → va_E) {j : Nat} (hj : j < 1000) : jz_M l D ct yX3_word cX3_word 1 (some .int) ({ frames := 0, cells := 0, slots := 0, locals := 0 } : Room) [.int (nI j)] L f (fun v L' f' => v = some (.int (nI (jm_wd j))) ∧ L' = L ∧ f' = f) := by
  refine jx_enter (by decide) (Nat.le_of_ble_eq_true rfl) ?_
  intro p e s m below meth c C hw ls hl
  obtain ⟨hx, hb, hrt, hlk, hnm, hml, hown, hts, hG⟩ := C
  have hl : lv_has ls 1 [(0, .int (nI j))] := hl
  refine lv_iload_n hx hb dX3_word_0 rfl (lv_at hl 0 rfl) ?_
  refine lv_bipush (v := nI 10) hx hb dX3_word_1 (by decide) ?_
  refine lv_icmp_ge (tgt := 13) hx hb dX3_word_3 (by decide) (fun hc => ?_) (fun hc => ?_)
  · have h10 : ¬ j < 10 := fun q => absurd (nI_lt q (by decide)) (Int32.not_lt.mpr hc)
    refine lv_iload_n hx hb dX3_word_13 rfl (lv_at hl 0 rfl) ?_
    refine lv_bipush (v := nI 100) hx hb dX3_word_14 (by decide) ?_
    refine lv_icmp_ge (tgt := 39) hx hb dX3_word_16 (by decide) (fun hd => ?_) (fun hd => ?_)
    · have h100 : ¬ j < 100 := fun q => absurd (nI_lt q (by decide)) (Int32.not_lt.mpr hd)
      refine lv_bipush (v := nI 121) hx hb dX3_word_39 (by decide) ?_
      refine lv_iload_n hx hb dX3_word_41 rfl (lv_at hl 0 rfl) ?_
      refine lv_bipush (v := nI 100) hx hb dX3_word_42 (by decide) ?_
      refine lv_idiv hx hb dX3_word_44 (nI_ne0 (by decide) (by decide)) ?_
      rw [pk_div (by omega) (by decide) (by decide)]
      refine lv_iconst (v := nI 1) hx hb dX3_word_45 (by decide) ?_
      refine lv_iadd hx hb dX3_word_46 ?_
      rw [nI_add]
      refine lv_imul hx hb dX3_word_47 ?_
      rw [pk_mul]
      refine lv_bipush (v := nI 11) hx hb dX3_word_48 (by decide) ?_
      refine lv_iload_n hx hb dX3_word_50 rfl (lv_at hl 0 rfl) ?_
      refine lv_bipush (v := nI 10) hx hb dX3_word_51 (by decide) ?_
      refine lv_idiv hx hb dX3_word_53 (nI_ne0 (by decide) (by decide)) ?_
      rw [pk_div (by omega) (by decide) (by decide)]
      refine lv_bipush (v := nI 10) hx hb dX3_word_54 (by decide) ?_
      refine lv_irem hx hb dX3_word_56 (nI_ne0 (by decide) (by decide)) ?_
      rw [pk_rem (by omega) (by decide) (by decide)]
      refine lv_iconst (v := nI 1) hx hb dX3_word_57 (by decide) ?_
      refine lv_iadd hx hb dX3_word_58 ?_
      rw [nI_add]
      refine lv_imul hx hb dX3_word_59 ?_
      rw [pk_mul]
      refine lv_iadd hx hb dX3_word_60 ?_
      rw [nI_add]
      refine lv_iload_n hx hb dX3_word_61 rfl (lv_at hl 0 rfl) ?_
      refine lv_bipush (v := nI 10) hx hb dX3_word_62 (by decide) ?_
      refine lv_irem hx hb dX3_word_64 (nI_ne0 (by decide) (by decide)) ?_
      rw [pk_rem (by omega) (by decide) (by decide)]
      refine lv_iadd hx hb dX3_word_65 ?_
      rw [nI_add]
      refine lv_iconst (v := nI 1) hx hb dX3_word_66 (by decide) ?_
      refine lv_iadd hx hb dX3_word_67 ?_
      rw [nI_add]
      exact jx_iret hx hb hrt hlk hw (Nat.zero_le _) (Nat.zero_le _) dX3_word_68 ⟨by rw [jm_wd, if_neg h10, if_neg h100], rfl, rfl⟩
    · have h100 : j < 100 := by
        rcases Nat.lt_or_ge j 100 with q | q
        · exact q
        · exact absurd (nI_le q (by omega)) hd
      refine lv_bipush (v := nI 121) hx hb dX3_word_19 (by decide) ?_
      refine lv_iload_n hx hb dX3_word_21 rfl (lv_at hl 0 rfl) ?_
      refine lv_bipush (v := nI 10) hx hb dX3_word_22 (by decide) ?_
      refine lv_idiv hx hb dX3_word_24 (nI_ne0 (by decide) (by decide)) ?_
      rw [pk_div (by omega) (by decide) (by decide)]
      refine lv_iconst (v := nI 1) hx hb dX3_word_25 (by decide) ?_
      refine lv_iadd hx hb dX3_word_26 ?_
      rw [nI_add]
      refine lv_imul hx hb dX3_word_27 ?_
      rw [pk_mul]
      refine lv_bipush (v := nI 11) hx hb dX3_word_28 (by decide) ?_
      refine lv_iload_n hx hb dX3_word_30 rfl (lv_at hl 0 rfl) ?_
      refine lv_bipush (v := nI 10) hx hb dX3_word_31 (by decide) ?_
      refine lv_irem hx hb dX3_word_33 (nI_ne0 (by decide) (by decide)) ?_
      rw [pk_rem (by omega) (by decide) (by decide)]
      refine lv_iconst (v := nI 1) hx hb dX3_word_34 (by decide) ?_
      refine lv_iadd hx hb dX3_word_35 ?_
      rw [nI_add]
      refine lv_imul hx hb dX3_word_36 ?_
      rw [pk_mul]
      refine lv_iadd hx hb dX3_word_37 ?_
      rw [nI_add]
      exact jx_iret hx hb hrt hlk hw (Nat.zero_le _) (Nat.zero_le _) dX3_word_38 ⟨by rw [jm_wd, if_neg h10, if_pos h100], rfl, rfl⟩
  · have h10 : j < 10 := by
      rcases Nat.lt_or_ge j 10 with q | q
      · exact q
      · exact absurd (nI_le q (by omega)) hc
    refine lv_bipush (v := nI 121) hx hb dX3_word_6 (by decide) ?_
    refine lv_iload_n hx hb dX3_word_8 rfl (lv_at hl 0 rfl) ?_
    refine lv_iconst (v := nI 1) hx hb dX3_word_9 (by decide) ?_
    refine lv_iadd hx hb dX3_word_10 ?_
    rw [nI_add]
    refine lv_imul hx hb dX3_word_11 ?_
    rw [pk_mul]
    exact jx_iret hx hb hrt hlk hw (Nat.zero_le _) (Nat.zero_le _) dX3_word_12 ⟨by rw [jm_wd, if_pos h10], rfl, rfl⟩
set_option maxHeartbeats 4000000 in
set_option maxRecDepth 100000 in
theorem c_M_isAhead (l : Launch) (D : va_G) (ct : Nat → ClassId) {y rw sc th sz : Nat} {L : List Nat} {f : Nat → va_E} {ro tt zz : Nat → Int32} {ss : Nat → Int64} (hS : jm_S ct y rw sc th sz L f ro ss tt zz) {i a b : Nat} {s0 : Int64} (hi : i < 4) (ha : a < 1000) (hb0 : b < 1000) : jz_M l D ct yX3_isAhead cX3_isAhead 8 (some .boolean) ({ frames := 1, cells := 0, slots := 0, locals := 20 } : Room) [.ref y, .int (nI i), .int (nI a), .long s0, .int (nI b)] L f (fun v L' f' => (jz_ah (ss (1000 * i + a)) (jz_word (nI a)) s0 (jz_word (nI b)) ∧ v = some (.int 1) ∨ ¬ jz_ah (ss (1000 * i + a)) (jz_word (nI a)) s0 (jz_word (nI b)) ∧ v = some (.int 0)) ∧ L' = L ∧ f' = f) := by
  refine jx_enter (by decide) (Nat.le_of_ble_eq_true rfl) ?_
  intro p e s m below meth c C hw ls hl
  obtain ⟨hx, hb, hrt, hlk, hnm, hml, hown, hts, hG⟩ := C
  have hl : lv_has ls 8 [(0, .ref y), (1, .int (nI i)), (2, .int (nI a)), (3, .long s0), (5, .int (nI b))] := hl
  refine lv_aload_n hx hb dX3_isAhead_0 rfl (lv_at hl 0 rfl) ?_
  refine gf_M_13 hx hb hown hts hG hw hS.1.1 hS.2.1 dX3_isAhead_1 ?_
  refine lv_sipush (v := nI 1000) hx hb dX3_isAhead_4 (by decide) ?_
  refine lv_iload_n hx hb dX3_isAhead_7 rfl (lv_at hl 1 rfl) ?_
  refine lv_imul hx hb dX3_isAhead_8 ?_
  rw [pk_mul]
  refine lv_iload_n hx hb dX3_isAhead_9 rfl (lv_at hl 2 rfl) ?_
  refine lv_iadd hx hb dX3_isAhead_10 ?_
  rw [nI_add]
  refine jx_laldI hx hb hG hw hS.1.2.2.1 4 hS.2.2.2.1 rfl (by omega) (by decide) dX3_isAhead_11 ?_
  refine lv_lstore (lv' := [(6, .long (ss (1000 * i + a))), (0, .ref y), (1, .int (nI i)), (2, .int (nI a)), (3, .long s0), (5, .int (nI b))]) hx hb dX3_isAhead_12 hl (by decide) rfl (fun ls hl => ?_)
  refine lv_lload hx hb dX3_isAhead_14 (lv_at hl 0 rfl) ?_
  refine lv_lload_n hx hb dX3_isAhead_16 rfl (lv_at hl 4 rfl) ?_
  refine W.lcmp hx hb dX3_isAhead_17 ?_
  refine lv_if_lt (tgt := 40) hx hb dX3_isAhead_18 (by decide) (fun h1x => ?_) (fun h1x => ?_)
  · have h1 := (lg_cmp_lt _ _).mp h1x
    refine lv_iconst (v := 1) hx hb dX3_isAhead_40 (by decide) ?_
    refine lv_goto (tgt := 45) hx hb dX3_isAhead_41 (by decide) ?_
    exact jx_zret hx hb hrt rfl hlk hw (Nat.le_of_ble_eq_true rfl) (Nat.le_of_ble_eq_true rfl) dX3_isAhead_45 ⟨Or.inl ⟨Or.inl h1, rfl⟩, rfl, rfl⟩
  · have h1 : ¬ ss (1000 * i + a) < s0 := fun q => h1x ((lg_cmp_lt _ _).mpr q)
    refine lv_lload hx hb dX3_isAhead_21 (lv_at hl 0 rfl) ?_
    refine lv_lload_n hx hb dX3_isAhead_23 rfl (lv_at hl 4 rfl) ?_
    refine W.lcmp hx hb dX3_isAhead_24 ?_
    refine lv_if_ne (tgt := 44) hx hb dX3_isAhead_25 (by decide) (fun h2x => ?_) (fun h2x => ?_)
    · have h2 : ¬ ss (1000 * i + a) = s0 := fun q => h2x ((lg_cmp_eq _ _).mpr q)
      refine lv_iconst (v := 0) hx hb dX3_isAhead_44 (by decide) ?_
      exact jx_zret hx hb hrt rfl hlk hw (Nat.le_of_ble_eq_true rfl) (Nat.le_of_ble_eq_true rfl) dX3_isAhead_45 ⟨Or.inr ⟨fun q => q.elim h1 (fun q => h2 q.1), rfl⟩, rfl, rfl⟩
    · have h2 := (lg_cmp_eq _ _).mp h2x
      refine lv_iload_n hx hb dX3_isAhead_28 rfl (lv_at hl 3 rfl) ?_
      refine cl_M_29 (As := [.int (nI a)]) (rest := []) hx hb hml hown hts hG hw (c_M_word l D ct L f ha) rfl ⟨Nat.le_of_ble_eq_true rfl, Nat.le_of_ble_eq_true rfl⟩ hl.1 rfl (Nat.le_of_ble_eq_true rfl) dX3_isAhead_29 ⟨Nat.le_of_ble_eq_true rfl, Nat.le_of_ble_eq_true rfl⟩ (fun v L' f' H1 locs1 hp hw hcf => ?_)
      obtain ⟨rfl, eL, ef⟩ := hp
      rw [eL, ef] at hw
      refine lv_iload hx hb dX3_isAhead_32 (lv_at hl 5 rfl) ?_
      refine cl_M_29 (As := [.int (nI b)]) (rest := [.int (nI (jm_wd a))]) hx hb hml hown hts hG hw (c_M_word l D ct L f hb0) rfl ⟨Nat.le_of_ble_eq_true rfl, Nat.le_of_ble_eq_true rfl⟩ hl.1 rfl (Nat.le_of_ble_eq_true rfl) dX3_isAhead_34 ⟨Nat.le_of_ble_eq_true rfl, Nat.le_of_ble_eq_true rfl⟩ (fun v L' f' H1 locs1 hp hw hcf => ?_)
      obtain ⟨rfl, eL, ef⟩ := hp
      rw [eL, ef] at hw
      refine lv_icmp_ge (tgt := 44) hx hb dX3_isAhead_37 (by decide) (fun h3 => ?_) (fun h3 => ?_)
      · refine lv_iconst (v := 0) hx hb dX3_isAhead_44 (by decide) ?_
        exact jx_zret hx hb hrt rfl hlk hw (Nat.le_of_ble_eq_true rfl) (Nat.le_of_ble_eq_true rfl) dX3_isAhead_45 ⟨Or.inr ⟨fun q => q.elim h1 (fun q => absurd ((jm_word_iff ha hb0).mpr q.2) (Int32.not_lt.mpr h3)), rfl⟩, rfl, rfl⟩
      · refine lv_iconst (v := 1) hx hb dX3_isAhead_40 (by decide) ?_
        refine lv_goto (tgt := 45) hx hb dX3_isAhead_41 (by decide) ?_
        exact jx_zret hx hb hrt rfl hlk hw (Nat.le_of_ble_eq_true rfl) (Nat.le_of_ble_eq_true rfl) dX3_isAhead_45 ⟨Or.inl ⟨Or.inr ⟨h2, (jm_word_iff ha hb0).mp (Int32.not_le.mp h3)⟩, rfl⟩, rfl, rfl⟩
section MP
variable {p : Program} {l : Launch} {e : Env} {R : Room} {s : State} {m : MethodId} {args : Array Value} {below : List Frame} {meth : Method} {c : Code} {H : Heap} {locs : List Loc} {cells slots : Nat} {Q : State → Prop} {D : va_G} {ct : Nat → ClassId} {A : Nat → Prop} {H0 : Heap} {L : List Nat}
variable {y rw sc th sz : Nat} {f : Nat → va_E} {ro tt zz : Nat → Int32} {ss : Nat → Int64} {N i : Nat} {As : List (Nat × Int64)}
set_option maxHeartbeats 4000000 in
set_option maxRecDepth 100000 in
theorem lp_place (hx : p.tables.exec = Jvm.exec) (hb : c.code = cX3_place) (hml : c.maxLocals = 6) (hown : s.vm.findClass RX3 = some m.cls) (hts : ∀ w ∈ jz_TT, w.before args s = true) (hG : jz_G D ct s) (hcs : cells ≤ R.cells ∧ slots ≤ R.slots) (hR : 1 + 1 ≤ R.frames ∧ 8 + (8 + 11) + 20 ≤ R.locals) (hS : jm_S ct y rw sc th sz L f ro ss tt zz) (hi : i < 4) (hR0 : jm_R N i As ro ss tt zz) (hN : N ≤ 1000) {A1 A2 : List (Nat × Int64)} (eA : As = A1 ++ A2) {j : Nat} (hj : j < 1000) {s0 : Int64} (g1 : ∀ x ∈ A1, jz_ah x.2 (jz_word (nI x.1)) s0 (jz_word (nI j))) (g2 : ∀ x ∈ A2, ¬ jz_ah x.2 (jz_word (nI x.1)) s0 (jz_word (nI j)))
    (kk : ∀ (H : Heap) (locs : List Loc) (ls : Array Slot), jz_w D A H0 L f H locs → lv_has ls 6 [(5, .int (nI A1.length))] → W p l e R s m args below meth c H locs cells slots Q (F0 m 44 ls [])) :
    ∀ (d t : Nat) (H : Heap) (locs : List Loc) (ls : Array Slot), A1.length - t < d → t ≤ A1.length → jz_w D A H0 L f H locs → lv_has ls 6 [(0, .ref y), (1, .int (nI i)), (2, .long s0), (4, .int (nI j)), (5, .int (nI t))] → W p l e R s m args below meth c H locs cells slots Q (F0 m 3 ls []) := by
  obtain ⟨hwf, hlN, hzz, hro, hss, htt⟩ := id hR0
  have hlen : As.length = A1.length + A2.length := by rw [eA, List.length_append]
  intro d
  induction d with
  | zero => intro t H locs ls ht; exact absurd ht (Nat.not_lt_zero _)
  | succ d ih =>
    intro t H locs ls ht htA hw hl
    refine lv_iload hx hb dX3_place_3 (lv_at hl 4 rfl) ?_
    refine lv_aload_n hx hb dX3_place_5 rfl (lv_at hl 0 rfl) ?_
    refine gf_M_21 hx hb hown hts hG hw hS.1.1 hS.2.1 dX3_place_6 ?_
    refine lv_iload_n hx hb dX3_place_9 rfl (lv_at hl 1 rfl) ?_
    refine jx_ialdI hx hb hG hw hS.1.2.2.2.2.1 0 hS.2.2.2.2.2 rfl hi (by decide) dX3_place_10 ?_
    rw [hzz]
    refine lv_icmp_ge (tgt := 44) hx hb dX3_place_11 (by decide) (fun hc => ?_) (fun hc => ?_)
    · have h4 : t = A1.length := by
        have : As.length ≤ t := by
          rcases Nat.lt_or_ge t As.length with q | q
          · exact absurd (nI_lt q (by omega)) (Int32.not_lt.mpr hc)
          · exact q
        omega
      subst h4
      exact kk H locs ls hw (lv_sub hl [4] rfl)
    · have h4 : t < As.length := by
        rcases Nat.lt_or_ge t As.length with q | q
        · exact q
        · exact absurd (nI_le q (by omega)) hc
      obtain ⟨x, hxt⟩ : ∃ x, As[t]? = some x := ⟨_, List.getElem?_eq_getElem h4⟩
      have hxA : x ∈ As := List.mem_of_getElem? hxt
      have hx1 := hwf.2.2 x hxA
      refine lv_aload_n hx hb dX3_place_14 rfl (lv_at hl 0 rfl) ?_
      refine lv_iload_n hx hb dX3_place_15 rfl (lv_at hl 1 rfl) ?_
      refine lv_aload_n hx hb dX3_place_16 rfl (lv_at hl 0 rfl) ?_
      refine gf_M_7 hx hb hown hts hG hw hS.1.1 hS.2.1 dX3_place_17 ?_
      refine lv_sipush (v := nI 1000) hx hb dX3_place_20 (by decide) ?_
      refine lv_iload_n hx hb dX3_place_23 rfl (lv_at hl 1 rfl) ?_
      refine lv_imul hx hb dX3_place_24 ?_
      rw [pk_mul]
      refine lv_iload hx hb dX3_place_25 (lv_at hl 4 rfl) ?_
      refine lv_iadd hx hb dX3_place_27 ?_
      rw [nI_add]
      refine jx_saldI hx hb hG hw hS.1.2.1 3 hS.2.2.1 rfl (by omega) (by decide) dX3_place_28 ?_
      rw [hro t x hxt]
      refine lv_lload_n hx hb dX3_place_29 rfl (lv_at hl 2 rfl) ?_
      refine lv_iload hx hb dX3_place_30 (lv_at hl 3 rfl) ?_
      refine cl_M_33 (As := [.int (nI i), .int (nI x.1), .long s0, .int (nI j)]) (rest := []) hx hb hml hown hts hG hw (c_M_isAhead l D ct hS hi hx1 hj) rfl hR hS.1.1 hS.2.1 hl.1 rfl (Nat.le_of_ble_eq_true rfl) dX3_place_32 hcs (fun v L' f' H1 locs1 hp hw hcf => ?_)
      obtain ⟨hv, eL, ef⟩ := hp
      rw [eL, ef] at hw
      rw [hss x hxA] at hv
      rcases hv with ⟨hah, rfl⟩ | ⟨hah, rfl⟩
      · refine lv_if_eq (tgt := 44) hx hb dX3_place_35 (by decide) (fun h => absurd h (by decide)) (fun _ => ?_)
        have h5 : t < A1.length := by
          rcases Nat.lt_or_ge t A1.length with q | q
          · exact q
          · rw [eA, List.getElem?_append_right q] at hxt
            exact absurd hah (g2 x (List.mem_of_getElem? hxt))
        refine lv_iinc (v := nI (t + 1)) (lv' := [(5, .int (nI (t + 1))), (0, .ref y), (1, .int (nI i)), (2, .long s0), (4, .int (nI j))]) hx hb dX3_place_38 hl (k := 4) rfl (nI_succ t).symm (by decide) rfl (fun ls hl => ?_)
        refine lv_goto (tgt := 3) hx hb dX3_place_41 (by decide) ?_
        exact ih (t + 1) _ _ ls (by omega) (by omega) hw (lv_sub hl [1, 2, 3, 4, 0] rfl)
      · refine lv_if_eq (tgt := 44) hx hb dX3_place_35 (by decide) (fun _ => ?_) (fun h => absurd rfl h)
        have h5 : t = A1.length := by
          rcases Nat.lt_or_ge t A1.length with q | q
          · rw [eA, List.getElem?_append_left q] at hxt
            exact absurd (g1 x (List.mem_of_getElem? hxt)) hah
          · omega
        subst h5
        exact kk _ _ ls hw (lv_sub hl [4] rfl)
end MP
set_option maxHeartbeats 4000000 in
set_option maxRecDepth 100000 in
theorem c_M_place (l : Launch) (D : va_G) (ct : Nat → ClassId) {y rw sc th sz : Nat} {L : List Nat} {f : Nat → va_E} {ro tt zz : Nat → Int32} {ss : Nat → Int64} {N i : Nat} {As : List (Nat × Int64)} (hS : jm_S ct y rw sc th sz L f ro ss tt zz) (hi : i < 4) (hR0 : jm_R N i As ro ss tt zz) (hN : N ≤ 1000) {A1 A2 : List (Nat × Int64)} (eA : As = A1 ++ A2) {j : Nat} (hj : j < 1000) {s0 : Int64} (g1 : ∀ x ∈ A1, jz_ah x.2 (jz_word (nI x.1)) s0 (jz_word (nI j))) (g2 : ∀ x ∈ A2, ¬ jz_ah x.2 (jz_word (nI x.1)) s0 (jz_word (nI j))) :
    jz_M l D ct yX3_place cX3_place 6 (some .int) ({ frames := 2, cells := 0, slots := 0, locals := 47 } : Room) [.ref y, .int (nI i), .long s0, .int (nI j)] L f (fun v L' f' => v = some (.int (nI A1.length)) ∧ L' = L ∧ f' = f) := by
  refine jx_enter (by decide) (Nat.le_of_ble_eq_true rfl) ?_
  intro p e s m below meth c C hw ls hl
  obtain ⟨hx, hb, hrt, hlk, hnm, hml, hown, hts, hG⟩ := C
  have hl : lv_has ls 6 [(0, .ref y), (1, .int (nI i)), (2, .long s0), (4, .int (nI j))] := hl
  refine lv_iconst (v := nI 0) hx hb dX3_place_0 (by decide) ?_
  refine lv_istore (lv' := [(5, .int (nI 0)), (0, .ref y), (1, .int (nI i)), (2, .long s0), (4, .int (nI j))]) hx hb dX3_place_1 hl (by decide) rfl (fun ls hl => ?_)
  refine lp_place hx hb hml hown hts hG ⟨Nat.le_of_ble_eq_true rfl, Nat.le_of_ble_eq_true rfl⟩ ⟨Nat.le_of_ble_eq_true rfl, Nat.le_of_ble_eq_true rfl⟩ hS hi hR0 hN eA hj g1 g2 (fun H locs ls hw hl => ?_) (A1.length + 1) 0 _ _ ls (by omega) (Nat.zero_le _) hw (lv_sub hl [1, 2, 3, 4, 0] rfl)
  refine lv_iload hx hb dX3_place_44 (lv_at hl 0 rfl) ?_
  exact jx_iret hx hb hrt hlk hw (Nat.le_refl _) (Nat.le_refl _) dX3_place_46 ⟨rfl, rfl, rfl⟩
