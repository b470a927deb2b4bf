def jz_word (x : Int32) : Int32 := if x < 10 then x * 100 * 4 + 1 else if x < 100 then x * 10 * 4 + 2 else x * 4 + 3
set_option maxHeartbeats 4000000 in
set_option maxRecDepth 100000 in
theorem c_wordOf (l : Launch) (D : va_G) (ct : Nat → ClassId) (L : List Nat) (f : Nat → va_E) (x : Int32) : jz_M l D ct yX1_wordOf cX1_wordOf 1 (some .int) ({ frames := 0, cells := 0, slots := 0, locals := 0 } : Room) [.int x] L f (fun v L' f' => v = some (.int (jz_word x)) ∧ L' = L ∧ f' = f) := by
  refine jx_enter (by decide) (Nat.le_of_ble_eq_true rfl) ?_
  intro p e s m below meth c C hw ls hl
  obtain ⟨hx, hb, hrt, hlk, hnm, hml, hown, hts, hG⟩ := C
  have hl : lv_has ls 1 [(0, .int x)] := hl
  refine lv_iload_n hx hb dX1_wordOf_0 rfl (lv_at hl 0 rfl) ?_
  refine lv_bipush (v := 10) hx hb dX1_wordOf_1 (by decide) ?_
  refine lv_icmp_ge (tgt := 15) hx hb dX1_wordOf_3 (by decide) (fun h1x => ?_) (fun h1x => ?_)
  · refine lv_iload_n hx hb dX1_wordOf_15 rfl (lv_at hl 0 rfl) ?_
    refine lv_bipush (v := 100) hx hb dX1_wordOf_16 (by decide) ?_
    have h1 : ¬ x < 10 := Int32.not_lt.mpr h1x
    refine lv_icmp_ge (tgt := 30) hx hb dX1_wordOf_18 (by decide) (fun h2x => ?_) (fun h2x => ?_)
    · have h2 : ¬ x < 100 := Int32.not_lt.mpr h2x
      refine lv_iload_n hx hb dX1_wordOf_30 rfl (lv_at hl 0 rfl) ?_
      refine lv_iconst (v := 4) hx hb dX1_wordOf_31 (by decide) ?_
      refine lv_imul hx hb dX1_wordOf_32 ?_
      refine lv_iconst (v := 3) hx hb dX1_wordOf_33 (by decide) ?_
      refine lv_iadd hx hb dX1_wordOf_34 ?_
      exact jx_iret hx hb hrt hlk hw (Nat.zero_le _) (Nat.zero_le _) dX1_wordOf_35 ⟨by simp [jz_word, h1, h2], rfl, rfl⟩
    · have h2 : x < 100 := Int32.not_le.mp h2x
      refine lv_iload_n hx hb dX1_wordOf_21 rfl (lv_at hl 0 rfl) ?_
      refine lv_bipush (v := 10) hx hb dX1_wordOf_22 (by decide) ?_
      refine lv_imul hx hb dX1_wordOf_24 ?_
      refine lv_iconst (v := 4) hx hb dX1_wordOf_25 (by decide) ?_
      refine lv_imul hx hb dX1_wordOf_26 ?_
      refine lv_iconst (v := 2) hx hb dX1_wordOf_27 (by decide) ?_
      refine lv_iadd hx hb dX1_wordOf_28 ?_
      exact jx_iret hx hb hrt hlk hw (Nat.zero_le _) (Nat.zero_le _) dX1_wordOf_29 ⟨by simp [jz_word, h1, h2], rfl, rfl⟩
  · have h1 : x < 10 := Int32.not_le.mp h1x
    refine lv_iload_n hx hb dX1_wordOf_6 rfl (lv_at hl 0 rfl) ?_
    refine lv_bipush (v := 100) hx hb dX1_wordOf_7 (by decide) ?_
    refine lv_imul hx hb dX1_wordOf_9 ?_
    refine lv_iconst (v := 4) hx hb dX1_wordOf_10 (by decide) ?_
    refine lv_imul hx hb dX1_wordOf_11 ?_
    refine lv_iconst (v := 1) hx hb dX1_wordOf_12 (by decide) ?_
    refine lv_iadd hx hb dX1_wordOf_13 ?_
    exact jx_iret hx hb hrt hlk hw (Nat.zero_le _) (Nat.zero_le _) dX1_wordOf_14 ⟨by simp [jz_word, h1], rfl, rfl⟩
def jz_mem (x : Int32) : Prop := 0 ≤ x ∧ x < 1000
set_option maxHeartbeats 4000000 in
set_option maxRecDepth 100000 in
theorem c_isMember (l : Launch) (D : va_G) (ct : Nat → ClassId) (L : List Nat) (f : Nat → va_E) (x : Int32) : jz_M l D ct yX2_isMember cX2_isMember 1 (some .boolean) ({ frames := 0, cells := 0, slots := 0, locals := 0 } : Room) [.int x] L f (fun v L' f' => (jz_mem x ∧ v = some (.int 1) ∨ ¬ jz_mem x ∧ v = some (.int 0)) ∧ L' = L ∧ f' = f) := by
  refine jx_enter (by decide) (Nat.le_of_ble_eq_true rfl) ?_
  intro p e s m below meth c C hw ls hl
  obtain ⟨hx, hb, hrt, hlk, hnm, hml, hown, hts, hG⟩ := C
  have hl : lv_has ls 1 [(0, .int x)] := hl
  refine lv_iload_n hx hb dX2_isMember_0 rfl (lv_at hl 0 rfl) ?_
  refine lv_if_lt (tgt := 15) hx hb dX2_isMember_1 (by decide) (fun h1 => ?_) (fun h1 => ?_)
  · refine lv_iconst (v := 0) hx hb dX2_isMember_15 (by decide) ?_
    exact jx_zret hx hb hrt rfl hlk hw (Nat.zero_le _) (Nat.zero_le _) dX2_isMember_16 ⟨Or.inr ⟨fun q => absurd h1 (Int32.not_lt.mpr q.1), rfl⟩, rfl, rfl⟩
  · refine lv_iload_n hx hb dX2_isMember_4 rfl (lv_at hl 0 rfl) ?_
    refine lv_sipush (v := 1000) hx hb dX2_isMember_5 (by decide) ?_
    refine lv_icmp_ge (tgt := 15) hx hb dX2_isMember_8 (by decide) (fun h2 => ?_) (fun h2 => ?_)
    · refine lv_iconst (v := 0) hx hb dX2_isMember_15 (by decide) ?_
      exact jx_zret hx hb hrt rfl hlk hw (Nat.zero_le _) (Nat.zero_le _) dX2_isMember_16 ⟨Or.inr ⟨fun q => absurd q.2 (Int32.not_lt.mpr h2), rfl⟩, rfl, rfl⟩
    · refine lv_iconst (v := 1) hx hb dX2_isMember_11 (by decide) ?_
      refine lv_goto (tgt := 16) hx hb dX2_isMember_12 (by decide) ?_
      exact jx_zret hx hb hrt rfl hlk hw (Nat.zero_le _) (Nat.zero_le _) dX2_isMember_16 ⟨Or.inl ⟨⟨Int32.not_lt.mp h1, Int32.not_le.mp h2⟩, rfl⟩, rfl, rfl⟩
def jz_ah (sv : Int64) (wv : Int32) (sc : Int64) (wd : Int32) : Prop := sv < sc ∨ (sv = sc ∧ wv < wd)
set_option maxHeartbeats 4000000 in
set_option maxRecDepth 100000 in
theorem c_isAheadOf (l : Launch) (D : va_G) (ct : Nat → ClassId) (L : List Nat) (f : Nat → va_E) (a : Nat) (sv sc : Int64) (wv wd : Int32) (v0 v2 v3 v4 v6 : Value) (haL : a ∈ L) (hfa : f a = .inr (2, [v0, .int wv, v2, v3, v4, .long sv, v6])) : jz_M l D ct yX1_isAheadOf cX1_isAheadOf 4 (some .boolean) ({ frames := 0, cells := 0, slots := 0, locals := 0 } : Room) [.ref a, .long sc, .int wd] L f (fun v L' f' => (jz_ah sv wv sc wd ∧ v = some (.int 1) ∨ ¬ jz_ah sv wv sc wd ∧ v = some (.int 0)) ∧ L' = L ∧ f' = f) := by
  refine jx_enter (by decide) (Nat.le_of_ble_eq_true rfl) ?_
  intro p e s m below meth c C hw ls hl
  obtain ⟨hx, hb, hrt, hlk, hnm, hml, hown, hts, hG⟩ := C
  have hl : lv_has ls 4 [(0, .ref a), (1, .long sc), (3, .int wd)] := hl
  refine lv_aload_n hx hb dX1_isAheadOf_0 rfl (lv_at hl 0 rfl) ?_
  refine gf_P_33 hx hb hown hts hG hw haL hfa dX1_isAheadOf_1 ?_
  refine lv_lload_n hx hb dX1_isAheadOf_4 rfl (lv_at hl 1 rfl) ?_
  refine W.lcmp hx hb dX1_isAheadOf_5 ?_
  refine lv_if_lt (tgt := 26) hx hb dX1_isAheadOf_6 (by decide) (fun h1x => ?_) (fun h1x => ?_)
  · have h1 : sv < sc := (lg_cmp_lt sv sc).mp h1x
    refine lv_iconst (v := 1) hx hb dX1_isAheadOf_26 (by decide) ?_
    refine lv_goto (tgt := 31) hx hb dX1_isAheadOf_27 (by decide) ?_
    exact jx_zret hx hb hrt rfl hlk hw (Nat.zero_le _) (Nat.zero_le _) dX1_isAheadOf_31 ⟨Or.inl ⟨Or.inl h1, rfl⟩, rfl, rfl⟩
  · have h1 : ¬ sv < sc := fun q => h1x ((lg_cmp_lt sv sc).mpr q)
    refine lv_aload_n hx hb dX1_isAheadOf_9 rfl (lv_at hl 0 rfl) ?_
    refine gf_P_33 hx hb hown hts hG hw haL hfa dX1_isAheadOf_10 ?_
    refine lv_lload_n hx hb dX1_isAheadOf_13 rfl (lv_at hl 1 rfl) ?_
    refine W.lcmp hx hb dX1_isAheadOf_14 ?_
    refine lv_if_ne (tgt := 30) hx hb dX1_isAheadOf_15 (by decide) (fun h2x => ?_) (fun h2x => ?_)
    · have h2 : ¬ sv = sc := fun q => h2x ((lg_cmp_eq sv sc).mpr q)
      refine lv_iconst (v := 0) hx hb dX1_isAheadOf_30 (by decide) ?_
      exact jx_zret hx hb hrt rfl hlk hw (Nat.zero_le _) (Nat.zero_le _) dX1_isAheadOf_31 ⟨Or.inr ⟨fun q => q.elim h1 (fun q => h2 q.1), rfl⟩, rfl, rfl⟩
    · have h2 : sv = sc := (lg_cmp_eq sv sc).mp h2x
      refine lv_aload_n hx hb dX1_isAheadOf_18 rfl (lv_at hl 0 rfl) ?_
      refine gf_P_19 hx hb hown hts hG hw haL hfa dX1_isAheadOf_19 ?_
      refine lv_iload_n hx hb dX1_isAheadOf_22 rfl (lv_at hl 2 rfl) ?_
      refine lv_icmp_ge (tgt := 30) hx hb dX1_isAheadOf_23 (by decide) (fun h3 => ?_) (fun h3 => ?_)
      · refine lv_iconst (v := 0) hx hb dX1_isAheadOf_30 (by decide) ?_
        exact jx_zret hx hb hrt rfl hlk hw (Nat.zero_le _) (Nat.zero_le _) dX1_isAheadOf_31 ⟨Or.inr ⟨fun q => q.elim h1 (fun q => absurd q.2 (Int32.not_lt.mpr h3)), rfl⟩, rfl, rfl⟩
      · refine lv_iconst (v := 1) hx hb dX1_isAheadOf_26 (by decide) ?_
        refine lv_goto (tgt := 31) hx hb dX1_isAheadOf_27 (by decide) ?_
        exact jx_zret hx hb hrt rfl hlk hw (Nat.zero_le _) (Nat.zero_le _) dX1_isAheadOf_31 ⟨Or.inl ⟨Or.inr ⟨h2, Int32.not_le.mp h3⟩, rfl⟩, rfl, rfl⟩
section HT
variable {p : Program} {l : Launch} {e : Env} {R : Room} {s : State} {m : MethodId} {args : Array Value} {below : List Frame} {meth : Method} {c : Code} {H : Heap} {locs : List Loc} {cells slots : Nat} {Q : State → Prop} {D : va_G} {ct : Nat → ClassId} {A : Nat → Prop} {H0 : Heap} {L : List Nat}
set_option maxHeartbeats 4000000 in
set_option maxRecDepth 100000 in
theorem lp_heightOf (hx : p.tables.exec = Jvm.exec) (hb : c.code = cX0_heightOf) (x : Int32) (kk : ∀ (h : Nat) (b : Int32) (ls : Array Slot), 1 ≤ h → h ≤ 4 → lv_has ls 3 [(0, .int x), (1, .int b), (2, .int (nI h))] → W p l e R s m args below meth c H locs cells slots Q (F0 m 31 ls [])) :
    ∀ (t h : Nat) (b : Int32) (ls : Array Slot), 4 - h < t → 1 ≤ h → h ≤ 4 → lv_has ls 3 [(0, .int x), (1, .int b), (2, .int (nI h))] → W p l e R s m args below meth c H locs cells slots Q (F0 m 10 ls []) := by
  intro t
  induction t with
  | zero => intro h b ls ht; exact absurd ht (Nat.not_lt_zero _)
  | succ t ih =>
    intro h b ls ht h1 h4 hl
    refine lv_iload_n hx hb dX0_heightOf_10 rfl (lv_at hl 2 rfl) ?_
    refine lv_iconst (v := nI 4) hx hb dX0_heightOf_11 (by decide) ?_
    refine lv_icmp_ge (tgt := 31) hx hb dX0_heightOf_12 (by decide) (fun hc => ?_) (fun hc => ?_)
    · exact kk h b ls h1 h4 (lv_sub hl [0, 1, 2] rfl)
    · have h5 : h < 4 := by
        rcases Nat.lt_or_ge h 4 with q | q
        · exact q
        · exact absurd (nI_le q (by omega)) hc
      refine lv_iload_n hx hb dX0_heightOf_15 rfl (lv_at hl 1 rfl) ?_
      refine lv_iconst (v := 3) hx hb dX0_heightOf_16 (by decide) ?_
      refine lv_iand hx hb dX0_heightOf_17 ?_
      refine lv_if_ne (tgt := 31) hx hb dX0_heightOf_18 (by decide) (fun hd => ?_) (fun hd => ?_)
      · exact kk h b ls h1 h4 (lv_sub hl [0, 1, 2] rfl)
      · refine lv_iload_n hx hb dX0_heightOf_21 rfl (lv_at hl 1 rfl) ?_
        refine lv_iconst (v := 2) hx hb dX0_heightOf_22 (by decide) ?_
        refine lv_iushr (v := (b.toUInt32 >>> ((2 : Int32).toUInt32 &&& Int32.toUInt32 31)).toInt32) hx hb dX0_heightOf_23 rfl ?_
        refine lv_topi (fun b2 _ => ?_)
        refine lv_istore_n (lv' := [(1, .int b2), (0, .int x), (2, .int (nI h))]) hx hb dX0_heightOf_24 rfl hl (by decide) rfl (fun ls hl => ?_)
        refine lv_iinc (v := nI (h + 1)) (lv' := [(2, .int (nI (h + 1))), (1, .int b2), (0, .int x)]) hx hb dX0_heightOf_25 hl (k := 2) rfl (nI_succ h).symm (by decide) rfl (fun ls hl => ?_)
        refine lv_goto (tgt := 10) hx hb dX0_heightOf_28 (by decide) ?_
        exact ih (h + 1) b2 ls (by omega) (by omega) (by omega) (lv_sub hl [2, 1, 0] rfl)
end HT
set_option maxHeartbeats 4000000 in
set_option maxRecDepth 100000 in
theorem c_heightOf (l : Launch) (D : va_G) (ct : Nat → ClassId) (L : List Nat) (f : Nat → va_E) (x : Int32) : jz_M l D ct yX0_heightOf cX0_heightOf 3 (some .int) ({ frames := 0, cells := 0, slots := 0, locals := 0 } : Room) [.int x] L f (fun v L' f' => (∃ h : Nat, 1 ≤ h ∧ h ≤ 4 ∧ v = some (.int (nI h))) ∧ L' = L ∧ f' = f) := by
  refine jx_enter (by decide) (Nat.le_of_ble_eq_true rfl) ?_
  intro p e s m below meth c C hw ls hl
  obtain ⟨hx, hb, hrt, hlk, hnm, hml, hown, hts, hG⟩ := C
  have hl : lv_has ls 3 [(0, .int x)] := hl
  refine lv_iload_n hx hb dX0_heightOf_0 rfl (lv_at hl 0 rfl) ?_
  refine lv_ldc (own := RX0) (v := -1640531535) hx hb hown (hts (.constant RX0 87 (-1640531535)) (by decide +kernel)) dX0_heightOf_1 ?_
  refine lv_imul hx hb dX0_heightOf_3 ?_
  refine lv_bipush (v := 16) hx hb dX0_heightOf_4 (by decide) ?_
  refine lv_iushr (v := ((x * (-1640531535)).toUInt32 >>> ((16 : Int32).toUInt32 &&& Int32.toUInt32 31)).toInt32) hx hb dX0_heightOf_6 rfl ?_
  refine lv_topi (fun b _ => ?_)
  refine lv_istore_n (lv' := [(1, .int b), (0, .int x)]) hx hb dX0_heightOf_7 rfl hl (by decide) rfl (fun ls hl => ?_)
  refine lv_iconst (v := nI 1) hx hb dX0_heightOf_8 (by decide) ?_
  refine lv_istore_n (lv' := [(2, .int (nI 1)), (1, .int b), (0, .int x)]) hx hb dX0_heightOf_9 rfl hl (by decide) rfl (fun ls hl => ?_)
  refine lp_heightOf hx hb x (fun h b ls h1 h4 hl => ?_) 5 1 b ls (by decide) (by decide) (by decide) (lv_sub hl [2, 1, 0] rfl)
  refine lv_iload_n hx hb dX0_heightOf_31 rfl (lv_at hl 2 rfl) ?_
  exact jx_iret hx hb hrt hlk hw (Nat.zero_le _) (Nat.zero_le _) dX0_heightOf_32 ⟨⟨h, h1, h4, rfl⟩, rfl, rfl⟩
