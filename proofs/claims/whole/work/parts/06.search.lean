set_option maxHeartbeats 4000000 in
set_option maxRecDepth 100000 in
theorem c_goToHead (l : Launch) (D : va_G) (ct : Nat → ClassId) {L : List Nat} {f : Nat → va_E} {cnt ps : Int32} {o hd pa hr : Nat} (hoL : o ∈ L) (hfo : f o = jo_eO hd pa cnt hr ps) : jz_M l D ct yX0_goToHead cX0_goToHead 1 none ({ frames := 0, cells := 0, slots := 0, locals := 0 } : Room) [.ref o] L f (fun v L' f' => v = none ∧ L' = L ∧ f' = va_up f o (jo_eO hd pa cnt hd (nI 0))) := by
  refine jx_enter (by decide) (Nat.le_of_ble_eq_true rfl) ?_
  intro p e s m below meth c C hw ls hl
  obtain ⟨hx, hb, hrt, hlk, hnm, hml, hown, hts, hG⟩ := C
  have hl : lv_has ls 1 [(0, .ref o)] := hl
  refine lv_aload_n hx hb dX0_goToHead_0 rfl (lv_at hl 0 rfl) ?_
  refine lv_aload_n hx hb dX0_goToHead_1 rfl (lv_at hl 0 rfl) ?_
  refine gf_O_14 hx hb hown hts hG hw hoL hfo dX0_goToHead_2 ?_
  refine pf_O_24 hx hb hown hts hG hw hoL hfo dX0_goToHead_5 (fun H locs hw => ?_)
  refine lv_aload_n hx hb dX0_goToHead_8 rfl (lv_at hl 0 rfl) ?_
  refine lv_iconst (v := nI 0) hx hb dX0_goToHead_9 (by decide) ?_
  refine pf_O_56 hx hb hown hts hG hw hoL (va_up_self _ _ _) dX0_goToHead_10 (fun H locs hw => ?_)
  rw [bx_uu] at hw
  exact jx_vret hx hb hrt hlk hw (Nat.zero_le _) (Nat.zero_le _) dX0_goToHead_13 ⟨rfl, rfl, rfl⟩
section GA
variable {p : Program} {l : Launch} {e : Env} {R : Room} {s : State} {m : MethodId} {args : Array Value} {below : List Frame} {meth : Method} {c : Code} {H : Heap} {locs : List Loc} {cells slots : Nat} {Q : State → Prop} {D : va_G} {ct : Nat → ClassId} {A : Nat → Prop} {H0 : Heap} {L : List Nat}
variable {f0 : Nat → va_E} {k : jK} {u : jS} {PS ns : List Nat} {cnt : Int32} {o hd pa r tg : Nat}
set_option maxHeartbeats 4000000 in
set_option maxRecDepth 100000 in
theorem lp_goAheadOf (hx : p.tables.exec = Jvm.exec) (hb : c.code = cX0_goAheadOf) (hown : s.vm.findClass RO = some m.cls) (hts : ∀ w ∈ jz_TT, w.before args s = true) (hG : jz_G D ct s) (hV0 : jo_V (ct 0) (ct 1) L f0 k u PS) (hN : jo_N k PS o) (hoL : o ∈ L) (hr4 : r < 4) (hPS : ∀ x ∈ ns, x ∈ PS) (hns : ns.length < 2 ^ 30) (htg : tg ≤ ns.length) (hrow : jr_ok k.2.2.1 u.2.2.1 u.2.2.2 r ns)
    (kk : ∀ (pre suf : List Nat) (hr : Nat) (H : Heap) (locs : List Loc) (ls : Array Slot), ns = pre ++ hr :: suf → r < k.2.2.1 hr → pre.length < tg → tg ≤ pre.length + jr_dst k.2.2.1 r suf → jz_w D A H0 L (va_up f0 o (jo_eO hd pa cnt hr (nI pre.length))) H locs → ls.size = 4 → W p l e R s m args below meth c H locs cells slots Q (F0 m 75 ls [])) :
    ∀ (t : Nat) (pre suf : List Nat) (hr : Nat) (H : Heap) (locs : List Loc) (ls : Array Slot), suf.length < t → ns = pre ++ hr :: suf → r < k.2.2.1 hr → pre.length < tg → jz_w D A H0 L (va_up f0 o (jo_eO hd pa cnt hr (nI pre.length))) H locs → lv_has ls 4 [(0, .ref o), (1, .int (nI r)), (2, .int (nI tg)), (3, va_rf (jr_fst k.2.2.1 r suf))] → W p l e R s m args below meth c H locs cells slots Q (F0 m 20 ls []) := by
  intro t
  induction t with
  | zero => intro pre suf hr H locs ls ht; exact absurd ht (Nat.not_lt_zero _)
  | succ t ih =>
    intro pre suf hr H locs ls ht ens hh hpl hw hl
    have hhr : hr ∈ PS := hPS _ (by rw [ens]; simp)
    have hlen : pre.length + suf.length + 1 = ns.length := by rw [ens]; simp; omega
    obtain ⟨e1, e2⟩ := jr_atE hrow ens hh
    obtain ⟨f, hf⟩ : ∃ f, f = va_up f0 o (jo_eO hd pa cnt hr (nI pre.length)) := ⟨_, rfl⟩
    rw [← hf] at hw
    have hV : jo_V (ct 0) (ct 1) L f k u PS := by rw [hf]; exact hV0.up hN
    have hfo : f o = jo_eO hd pa cnt hr (nI pre.length) := by rw [hf, va_up_self]
    refine jx_aload_nq hx hb dX0_goAheadOf_20 rfl (lv_at hl 3 rfl) ?_
    refine jx_ifnullq (tgt := 75) hx hb dX0_goAheadOf_21 (by decide) (fun hnone => ?_) (fun b hb1 => ?_)
    · obtain ⟨hn1, hn2⟩ := jr_none hnone
      rw [hf] at hw
      exact kk pre suf hr H locs ls ens hh hpl (by rw [hn2]; omega) hw hl.1
    · obtain ⟨mid, suf2, es, hlow, hbh, hdst⟩ := jr_split hb1
      have hbP : b ∈ PS := hPS _ (by rw [ens, es]; simp)
      have hlen2 : mid.length + suf2.length + 1 = suf.length := by rw [es]; simp; omega
      refine lv_aload_n hx hb dX0_goAheadOf_24 rfl (lv_at hl 0 rfl) ?_
      refine gf_O_56 hx hb hown hts hG hw hoL hfo dX0_goAheadOf_25 ?_
      refine lv_aload_n hx hb dX0_goAheadOf_28 rfl (lv_at hl 0 rfl) ?_
      refine gf_O_24 hx hb hown hts hG hw hoL hfo dX0_goAheadOf_29 ?_
      refine gf_O_59 hx hb hown hts hG hw (hV.aL hhr) (hV.a hhr) dX0_goAheadOf_32 ?_
      refine lv_iload_n hx hb dX0_goAheadOf_35 rfl (lv_at hl 1 rfl) ?_
      refine jx_ialdI hx hb hG hw (hV.fL hhr) 0 (hV.r hhr) rfl hr4 (by decide) dX0_goAheadOf_36 ?_
      refine lv_iadd hx hb dX0_goAheadOf_37 ?_
      rw [e2, hdst, nI_add]
      refine lv_iload_n hx hb dX0_goAheadOf_38 rfl (lv_at hl 2 rfl) ?_
      refine lv_icmp_ge (tgt := 75) hx hb dX0_goAheadOf_39 (by decide) (fun hc => ?_) (fun hc => ?_)
      · rw [hf] at hw
        refine kk pre suf hr H locs ls ens hh hpl ?_ hw hl.1
        rw [hdst]
        rcases Nat.lt_or_ge (pre.length + (mid.length + 1)) tg with q | q
        · exact absurd (nI_lt q (by omega)) (Int32.not_lt.mpr hc)
        · exact q
      · have hlt : pre.length + (mid.length + 1) < tg := by
          rcases Nat.lt_or_ge (pre.length + (mid.length + 1)) tg with q | q
          · exact q
          · exact absurd (nI_le q (by omega)) hc
        refine lv_aload_n hx hb dX0_goAheadOf_42 rfl (lv_at hl 0 rfl) ?_
        refine lv_dup hx hb dX0_goAheadOf_43 rfl ?_
        refine gf_O_56 hx hb hown hts hG hw hoL hfo dX0_goAheadOf_44 ?_
        refine lv_aload_n hx hb dX0_goAheadOf_47 rfl (lv_at hl 0 rfl) ?_
        refine gf_O_24 hx hb hown hts hG hw hoL hfo dX0_goAheadOf_48 ?_
        refine gf_O_59 hx hb hown hts hG hw (hV.aL hhr) (hV.a hhr) dX0_goAheadOf_51 ?_
        refine lv_iload_n hx hb dX0_goAheadOf_54 rfl (lv_at hl 1 rfl) ?_
        refine jx_ialdI hx hb hG hw (hV.fL hhr) 0 (hV.r hhr) rfl hr4 (by decide) dX0_goAheadOf_55 ?_
        refine lv_iadd hx hb dX0_goAheadOf_56 ?_
        rw [e2, hdst, nI_add]
        refine pf_O_56 hx hb hown hts hG hw hoL hfo dX0_goAheadOf_57 (fun H locs hw => ?_)
        refine lv_aload_n hx hb dX0_goAheadOf_60 rfl (lv_at hl 0 rfl) ?_
        refine jx_aload_nq hx hb dX0_goAheadOf_61 rfl (lv_at hl 3 rfl) ?_
        rw [hb1]
        show W _ _ _ _ _ _ _ _ _ _ _ _ _ _ _ (F0 _ _ _ (.ref b :: _))
        refine pf_O_24 hx hb hown hts hG hw hoL (va_up_self _ _ _) dX0_goAheadOf_62 (fun H locs hw => ?_)
        rw [bx_uu, hf, bx_uu] at hw
        have hV : jo_V (ct 0) (ct 1) L (va_up f0 o (jo_eO hd pa cnt b (nI (pre.length + (mid.length + 1))))) k u PS := hV0.up hN
        refine jx_aload_nq hx hb dX0_goAheadOf_65 rfl (lv_at hl 3 rfl) ?_
        rw [hb1]
        show W _ _ _ _ _ _ _ _ _ _ _ _ _ _ _ (F0 _ _ _ (.ref b :: _))
        refine gf_O_49 hx hb hown hts hG hw (hV.aL hbP) (hV.a hbP) dX0_goAheadOf_66 ?_
        refine lv_iload_n hx hb dX0_goAheadOf_69 rfl (lv_at hl 1 rfl) ?_
        refine jx_aldqI hx hb hG hw (hV.nL hbP) 1 (hV.n hbP) rfl hr4 (by decide) dX0_goAheadOf_70 ?_
        have ens2 : ns = (pre ++ hr :: mid) ++ b :: suf2 := by rw [ens, es]; simp
        have hl3 : (pre ++ hr :: mid).length = pre.length + (mid.length + 1) := by simp
        rw [(jr_atE hrow ens2 hbh).1]
        refine jx_astore_nq (lv' := [(3, (va_rf (jr_fst k.2.2.1 r suf2))), (0, .ref o), (1, .int (nI r)), (2, .int (nI tg))]) hx hb dX0_goAheadOf_71 rfl hl (by decide) rfl (fun ls hl => ?_)
        refine lv_goto (tgt := 20) hx hb dX0_goAheadOf_72 (by decide) ?_
        exact ih (pre ++ hr :: mid) suf2 b H locs ls (by omega) ens2 hbh (by rw [hl3]; exact hlt) (by rw [hl3]; exact hw) (lv_sub hl [1, 2, 3, 0] rfl)
end GA
set_option maxHeartbeats 4000000 in
set_option maxRecDepth 100000 in
theorem c_goAheadOf (l : Launch) (D : va_G) (ct : Nat → ClassId) {L : List Nat} {f0 : Nat → va_E} {k : jK} {u : jS} {PS ns : List Nat} {cnt : Int32} {o hd pa r tg : Nat} (hV0 : jo_V (ct 0) (ct 1) L f0 k u PS) (hN : jo_N k PS o) (hoL : o ∈ L) (hr4 : r < 4) (hPS : ∀ x ∈ ns, x ∈ PS) (hns : ns.length < 2 ^ 30) (htg : tg ≤ ns.length) (hrow : jr_ok k.2.2.1 u.2.2.1 u.2.2.2 r ns) {pre suf : List Nat} {hr : Nat} (ens : ns = pre ++ hr :: suf) (hh : r < k.2.2.1 hr) (hpl : pre.length < tg) :
    jz_M l D ct yX0_goAheadOf cX0_goAheadOf 4 none ({ frames := 0, cells := 0, slots := 0, locals := 0 } : Room) [.ref o, .int (nI r), .int (nI tg)] L (va_up f0 o (jo_eO hd pa cnt hr (nI pre.length))) (fun v L' f' => v = none ∧ L' = L ∧ ∃ (pre' suf' : List Nat) (hr' : Nat), ns = pre' ++ hr' :: suf' ∧ f' = va_up f0 o (jo_eO hd pa cnt hr' (nI pre'.length)) ∧ r < k.2.2.1 hr' ∧ pre'.length < tg ∧ tg ≤ pre'.length + jr_dst k.2.2.1 r suf') := by
  refine jx_enter (by decide) (Nat.le_of_ble_eq_true rfl) ?_
  intro p e s m below meth c C hw ls hl
  obtain ⟨hx, hb, hrt, hlk, hnm, hml, hown, hts, hG⟩ := C
  have hl : lv_has ls 4 [(0, .ref o), (1, .int (nI r)), (2, .int (nI tg))] := hl
  have hhr : hr ∈ PS := hPS _ (by rw [ens]; simp)
  have hV : jo_V (ct 0) (ct 1) L (va_up f0 o (jo_eO hd pa cnt hr (nI pre.length))) k u PS := hV0.up hN
  refine lv_iload_n hx hb dX0_goAheadOf_0 rfl (lv_at hl 1 rfl) ?_
  refine lv_if_lt (tgt := 9) hx hb dX0_goAheadOf_1 (by decide) (fun h => absurd h (nI_pos (by omega))) (fun _ => ?_)
  refine lv_iload_n hx hb dX0_goAheadOf_4 rfl (lv_at hl 1 rfl) ?_
  refine lv_iconst (v := nI 4) hx hb dX0_goAheadOf_5 (by decide) ?_
  refine lv_icmp_lt (tgt := 10) hx hb dX0_goAheadOf_6 (by decide) (fun _ => ?_) (fun h => absurd (nI_lt hr4 (by decide)) h)
  refine lv_aload_n hx hb dX0_goAheadOf_10 rfl (lv_at hl 0 rfl) ?_
  refine gf_O_24 hx hb hown hts hG hw hoL (va_up_self _ _ _) dX0_goAheadOf_11 ?_
  refine gf_O_49 hx hb hown hts hG hw (hV.aL hhr) (hV.a hhr) dX0_goAheadOf_14 ?_
  refine lv_iload_n hx hb dX0_goAheadOf_17 rfl (lv_at hl 1 rfl) ?_
  refine jx_aldqI hx hb hG hw (hV.nL hhr) 1 (hV.n hhr) rfl hr4 (by decide) dX0_goAheadOf_18 ?_
  rw [(jr_atE hrow ens hh).1]
  refine jx_astore_nq (lv' := [(3, (va_rf (jr_fst k.2.2.1 r suf))), (0, .ref o), (1, .int (nI r)), (2, .int (nI tg))]) hx hb dX0_goAheadOf_19 rfl hl (by decide) rfl (fun ls hl => ?_)
  refine lp_goAheadOf hx hb hown hts hG hV0 hN hoL hr4 hPS hns htg hrow (fun pre suf hr H locs ls ens hh hpl hd hw hsz => ?_) (suf.length + 1) pre suf hr _ _ ls (Nat.lt_succ_self _) ens hh hpl hw (lv_sub hl [1, 2, 3, 0] rfl)
  exact jx_vret hx hb hrt hlk hw (Nat.zero_le _) (Nat.zero_le _) dX0_goAheadOf_75 ⟨rfl, rfl, pre, suf, hr, ens, rfl, hh, hpl, hd⟩
/-- where a place of the list stands, by whether it is ahead -/
theorem jz_idx {ah : Nat → Prop} {hd b hr : Nat} {p1 p2 pre mid suf : List Nat} (e : hd :: (p1 ++ p2) = pre ++ hr :: (mid ++ b :: suf)) (h1 : ∀ x ∈ p1, ah x) (h2 : ∀ x ∈ p2, ¬ ah x) : (ah b → pre.length + (mid.length + 1) ≤ p1.length) ∧ (¬ ah b → p1.length < pre.length + (mid.length + 1)) := by
  have e1 : (hd :: (p1 ++ p2))[pre.length + (mid.length + 1)]? = some b := by
    rw [e, List.getElem?_append_right (by omega), show pre.length + (mid.length + 1) - pre.length = mid.length + 1 by omega, List.getElem?_cons_succ, List.getElem?_append_right (by omega), Nat.sub_self]
    rfl
  rw [show pre.length + (mid.length + 1) = (pre.length + mid.length) + 1 by omega, List.getElem?_cons_succ] at e1
  refine ⟨fun hb => ?_, fun hb => ?_⟩
  · rcases Nat.lt_or_ge (pre.length + mid.length) p1.length with q | q
    · omega
    · rw [List.getElem?_append_right q] at e1
      exact absurd hb (h2 b (List.mem_of_getElem? e1))
  · rcases Nat.lt_or_ge (pre.length + mid.length) p1.length with q | q
    · rw [List.getElem?_append_left q] at e1
      exact absurd (h1 b (List.mem_of_getElem? e1)) hb
    · omega
section CA
variable {p : Program} {l : Launch} {e : Env} {R : Room} {s : State} {m : MethodId} {args : Array Value} {below : List Frame} {meth : Method} {c : Code} {H : Heap} {locs : List Loc} {cells slots : Nat} {Q : State → Prop} {D : va_G} {ct : Nat → ClassId} {A : Nat → Prop} {H0 : Heap} {L : List Nat}
variable {f0 : Nat → va_E} {k : jK} {u : jS} {PS ns p1 p2 : List Nat} {cnt wd : Int32} {sc : Int64} {o hd pa r : Nat}
set_option maxHeartbeats 4000000 in
set_option maxRecDepth 100000 in
theorem lp_cao_in (hx : p.tables.exec = Jvm.exec) (hb : c.code = cX0_countAheadOf) (hml : c.maxLocals = 6) (hown : s.vm.findClass RO = some m.cls) (hts : ∀ w ∈ jz_TT, w.before args s = true) (hG : jz_G D ct s) (hcs : cells ≤ R.cells ∧ slots ≤ R.slots) (hR : 0 + 1 ≤ R.frames ∧ 8 + (4 + 11) + 0 ≤ R.locals) (hV0 : jo_V (ct 0) (ct 1) L f0 k u PS) (hN : jo_N k PS o) (hoL : o ∈ L) (ens0 : ns = hd :: (p1 ++ p2)) (hPS : ∀ x ∈ ns, x ∈ PS) (hns : ns.length < 2 ^ 30) (hrow : ∀ r, r < 4 → jr_ok k.2.2.1 u.2.2.1 u.2.2.2 r ns) (hht : k.2.2.1 hd = 4) (hh1 : ∀ x ∈ ns, 1 ≤ k.2.2.1 x) (hA1 : ∀ x ∈ p1, jz_ah (u.1 x) (k.2.1 x) sc wd) (hA2 : ∀ x ∈ p2, ¬ jz_ah (u.1 x) (k.2.1 x) sc wd) (hr4 : r < 4)
    (kk : ∀ (pre suf : List Nat) (hr : Nat) (H : Heap) (locs : List Loc) (ls : Array Slot), ns = pre ++ hr :: suf → r < k.2.2.1 hr → pre.length ≤ p1.length → (∀ b, jr_fst k.2.2.1 r suf = some b → ¬ jz_ah (u.1 b) (k.2.1 b) sc wd) → jz_w D A H0 L (va_up f0 o (jo_eO hd pa cnt hr (nI pre.length))) H locs → lv_has ls 6 [(0, .ref o), (1, .long sc), (3, .int wd), (4, .int (nI r))] → W p l e R s m args below meth c H locs cells slots Q (F0 m 77 ls [])) :
    ∀ (t : Nat) (pre suf : List Nat) (hr : Nat) (H : Heap) (locs : List Loc) (ls : Array Slot), suf.length < t → ns = pre ++ hr :: suf → r < k.2.2.1 hr → pre.length ≤ p1.length → jz_w D A H0 L (va_up f0 o (jo_eO hd pa cnt hr (nI pre.length))) H locs → lv_has ls 6 [(0, .ref o), (1, .long sc), (3, .int wd), (4, .int (nI r)), (5, (va_rf (jr_fst k.2.2.1 r suf)))] → W p l e R s m args below meth c H locs cells slots Q (F0 m 24 ls []) := by
  intro t
  induction t with
  | zero => intro pre suf hr H locs ls ht; exact absurd ht (Nat.not_lt_zero _)
  | succ t ih =>
    intro pre suf hr H locs ls ht ens hh hpl hw hl
    have hhr : hr ∈ PS := hPS _ (by rw [ens]; simp)
    have hlen : pre.length + suf.length + 1 = ns.length := by rw [ens]; simp; omega
    obtain ⟨e1, e2⟩ := jr_atE (hrow r hr4) ens hh
    obtain ⟨f, hf⟩ : ∃ f, f = va_up f0 o (jo_eO hd pa cnt hr (nI pre.length)) := ⟨_, rfl⟩
    rw [← hf] at hw
    have hV : jo_V (ct 0) (ct 1) L f k u PS := by rw [hf]; exact hV0.up hN
    have hfo : f o = jo_eO hd pa cnt hr (nI pre.length) := by rw [hf, va_up_self]
    refine jx_aloadq hx hb dX0_countAheadOf_24 (lv_at hl 4 rfl) ?_
    refine jx_ifnullq (tgt := 77) hx hb dX0_countAheadOf_26 (by decide) (fun hnone => ?_) (fun b hb1 => ?_)
    · rw [hf] at hw
      exact kk pre suf hr H locs ls ens hh hpl (fun b q => by rw [hnone] at q; cases q) hw (lv_sub hl [0, 1, 2, 3] rfl)
    · obtain ⟨mid, suf2, es, hlow, hbh, hdst⟩ := jr_split hb1
      have hbP : b ∈ PS := hPS _ (by rw [ens, es]; simp)
      have hlen2 : mid.length + suf2.length + 1 = suf.length := by rw [es]; simp; omega
      obtain ⟨hi1, hi2⟩ := jz_idx (ah := fun x => jz_ah (u.1 x) (k.2.1 x) sc wd) (show hd :: (p1 ++ p2) = pre ++ hr :: (mid ++ b :: suf2) by rw [← ens0, ens, es]) hA1 hA2
      refine jx_aloadq hx hb dX0_countAheadOf_29 (lv_at hl 4 rfl) ?_
      rw [hb1]
      show W _ _ _ _ _ _ _ _ _ _ _ _ _ _ _ (F0 _ _ _ (.ref b :: _))
      refine lv_lload_n hx hb dX0_countAheadOf_31 rfl (lv_at hl 1 rfl) ?_
      refine lv_iload_n hx hb dX0_countAheadOf_32 rfl (lv_at hl 2 rfl) ?_
      refine cl_O_52 (As := [.long sc, .int wd]) (rest := []) hx hb hml hown hts hG hw (c_isAheadOf l D ct L f b (u.1 b) sc (k.2.1 b) wd _ _ _ _ _ (hV.aL hbP) (hV.a hbP)) rfl hR (hV.aL hbP) (hV.a hbP) hl.1 rfl (Nat.le_of_ble_eq_true rfl) dX0_countAheadOf_33 hcs (fun v L' f' H1 locs1 hp hw hcf => ?_)
      obtain ⟨hv, eL, ef⟩ := hp
      rw [eL, ef] at hw
      rcases hv with ⟨hah, rfl⟩ | ⟨hah, rfl⟩
      · refine lv_if_eq (tgt := 77) hx hb dX0_countAheadOf_36 (by decide) (fun h => absurd h (by decide)) (fun _ => ?_)
        have hi := hi1 hah
        refine lv_aload_n hx hb dX0_countAheadOf_39 rfl (lv_at hl 0 rfl) ?_
        refine lv_dup hx hb dX0_countAheadOf_40 rfl ?_
        refine gf_O_56 hx hb hown hts hG hw hoL hfo dX0_countAheadOf_41 ?_
        refine lv_aload_n hx hb dX0_countAheadOf_44 rfl (lv_at hl 0 rfl) ?_
        refine gf_O_24 hx hb hown hts hG hw hoL hfo dX0_countAheadOf_45 ?_
        refine gf_O_59 hx hb hown hts hG hw (hV.aL hhr) (hV.a hhr) dX0_countAheadOf_48 ?_
        refine lv_iload hx hb dX0_countAheadOf_51 (lv_at hl 3 rfl) ?_
        refine jx_ialdI hx hb hG hw (hV.fL hhr) 0 (hV.r hhr) rfl hr4 (by decide) dX0_countAheadOf_53 ?_
        refine lv_iadd hx hb dX0_countAheadOf_54 ?_
        rw [e2, hdst, nI_add]
        refine pf_O_56 hx hb hown hts hG hw hoL hfo dX0_countAheadOf_55 (fun H locs hw => ?_)
        refine lv_aload_n hx hb dX0_countAheadOf_58 rfl (lv_at hl 0 rfl) ?_
        refine jx_aloadq hx hb dX0_countAheadOf_59 (lv_at hl 4 rfl) ?_
        rw [hb1]
        show W _ _ _ _ _ _ _ _ _ _ _ _ _ _ _ (F0 _ _ _ (.ref b :: _))
        refine pf_O_24 hx hb hown hts hG hw hoL (va_up_self _ _ _) dX0_countAheadOf_61 (fun H locs hw => ?_)
        rw [bx_uu, hf, bx_uu] at hw
        have hV : jo_V (ct 0) (ct 1) L (va_up f0 o (jo_eO hd pa cnt b (nI (pre.length + (mid.length + 1))))) k u PS := hV0.up hN
        refine jx_aloadq hx hb dX0_countAheadOf_64 (lv_at hl 4 rfl) ?_
        rw [hb1]
        show W _ _ _ _ _ _ _ _ _ _ _ _ _ _ _ (F0 _ _ _ (.ref b :: _))
        refine gf_O_49 hx hb hown hts hG hw (hV.aL hbP) (hV.a hbP) dX0_countAheadOf_66 ?_
        refine lv_iload hx hb dX0_countAheadOf_69 (lv_at hl 3 rfl) ?_
        refine jx_aldqI hx hb hG hw (hV.nL hbP) 1 (hV.n hbP) rfl hr4 (by decide) dX0_countAheadOf_71 ?_
        have ens2 : ns = (pre ++ hr :: mid) ++ b :: suf2 := by rw [ens, es]; simp
        have hl3 : (pre ++ hr :: mid).length = pre.length + (mid.length + 1) := by simp
        rw [(jr_atE (hrow r hr4) ens2 hbh).1]
        refine jx_astoreq (lv' := [(5, (va_rf (jr_fst k.2.2.1 r suf2))), (0, .ref o), (1, .long sc), (3, .int wd), (4, .int (nI r))]) hx hb dX0_countAheadOf_72 hl (by decide) rfl (fun ls hl => ?_)
        refine lv_goto (tgt := 24) hx hb dX0_countAheadOf_74 (by decide) ?_
        exact ih (pre ++ hr :: mid) suf2 b _ _ ls (by omega) ens2 hbh (by rw [hl3]; exact hi) (by rw [hl3]; exact hw) (lv_sub hl [1, 2, 3, 4, 0] rfl)
      · refine lv_if_eq (tgt := 77) hx hb dX0_countAheadOf_36 (by decide) (fun _ => ?_) (fun h => absurd rfl h)
        rw [hf] at hw
        exact kk pre suf hr _ _ ls ens hh hpl (fun b2 q => by rw [hb1] at q; cases q; exact hah) hw (lv_sub hl [0, 1, 2, 3] rfl)
def jz_row : Nat → Int32
  | 0 => -1
  | j + 1 => nI j
theorem jz_row_pred (j : Nat) : nI j + Int32.ofInt (-1) = jz_row j := by
  cases j with
  | zero => decide
  | succ i => exact pk_m1 i
set_option maxHeartbeats 4000000 in
set_option maxRecDepth 100000 in
theorem lp_cao (hx : p.tables.exec = Jvm.exec) (hb : c.code = cX0_countAheadOf) (hml : c.maxLocals = 6) (hown : s.vm.findClass RO = some m.cls) (hts : ∀ w ∈ jz_TT, w.before args s = true) (hG : jz_G D ct s) (hcs : cells ≤ R.cells ∧ slots ≤ R.slots) (hR : 0 + 1 ≤ R.frames ∧ 8 + (4 + 11) + 0 ≤ R.locals) (hV0 : jo_V (ct 0) (ct 1) L f0 k u PS) (hN : jo_N k PS o) (hoL : o ∈ L) (ens0 : ns = hd :: (p1 ++ p2)) (hPS : ∀ x ∈ ns, x ∈ PS) (hns : ns.length < 2 ^ 30) (hrow : ∀ r, r < 4 → jr_ok k.2.2.1 u.2.2.1 u.2.2.2 r ns) (hht : k.2.2.1 hd = 4) (hh1 : ∀ x ∈ ns, 1 ≤ k.2.2.1 x) (hA1 : ∀ x ∈ p1, jz_ah (u.1 x) (k.2.1 x) sc wd) (hA2 : ∀ x ∈ p2, ¬ jz_ah (u.1 x) (k.2.1 x) sc wd)
    (kk : ∀ (hr : Nat) (H : Heap) (locs : List Loc) (ls : Array Slot), jz_w D A H0 L (va_up f0 o (jo_eO hd pa cnt hr (nI p1.length))) H locs → lv_has ls 6 [(0, .ref o)] → W p l e R s m args below meth c H locs cells slots Q (F0 m 83 ls [])) :
    ∀ (j : Nat) (pre suf : List Nat) (hr : Nat) (H : Heap) (locs : List Loc) (ls : Array Slot), j ≤ 4 → ns = pre ++ hr :: suf → j ≤ k.2.2.1 hr → pre.length ≤ p1.length → (j = 0 → pre.length = p1.length) → jz_w D A H0 L (va_up f0 o (jo_eO hd pa cnt hr (nI pre.length))) H locs → lv_has ls 6 [(0, .ref o), (1, .long sc), (3, .int wd), (4, .int (jz_row j))] → W p l e R s m args below meth c H locs cells slots Q (F0 m 7 ls []) := by
  intro j
  induction j with
  | zero =>
    intro pre suf hr H locs ls _ ens hh hpl h0 hw hl
    refine lv_iload hx hb dX0_countAheadOf_7 (lv_at hl 3 rfl) ?_
    refine lv_if_lt (tgt := 83) hx hb dX0_countAheadOf_9 (by decide) (fun _ => ?_) (fun h => absurd (by decide) h)
    rw [h0 rfl] at hw
    exact kk hr H locs ls hw (lv_sub hl [0] rfl)
  | succ j ih =>
    intro pre suf hr H locs ls hj4 ens hh hpl _ hw hl
    have hr4 : j < 4 := hj4
    have hl : lv_has ls 6 [(0, .ref o), (1, .long sc), (3, .int wd), (4, .int (nI j))] := hl
    have hhr : hr ∈ PS := hPS _ (by rw [ens]; simp)
    have hV : jo_V (ct 0) (ct 1) L (va_up f0 o (jo_eO hd pa cnt hr (nI pre.length))) k u PS := hV0.up hN
    refine lv_iload hx hb dX0_countAheadOf_7 (lv_at hl 3 rfl) ?_
    refine lv_if_lt (tgt := 83) hx hb dX0_countAheadOf_9 (by decide) (fun h => absurd h (nI_pos (by omega))) (fun _ => ?_)
    refine lv_aload_n hx hb dX0_countAheadOf_12 rfl (lv_at hl 0 rfl) ?_
    refine gf_O_24 hx hb hown hts hG hw hoL (va_up_self _ _ _) dX0_countAheadOf_13 ?_
    refine gf_O_49 hx hb hown hts hG hw (hV.aL hhr) (hV.a hhr) dX0_countAheadOf_16 ?_
    refine lv_iload hx hb dX0_countAheadOf_19 (lv_at hl 3 rfl) ?_
    refine jx_aldqI hx hb hG hw (hV.nL hhr) 1 (hV.n hhr) rfl hr4 (by decide) dX0_countAheadOf_21 ?_
    rw [(jr_atE (hrow j hr4) ens hh).1]
    refine jx_astoreq (lv' := [(5, (va_rf (jr_fst k.2.2.1 j suf))), (0, .ref o), (1, .long sc), (3, .int wd), (4, .int (nI j))]) hx hb dX0_countAheadOf_22 hl (by decide) rfl (fun ls hl => ?_)
    refine lp_cao_in hx hb hml hown hts hG hcs hR hV0 hN hoL ens0 hPS hns hrow hht hh1 hA1 hA2 hr4 (fun pre suf hr H locs ls ens hh hpl hex hw hl => ?_) (suf.length + 1) pre suf hr _ _ ls (Nat.lt_succ_self _) ens hh hpl hw (lv_sub hl [1, 2, 3, 4, 0] rfl)
    refine lv_iinc (v := jz_row j) (lv' := [(4, .int (jz_row j)), (0, .ref o), (1, .long sc), (3, .int wd)]) hx hb dX0_countAheadOf_77 hl (k := 3) rfl (jz_row_pred j) (by decide) rfl (fun ls hl => ?_)
    refine lv_goto (tgt := 7) hx hb dX0_countAheadOf_80 (by decide) ?_
    refine ih pre suf hr H locs ls (by omega) ens (by omega) hpl (fun h0 => ?_) hw (lv_sub hl [1, 2, 3, 0] rfl)
    subst h0
    have hall : ∀ x ∈ suf, 1 ≤ k.2.2.1 x := fun x hx => hh1 x (by rw [ens]; simp [hx])
    have hlen : (hd :: (p1 ++ p2)).length = (pre ++ hr :: suf).length := by rw [← ens0, ens]
    simp only [List.length_cons, List.length_append] at hlen
    cases suf with
    | nil => simp only [List.length_nil] at hlen; omega
    | cons b t =>
      have hb0 : 0 < k.2.2.1 b := hall b List.mem_cons_self
      have hnb := hex b (jr_fst_at hb0)
      have := (jz_idx (ah := fun x => jz_ah (u.1 x) (k.2.1 x) sc wd) (mid := []) (ens0.symm.trans ens) hA1 hA2).2 hnb
      simp only [List.length_nil] at this
      omega
end CA
set_option maxHeartbeats 4000000 in
set_option maxRecDepth 100000 in
theorem c_countAheadOf (l : Launch) (D : va_G) (ct : Nat → ClassId) {L : List Nat} {f0 : Nat → va_E} {k : jK} {u : jS} {PS ns p1 p2 : List Nat} {cnt ps wd : Int32} {sc : Int64} {o hd pa hr : Nat} (hV0 : jo_V (ct 0) (ct 1) L f0 k u PS) (hN : jo_N k PS o) (hoL : o ∈ L) (ens0 : ns = hd :: (p1 ++ p2)) (hPS : ∀ x ∈ ns, x ∈ PS) (hns : ns.length < 2 ^ 30) (hrow : ∀ r, r < 4 → jr_ok k.2.2.1 u.2.2.1 u.2.2.2 r ns) (hht : k.2.2.1 hd = 4) (hh1 : ∀ x ∈ ns, 1 ≤ k.2.2.1 x) (hA1 : ∀ x ∈ p1, jz_ah (u.1 x) (k.2.1 x) sc wd) (hA2 : ∀ x ∈ p2, ¬ jz_ah (u.1 x) (k.2.1 x) sc wd) :
    jz_M l D ct yX0_countAheadOf cX0_countAheadOf 6 (some .int) ({ frames := 1, cells := 0, slots := 0, locals := 23 } : Room) [.ref o, .long sc, .int wd] L (va_up f0 o (jo_eO hd pa cnt hr ps)) (fun v L' f' => v = some (.int (nI p1.length)) ∧ L' = L ∧ ∃ (hr' : Nat) (ps' : Int32), f' = va_up f0 o (jo_eO hd pa cnt hr' ps')) := by
  refine jx_enter (by decide) (Nat.le_of_ble_eq_true rfl) ?_
  intro p e s m below meth c C hw ls hl
  obtain ⟨hx, hb, hrt, hlk, hnm, hml, hown, hts, hG⟩ := C
  have hl : lv_has ls 6 [(0, .ref o), (1, .long sc), (3, .int wd)] := hl
  refine lv_aload_n hx hb dX0_countAheadOf_0 rfl (lv_at hl 0 rfl) ?_
  refine cl_O_43 (As := []) (rest := []) hx hb hml hown hts hG hw (c_goToHead l D ct hoL (va_up_self _ _ _)) rfl ⟨Nat.le_of_ble_eq_true rfl, Nat.le_of_ble_eq_true rfl⟩ hoL (va_up_self _ _ _) hl.1 rfl (Nat.le_of_ble_eq_true rfl) dX0_countAheadOf_1 ⟨Nat.le_of_ble_eq_true rfl, Nat.le_of_ble_eq_true rfl⟩ (fun v L' f' H1 locs1 hp hw hcf => ?_)
  obtain ⟨rfl, eL, ef⟩ := hp
  rw [eL, ef, bx_uu] at hw
  refine lv_iconst (v := nI 3) hx hb dX0_countAheadOf_4 (by decide) ?_
  refine lv_istore (lv' := [(4, .int (nI 3)), (0, .ref o), (1, .long sc), (3, .int wd)]) hx hb dX0_countAheadOf_5 hl (by decide) rfl (fun ls hl => ?_)
  refine lp_cao hx hb hml hown hts hG ⟨Nat.le_of_ble_eq_true rfl, Nat.le_of_ble_eq_true rfl⟩ ⟨Nat.le_of_ble_eq_true rfl, Nat.le_of_ble_eq_true rfl⟩ hV0 hN hoL ens0 hPS hns hrow hht hh1 hA1 hA2 (fun hr H locs ls hw hl => ?_) 4 [] (p1 ++ p2) hd _ _ ls (Nat.le_refl _) ens0 (by rw [hht]; exact Nat.le_refl _) (Nat.zero_le _) (fun h => by cases h) hw (lv_sub hl [1, 2, 3, 0] rfl)
  refine lv_aload_n hx hb dX0_countAheadOf_83 rfl (lv_at hl 0 rfl) ?_
  refine gf_O_56 hx hb hown hts hG hw hoL (va_up_self _ _ _) dX0_countAheadOf_84 ?_
  exact jx_iret hx hb hrt hlk hw (Nat.le_refl _) (Nat.le_refl _) dX0_countAheadOf_87 ⟨rfl, rfl, hr, _, rfl⟩
