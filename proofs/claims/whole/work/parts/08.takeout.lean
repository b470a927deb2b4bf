section TO
variable {p : Program} {l : Launch} {e : Env} {R : Room} {s : State} {m : MethodId} {args : Array Value} {below : List Frame} {meth : Method} {c : Code} {H : Heap} {locs : List Loc} {cells slots : Nat} {Q : State → Prop} {D : va_G} {ct : Nat → ClassId} {A : Nat → Prop} {H0 : Heap} {L : List Nat}
variable {f0 : Nat → va_E} {k : jK} {u : jS} {PS ns p1 p2 : List Nat} {cnt : Int32} {o hd pa b : Nat}
set_option maxHeartbeats 4000000 in
set_option maxRecDepth 100000 in
theorem lp_takeOut (hx : p.tables.exec = Jvm.exec) (hb : c.code = cX0_takeOut) (hml : c.maxLocals = 4) (hown : s.vm.findClass RO = some m.cls) (hts : ∀ w ∈ jz_TT, w.before args s = true) (hG : jz_G D ct s) (hcs : cells ≤ R.cells ∧ slots ≤ R.slots) (hR : 0 + 1 ≤ R.frames ∧ 8 + (4 + 11) + 0 ≤ R.locals) (hN : jo_N k PS o) (hoL : o ∈ L) (ens0 : ns = hd :: (p1 ++ b :: p2)) (hPS : ∀ x ∈ ns, x ∈ PS) (hns : ns.length < 2 ^ 30) (hbP : b ∈ PS) (hb4 : k.2.2.1 b ≤ 4) (hnd : ns.Nodup)
    (kk : ∀ (f1 : Nat → va_E) (u1 : jS) (hr : Nat) (ps : Int32) (H : Heap) (locs : List Loc) (ls : Array Slot), jo_V (ct 0) (ct 1) L f1 k u1 PS → u1.1 = u.1 → u1.2.1 = u.2.1 → (∀ q, jo_N k PS q → f1 q = f0 q) → (∀ r, r < 4 → 0 ≤ r → jr_ok k.2.2.1 u1.2.2.1 u1.2.2.2 r (hd :: (p1 ++ p2))) → jz_w D A H0 L (va_up f1 o (jo_eO hd pa cnt hr ps)) H locs → lv_has ls 4 [(0, .ref o)] → W p l e R s m args below meth c H locs cells slots Q (F0 m 96 ls [])) :
    ∀ (j : Nat) (f1 : Nat → va_E) (u1 : jS) (pre suf : List Nat) (hr : Nat) (H : Heap) (locs : List Loc) (ls : Array Slot), j ≤ 4 → jo_V (ct 0) (ct 1) L f1 k u1 PS → u1.1 = u.1 → u1.2.1 = u.2.1 → (∀ q, jo_N k PS q → f1 q = f0 q) → (∀ r, r < 4 → j ≤ r → jr_ok k.2.2.1 u1.2.2.1 u1.2.2.2 r (hd :: (p1 ++ p2))) → (∀ r, r < j → jr_ok k.2.2.1 u1.2.2.1 u1.2.2.2 r ns) → ns = pre ++ hr :: suf → j ≤ k.2.2.1 hr → pre.length < p1.length + 1 → jz_w D A H0 L (va_up f1 o (jo_eO hd pa cnt hr (nI pre.length))) H locs → lv_has ls 4 [(0, .ref o), (1, .ref b), (2, .int (nI (p1.length + 1))), (3, .int (jz_row j))] → W p l e R s m args below meth c H locs cells slots Q (F0 m 21 ls []) := by
  intro j
  induction j with
  | zero =>
    intro f1 u1 pre suf hr H locs ls _ hV eS eI hfr hnew hold ens hh hpl hw hl
    refine lv_iload_n hx hb dX0_takeOut_21 rfl (lv_at hl 3 rfl) ?_
    refine lv_if_lt (tgt := 96) hx hb dX0_takeOut_22 (by decide) (fun _ => ?_) (fun h => absurd (by decide) h)
    exact kk f1 u1 hr _ H locs ls hV eS eI hfr hnew hw (lv_sub hl [0] rfl)
  | succ j ih =>
    intro f1 u1 pre suf hr H locs ls hj4 hV eS eI hfr hnew hold ens hh hpl hw hl
    have hr4 : j < 4 := hj4
    have hl : lv_has ls 4 [(0, .ref o), (1, .ref b), (2, .int (nI (p1.length + 1))), (3, .int (nI j))] := hl
    have hlen : ns.length = p1.length + p2.length + 2 := by rw [ens0]; simp; omega
    have hoj := hold j (Nat.lt_succ_self _)
    refine lv_iload_n hx hb dX0_takeOut_21 rfl (lv_at hl 3 rfl) ?_
    refine lv_if_lt (tgt := 96) hx hb dX0_takeOut_22 (by decide) (fun h => absurd h (nI_pos (by omega))) (fun _ => ?_)
    refine lv_aload_n hx hb dX0_takeOut_25 rfl (lv_at hl 0 rfl) ?_
    refine lv_iload_n hx hb dX0_takeOut_26 rfl (lv_at hl 3 rfl) ?_
    refine lv_iload_n hx hb dX0_takeOut_27 rfl (lv_at hl 2 rfl) ?_
    refine cl_O_46 (As := [.int (nI j), .int (nI (p1.length + 1))]) (rest := []) hx hb hml hown hts hG hw (c_goAheadOf l D ct hV hN hoL hr4 hPS hns (by omega) hoj ens hh hpl) rfl hR hoL (va_up_self _ _ _) hl.1 rfl (Nat.le_of_ble_eq_true rfl) dX0_takeOut_28 hcs (fun v L' f' H1 locs1 hp hw hcf => ?_)
    obtain ⟨rfl, eL, pre, suf, hr, ens, ef, hh, hpl, hdst⟩ := hp
    rw [eL, ef] at hw
    obtain ⟨s1, ep1, es, hsl, hlow⟩ := jz_cut (n := 0) (ens0.symm.trans ens) hpl hdst
    have hhr : hr ∈ PS := hPS _ (by rw [ens]; simp)
    have ens1 : ns = pre ++ hr :: (s1 ++ b :: p2) := by rw [ens, es]
    have hoj : jr_ok k.2.2.1 u1.2.2.1 u1.2.2.2 j (pre ++ hr :: (s1 ++ b :: p2)) := ens1 ▸ hoj
    have hnd1 := hnd
    rw [ens1] at hnd1
    have hpa : ∀ x ∈ pre, x ≠ hr := fun x hx q => (List.nodup_append.mp hnd1).2.2 x hx hr List.mem_cons_self q
    have hpb : ∀ x ∈ p2, x ≠ hr := fun x hx q => (List.nodup_cons.mp (List.nodup_append.mp hnd1).2.1).1 (by rw [← q]; simp [hx])
    have enew : hd :: (p1 ++ p2) = pre ++ hr :: (s1 ++ p2) := by rw [← List.cons_append, ep1]; simp
    refine lv_iload_n hx hb dX0_takeOut_31 rfl (lv_at hl 3 rfl) ?_
    refine lv_aload_n hx hb dX0_takeOut_32 rfl (lv_at hl 1 rfl) ?_
    refine gf_O_84 hx hb hown hts hG hw ((hV.up (e := jo_eO hd pa cnt hr (nI pre.length)) hN).aL hbP) ((hV.up (e := jo_eO hd pa cnt hr (nI pre.length)) hN).a hbP) dX0_takeOut_33 ?_
    refine lv_icmp_ge (tgt := 77) hx hb dX0_takeOut_36 (by decide) (fun hc => ?_) (fun hc => ?_)
    · have hjb : ¬ j < k.2.2.1 b := fun q => absurd (nI_lt q (by omega)) (Int32.not_lt.mpr hc)
      refine lv_aload_n hx hb dX0_takeOut_77 rfl (lv_at hl 0 rfl) ?_
      refine gf_O_24 hx hb hown hts hG hw hoL (va_up_self _ _ _) dX0_takeOut_78 ?_
      refine gf_O_59 hx hb hown hts hG hw ((hV.up (e := jo_eO hd pa cnt hr (nI pre.length)) hN).aL hhr) ((hV.up (e := jo_eO hd pa cnt hr (nI pre.length)) hN).a hhr) dX0_takeOut_81 ?_
      refine lv_iload_n hx hb dX0_takeOut_84 rfl (lv_at hl 3 rfl) ?_
      refine lv_dup2_11 hx hb dX0_takeOut_85 rfl rfl ?_
      refine jx_ialdI hx hb hG hw ((hV.up (e := jo_eO hd pa cnt hr (nI pre.length)) hN).fL hhr) 0 ((hV.up (e := jo_eO hd pa cnt hr (nI pre.length)) hN).r hhr) rfl hr4 (by decide) dX0_takeOut_86 ?_
      refine lv_iconst (v := 1) hx hb dX0_takeOut_87 (by decide) ?_
      refine lv_isub hx hb dX0_takeOut_88 ?_
      refine jx_iastI hx hb hG hw ((hV.up (e := jo_eO hd pa cnt hr (nI pre.length)) hN).fL hhr) 0 ((hV.up (e := jo_eO hd pa cnt hr (nI pre.length)) hN).r hhr) rfl hr4 (by decide) dX0_takeOut_89 (fun H locs hw => ?_)
      rw [jz_comm (hN hr hhr).2.2.symm] at hw
      have hfr : ∀ q, jo_N k PS q → va_up f1 (k.2.2.2.2 hr) (jo_eF (ct 0) (upd (u1.2.2.2 hr) j (u1.2.2.2 hr j - 1))) q = f0 q := fun q hq => by rw [va_up_ne _ _ (hq hr hhr).2.2]; exact hfr q hq
      have hsame : ∀ x r, ¬ r = j → u1.2.2.1 x r = u1.2.2.1 x r ∧ va_up u1.2.2.2 hr (upd (u1.2.2.2 hr) j (u1.2.2.2 hr j - 1)) x r = u1.2.2.2 x r := fun x r hne => ⟨rfl, by
        by_cases q : x = hr
        · rw [q, va_up_self, pk_un hne]
        · rw [va_up_ne _ _ q]⟩
      have hV := hV.putF hhr (upd (u1.2.2.2 hr) j (u1.2.2.2 hr j - 1))
      refine lv_iinc (v := jz_row j) (lv' := [(3, .int (jz_row j)), (0, .ref o), (1, .ref b), (2, .int (nI (p1.length + 1)))]) hx hb dX0_takeOut_90 hl (k := 3) rfl (jz_row_pred j) (by decide) rfl (fun ls hl => ?_)
      refine lv_goto (tgt := 21) hx hb dX0_takeOut_93 (by decide) ?_
      refine ih _ (u1.1, u1.2.1, u1.2.2.1, va_up u1.2.2.2 hr (upd (u1.2.2.2 hr) j (u1.2.2.2 hr j - 1))) pre (s1 ++ b :: p2) hr _ _ ls (by omega) hV eS eI hfr (fun r hr4 hjr => ?_) (fun r hjr => ?_) ens1 (by omega) hpl hw (lv_sub hl [1, 2, 3, 0] rfl)
      · rcases Nat.eq_or_lt_of_le hjr with q | q
        · subst q
          rw [enew]
          exact jz_delRow0 hoj hh hjb hlow hpa hpb rfl
        · exact jr_ok_congr (hnew r hr4 q) (fun x _ _ => hsame x r (fun z => absurd q (by omega)))
      · exact jr_ok_congr (hold r (by omega)) (fun x _ _ => hsame x r (fun z => absurd hjr (by omega)))
    · have hjb : j < k.2.2.1 b := by
        rcases Nat.lt_or_ge j (k.2.2.1 b) with q | q
        · exact q
        · exact absurd (nI_le q (by omega)) hc
      have hoj3 : jr_ok k.2.2.1 u1.2.2.1 u1.2.2.2 j ((pre ++ hr :: s1) ++ b :: p2) := by rw [show (pre ++ hr :: s1) ++ b :: p2 = pre ++ hr :: (s1 ++ b :: p2) by simp]; exact hoj
      obtain ⟨g0, g1⟩ := jr_ok_at hoj3 hjb
      refine lv_aload_n hx hb dX0_takeOut_39 rfl (lv_at hl 0 rfl) ?_
      refine gf_O_24 hx hb hown hts hG hw hoL (va_up_self _ _ _) dX0_takeOut_40 ?_
      refine gf_O_49 hx hb hown hts hG hw ((hV.up (e := jo_eO hd pa cnt hr (nI pre.length)) hN).aL hhr) ((hV.up (e := jo_eO hd pa cnt hr (nI pre.length)) hN).a hhr) dX0_takeOut_43 ?_
      refine lv_iload_n hx hb dX0_takeOut_46 rfl (lv_at hl 3 rfl) ?_
      refine lv_aload_n hx hb dX0_takeOut_47 rfl (lv_at hl 1 rfl) ?_
      refine gf_O_49 hx hb hown hts hG hw ((hV.up (e := jo_eO hd pa cnt hr (nI pre.length)) hN).aL hbP) ((hV.up (e := jo_eO hd pa cnt hr (nI pre.length)) hN).a hbP) dX0_takeOut_48 ?_
      refine lv_iload_n hx hb dX0_takeOut_51 rfl (lv_at hl 3 rfl) ?_
      refine jx_aldqI hx hb hG hw ((hV.up (e := jo_eO hd pa cnt hr (nI pre.length)) hN).nL hbP) 1 ((hV.up (e := jo_eO hd pa cnt hr (nI pre.length)) hN).n hbP) rfl hr4 (by decide) dX0_takeOut_52 ?_
      refine jx_astqI hx hb hG hw ((hV.up (e := jo_eO hd pa cnt hr (nI pre.length)) hN).nL hhr) 1 2 ((hV.up (e := jo_eO hd pa cnt hr (nI pre.length)) hN).n hhr) rfl (fun x hx0 => ?_) rfl hr4 (by decide) dX0_takeOut_53 (fun H locs hw => ?_)
      · obtain ⟨mid, suf3, e3, -⟩ := jr_split (g0.symm.trans hx0)
        have hxP : x ∈ PS := hPS x (by rw [ens1, e3]; simp)
        exact ⟨(hV.up (e := jo_eO hd pa cnt hr (nI pre.length)) hN).aL hxP, _, (hV.up (e := jo_eO hd pa cnt hr (nI pre.length)) hN).a hxP⟩
      rw [jz_comm (hN hr hhr).2.1.symm] at hw
      have hV2 := hV.putX hhr (va_up (u1.2.2.1 hr) j (u1.2.2.1 b j))
      obtain ⟨f2, hf2⟩ : ∃ f2, f2 = va_up f1 (k.2.2.2.1 hr) (jo_eN (ct 1) (va_up (u1.2.2.1 hr) j (u1.2.2.1 b j))) := ⟨_, rfl⟩
      rw [← hf2] at hw hV2
      refine lv_aload_n hx hb dX0_takeOut_54 rfl (lv_at hl 0 rfl) ?_
      refine gf_O_24 hx hb hown hts hG hw hoL (va_up_self _ _ _) dX0_takeOut_55 ?_
      refine gf_O_59 hx hb hown hts hG hw ((hV2.up (e := jo_eO hd pa cnt hr (nI pre.length)) hN).aL hhr) ((hV2.up (e := jo_eO hd pa cnt hr (nI pre.length)) hN).a hhr) dX0_takeOut_58 ?_
      refine lv_iload_n hx hb dX0_takeOut_61 rfl (lv_at hl 3 rfl) ?_
      refine lv_dup2_11 hx hb dX0_takeOut_62 rfl rfl ?_
      refine jx_ialdI hx hb hG hw ((hV2.up (e := jo_eO hd pa cnt hr (nI pre.length)) hN).fL hhr) 0 ((hV2.up (e := jo_eO hd pa cnt hr (nI pre.length)) hN).r hhr) rfl hr4 (by decide) dX0_takeOut_63 ?_
      refine lv_aload_n hx hb dX0_takeOut_64 rfl (lv_at hl 1 rfl) ?_
      refine gf_O_59 hx hb hown hts hG hw ((hV2.up (e := jo_eO hd pa cnt hr (nI pre.length)) hN).aL hbP) ((hV2.up (e := jo_eO hd pa cnt hr (nI pre.length)) hN).a hbP) dX0_takeOut_65 ?_
      refine lv_iload_n hx hb dX0_takeOut_68 rfl (lv_at hl 3 rfl) ?_
      refine jx_ialdI hx hb hG hw ((hV2.up (e := jo_eO hd pa cnt hr (nI pre.length)) hN).fL hbP) 0 ((hV2.up (e := jo_eO hd pa cnt hr (nI pre.length)) hN).r hbP) rfl hr4 (by decide) dX0_takeOut_69 ?_
      refine lv_iconst (v := 1) hx hb dX0_takeOut_70 (by decide) ?_
      refine lv_isub hx hb dX0_takeOut_71 ?_
      refine lv_iadd hx hb dX0_takeOut_72 ?_
      refine lv_topi (fun x1 ex1 => ?_)
      have ex1 : x1 = u1.2.2.2 hr j + (u1.2.2.2 b j - 1) := ex1
      refine jx_iastI hx hb hG hw ((hV2.up (e := jo_eO hd pa cnt hr (nI pre.length)) hN).fL hhr) 0 ((hV2.up (e := jo_eO hd pa cnt hr (nI pre.length)) hN).r hhr) rfl hr4 (by decide) dX0_takeOut_73 (fun H locs hw => ?_)
      rw [jz_comm (hN hr hhr).2.2.symm] at hw
      have hV3 := hV2.putF hhr (upd (u1.2.2.2 hr) j x1)
      obtain ⟨f3, hf3⟩ : ∃ f3, f3 = va_up f2 (k.2.2.2.2 hr) (jo_eF (ct 0) (upd (u1.2.2.2 hr) j x1)) := ⟨_, rfl⟩
      rw [← hf3] at hw hV3
      have hfr : ∀ q, jo_N k PS q → f3 q = f0 q := fun q hq => by rw [hf3, va_up_ne _ _ (hq hr hhr).2.2, hf2, va_up_ne _ _ (hq hr hhr).2.1]; exact hfr q hq
      have hsame : ∀ x r, ¬ r = j → (va_up u1.2.2.1 hr (va_up (u1.2.2.1 hr) j (u1.2.2.1 b j))) x r = u1.2.2.1 x r ∧ (va_up u1.2.2.2 hr (upd (u1.2.2.2 hr) j x1)) x r = u1.2.2.2 x r := fun x r hne => by
        by_cases q : x = hr
        · rw [q, va_up_self, va_up_self, va_up_ne _ _ hne, pk_un hne]
          exact ⟨rfl, rfl⟩
        · rw [va_up_ne _ _ q, va_up_ne _ _ q]
          exact ⟨rfl, rfl⟩
      have hV := hV3
      refine lv_goto (tgt := 90) hx hb dX0_takeOut_74 (by decide) ?_
      refine lv_iinc (v := jz_row j) (lv' := [(3, .int (jz_row j)), (0, .ref o), (1, .ref b), (2, .int (nI (p1.length + 1)))]) hx hb dX0_takeOut_90 hl (k := 3) rfl (jz_row_pred j) (by decide) rfl (fun ls hl => ?_)
      refine lv_goto (tgt := 21) hx hb dX0_takeOut_93 (by decide) ?_
      refine ih _ (u1.1, u1.2.1, (va_up u1.2.2.1 hr (va_up (u1.2.2.1 hr) j (u1.2.2.1 b j))), (va_up u1.2.2.2 hr (upd (u1.2.2.2 hr) j x1))) pre (s1 ++ b :: p2) hr _ _ ls (by omega) hV eS eI hfr (fun r hr4 hjr => ?_) (fun r hjr => ?_) ens1 (by omega) hpl hw (lv_sub hl [1, 2, 3, 0] rfl)
      · rcases Nat.eq_or_lt_of_le hjr with q | q
        · subst q
          rw [enew]
          exact jz_delRow hoj hh hjb hlow hpa hpb ex1
        · exact jr_ok_congr (hnew r hr4 q) (fun x _ _ => hsame x r (fun z => absurd q (by omega)))
      · exact jr_ok_congr (hold r (by omega)) (fun x _ _ => hsame x r (fun z => absurd hjr (by omega)))
end TO
set_option maxHeartbeats 4000000 in
set_option maxRecDepth 100000 in
theorem c_takeOut (l : Launch) (D : va_G) (ct : Nat → ClassId) {L : List Nat} {f0 : Nat → va_E} {k : jK} {u : jS} {PS ns p1 p2 : List Nat} {cnt ps : Int32} {o hd pa hr b : Nat} (hV0 : jo_V (ct 0) (ct 1) L f0 k u PS) (hN : jo_N k PS o) (hoL : o ∈ L) (ens0 : ns = hd :: (p1 ++ b :: p2)) (hPS : ∀ x ∈ ns, x ∈ PS) (hns : ns.length < 2 ^ 30) (hrow : ∀ r, r < 4 → jr_ok k.2.2.1 u.2.2.1 u.2.2.2 r ns) (hht : k.2.2.1 hd = 4) (hh1 : ∀ x ∈ ns, 1 ≤ k.2.2.1 x) (hA1 : ∀ x ∈ p1, jz_ah (u.1 x) (k.2.1 x) (u.1 b) (k.2.1 b)) (hA2 : ∀ x ∈ b :: p2, ¬ jz_ah (u.1 x) (k.2.1 x) (u.1 b) (k.2.1 b)) (hbP : b ∈ PS) (hb4 : k.2.2.1 b ≤ 4) (hnd : ns.Nodup) :
    jz_M l D ct yX0_takeOut cX0_takeOut 4 none ({ frames := 2, cells := 0, slots := 0, locals := 48 } : Room) [.ref o, .ref b] L (va_up f0 o (jo_eO hd pa cnt hr ps)) (fun v L' f' => v = none ∧ L' = L ∧ ∃ (f1 : Nat → va_E) (u1 : jS) (hr' : Nat) (ps' : Int32), f' = va_up f1 o (jo_eO hd pa (cnt - 1) hr' ps') ∧ jo_V (ct 0) (ct 1) L f1 k u1 PS ∧ u1.1 = u.1 ∧ u1.2.1 = u.2.1 ∧ (∀ q, jo_N k PS q → f1 q = f0 q) ∧ ∀ r, r < 4 → jr_ok k.2.2.1 u1.2.2.1 u1.2.2.2 r (hd :: (p1 ++ p2))) := by
  refine jx_enter (by decide) (Nat.le_of_ble_eq_true rfl) ?_
  intro p e s m below meth c C hw ls hl
  obtain ⟨hx, hb, hrt, hlk, hnm, hml, hown, hts, hG⟩ := C
  have hl : lv_has ls 4 [(0, .ref o), (1, .ref b)] := hl
  refine lv_aload_n hx hb dX0_takeOut_0 rfl (lv_at hl 0 rfl) ?_
  refine lv_aload_n hx hb dX0_takeOut_1 rfl (lv_at hl 1 rfl) ?_
  refine gf_O_67 hx hb hown hts hG hw ((hV0.up (e := jo_eO hd pa cnt hr ps) hN).aL hbP) ((hV0.up (e := jo_eO hd pa cnt hr ps) hN).a hbP) dX0_takeOut_2 ?_
  refine lv_aload_n hx hb dX0_takeOut_5 rfl (lv_at hl 1 rfl) ?_
  refine gf_O_77 hx hb hown hts hG hw ((hV0.up (e := jo_eO hd pa cnt hr ps) hN).aL hbP) ((hV0.up (e := jo_eO hd pa cnt hr ps) hN).a hbP) dX0_takeOut_6 ?_
  refine cl_O_80 (As := [.long (u.1 b), .int (k.2.1 b)]) (rest := []) hx hb hml hown hts hG hw (c_countAheadOf l D ct hV0 hN hoL ens0 hPS hns hrow hht hh1 hA1 hA2) rfl ⟨Nat.le_of_ble_eq_true rfl, Nat.le_of_ble_eq_true rfl⟩ hoL (va_up_self _ _ _) hl.1 rfl (Nat.le_of_ble_eq_true rfl) dX0_takeOut_9 ⟨Nat.le_of_ble_eq_true rfl, Nat.le_of_ble_eq_true rfl⟩ (fun v L' f' H1 locs1 hp hw hcf => ?_)
  obtain ⟨rfl, eL, hr, ps, ef⟩ := hp
  rw [eL, ef] at hw
  refine lv_iconst (v := nI 1) hx hb dX0_takeOut_12 (by decide) ?_
  refine lv_iadd hx hb dX0_takeOut_13 ?_
  rw [nI_add]
  refine lv_istore_n (lv' := [(2, .int (nI (p1.length + 1))), (0, .ref o), (1, .ref b)]) hx hb dX0_takeOut_14 rfl hl (by decide) rfl (fun ls hl => ?_)
  refine lv_aload_n hx hb dX0_takeOut_15 rfl (lv_at hl 1 rfl) ?_
  refine cl_O_43 (As := []) (rest := []) hx hb hml hown hts hG hw (c_goToHead l D ct hoL (va_up_self _ _ _)) rfl ⟨Nat.le_of_ble_eq_true rfl, Nat.le_of_ble_eq_true rfl⟩ hoL (va_up_self _ _ _) hl.1 rfl (Nat.le_of_ble_eq_true rfl) dX0_takeOut_16 ⟨Nat.le_of_ble_eq_true rfl, Nat.le_of_ble_eq_true rfl⟩ (fun v L' f' H1 locs1 hp hw hcf => ?_)
  obtain ⟨rfl, eL, ef⟩ := hp
  rw [eL, ef, bx_uu] at hw
  refine lv_iconst (v := nI 3) hx hb dX0_takeOut_19 (by decide) ?_
  refine lv_istore_n (lv' := [(3, .int (nI 3)), (2, .int (nI (p1.length + 1))), (0, .ref o), (1, .ref b)]) hx hb dX0_takeOut_20 rfl hl (by decide) rfl (fun ls hl => ?_)
  refine lp_takeOut (f0 := f0) (u := u) hx hb hml hown hts hG ⟨Nat.le_of_ble_eq_true rfl, Nat.le_of_ble_eq_true rfl⟩ ⟨Nat.le_of_ble_eq_true rfl, Nat.le_of_ble_eq_true rfl⟩ hN hoL ens0 hPS hns hbP hb4 hnd (fun f1 u1 hr ps H locs ls hV eS eI hfr hnew hw hl => ?_) 4 f0 u [] (p1 ++ b :: p2) hd _ _ ls (Nat.le_refl _) hV0 rfl rfl (fun _ _ => rfl) (fun r h1 h2 => absurd h1 (Nat.not_lt.mpr h2)) (fun r h => hrow r h) ens0 (by rw [hht]; exact Nat.le_refl _) (Nat.succ_pos _) hw (lv_sub hl [2, 3, 1, 0] rfl)
  refine lv_aload_n hx hb dX0_takeOut_96 rfl (lv_at hl 0 rfl) ?_
  refine lv_dup hx hb dX0_takeOut_97 rfl ?_
  refine gf_O_39 hx hb hown hts hG hw hoL (va_up_self _ _ _) dX0_takeOut_98 ?_
  refine lv_iconst (v := 1) hx hb dX0_takeOut_101 (by decide) ?_
  refine lv_isub hx hb dX0_takeOut_102 ?_
  refine pf_O_39 hx hb hown hts hG hw hoL (va_up_self _ _ _) dX0_takeOut_103 (fun H locs hw => ?_)
  rw [bx_uu] at hw
  exact jx_vret hx hb hrt hlk hw (Nat.le_refl _) (Nat.le_refl _) dX0_takeOut_106 ⟨rfl, rfl, f1, u1, hr, ps, rfl, hV, eS, eI, hfr, fun r h => hnew r h (Nat.zero_le _)⟩
