section WK
variable {p : Program} {l : Launch} {e : Env} {R : Room} {s : State} {m : MethodId} {args : Array Value} {below : List Frame} {meth : Method} {c : Code} {H : Heap} {locs : List Loc} {cells slots : Nat} {Q : State → Prop} {D : va_G} {ct : Nat → ClassId} {A : Nat → Prop} {H0 : Heap} {L : List Nat}
variable {f : Nat → va_E} {k : jK} {u : jS} {PS : List Nat}
set_option maxHeartbeats 4000000 in
set_option maxRecDepth 100000 in
theorem lp_walk (hx : p.tables.exec = Jvm.exec) (hb : c.code = cX2_walk) (hown : s.vm.findClass RX2 = some m.cls) (hts : ∀ w ∈ jz_TT, w.before args s = true) (hG : jz_G D ct s) (hw : jz_w D A H0 L f H locs) (hV : jo_V (ct 0) (ct 1) L f k u PS) {nn : Nat} (hnn : nn ≤ 1000) {res : Int32}
    (kk : ∀ ls : Array Slot, lv_has ls 8 [(5, .int res)] → W p l e R s m args below meth c H locs cells slots Q (F0 m 83 ls [])) :
    ∀ (mm : Nat) (rs : List Nat) (t : Nat) (sm : Int32) (ls : Array Slot), t + mm = nn → jr_ok k.2.2.1 u.2.2.1 u.2.2.2 0 rs → (∀ y ∈ rs, y ∈ PS ∧ 1 ≤ k.2.2.1 y ∧ k.1 y = nI (k.1 y).toNatClampNeg) → jq_sum sm ((rs.map (fun a => ((k.1 a).toNatClampNeg, u.1 a))).take mm) = res → lv_has ls 8 [(3, .int (nI nn)), (5, .int sm), (6, (va_rf (jr_fst k.2.2.1 0 rs))), (7, .int (nI t))] → W p l e R s m args below meth c H locs cells slots Q (F0 m 44 ls []) := by
  intro mm
  induction mm with
  | zero =>
    intro rs t sm ls ht hro hrs hres hl
    have ht : t = nn := by omega
    subst ht
    refine lv_iload hx hb dX2_walk_44 (lv_at hl 3 rfl) ?_
    refine lv_iload_n hx hb dX2_walk_46 rfl (lv_at hl 0 rfl) ?_
    refine lv_icmp_ge (tgt := 83) hx hb dX2_walk_47 (by decide) (fun _ => ?_) (fun h => absurd (Int32.le_refl _) h)
    have hres : sm = res := by rw [List.take_zero] at hres; exact hres
    subst hres
    exact kk ls (lv_sub hl [1] rfl)
  | succ mm ih =>
    intro rs t sm ls ht hro hrs hres hl
    refine lv_iload hx hb dX2_walk_44 (lv_at hl 3 rfl) ?_
    refine lv_iload_n hx hb dX2_walk_46 rfl (lv_at hl 0 rfl) ?_
    refine lv_icmp_ge (tgt := 83) hx hb dX2_walk_47 (by decide) (fun h => absurd (nI_lt (show t < nn by omega) (by omega)) (Int32.not_lt.mpr h)) (fun _ => ?_)
    cases rs with
    | nil =>
      have hl : lv_has ls 8 [(3, .int (nI nn)), (5, .int sm), (6, .null), (7, .int (nI t))] := hl
      refine lv_aloadN hx hb dX2_walk_50 (lv_at hl 2 rfl) ?_
      refine lv_ifnullN (tgt := 83) hx hb dX2_walk_52 (by decide) ?_
      have hres : sm = res := by rw [List.map_nil, List.take_nil] at hres; exact hres
      subst hres
      exact kk ls (lv_sub hl [1] rfl)
    | cons b rt =>
      obtain ⟨hbP, hb1, hbm⟩ := hrs b List.mem_cons_self
      have hl : lv_has ls 8 [(3, .int (nI nn)), (5, .int sm), (6, .ref b), (7, .int (nI t))] := by rw [jr_fst_at hb1] at hl; exact hl
      refine lv_aload hx hb dX2_walk_50 (lv_at hl 2 rfl) ?_
      refine lv_ifnull hx hb dX2_walk_52 ?_
      refine lv_bipush (v := 31) hx hb dX2_walk_55 (by decide) ?_
      refine lv_iload hx hb dX2_walk_57 (lv_at hl 1 rfl) ?_
      refine lv_imul hx hb dX2_walk_59 ?_
      refine lv_aload hx hb dX2_walk_60 (lv_at hl 2 rfl) ?_
      refine gf_X_65 hx hb hown hts hG hw (hV.aL hbP) (hV.a hbP) dX2_walk_62 ?_
      refine lv_iadd hx hb dX2_walk_65 ?_
      refine lv_istore (lv' := [(5, .int ((31 * sm) + (k.1 b))), (3, .int (nI nn)), (6, .ref b), (7, .int (nI t))]) hx hb dX2_walk_66 hl (by decide) rfl (fun ls hl => ?_)
      refine lv_aload hx hb dX2_walk_68 (lv_at hl 2 rfl) ?_
      refine gf_X_72 hx hb hown hts hG hw (hV.aL hbP) (hV.a hbP) dX2_walk_70 ?_
      refine lv_iconst (v := nI 0) hx hb dX2_walk_73 (by decide) ?_
      refine jx_aldqI hx hb hG hw (hV.nL hbP) 1 (hV.n hbP) rfl (by decide) (by decide) dX2_walk_74 ?_
      rw [(hro.1 hb1).1]
      refine jx_astoreq (lv' := [(6, (va_rf (jr_fst k.2.2.1 0 rt))), (5, .int ((31 * sm) + (k.1 b))), (3, .int (nI nn)), (7, .int (nI t))]) hx hb dX2_walk_75 hl (by decide) rfl (fun ls hl => ?_)
      refine lv_iinc (v := nI (t + 1)) (lv' := [(7, .int (nI (t + 1))), (6, (va_rf (jr_fst k.2.2.1 0 rt))), (5, .int ((31 * sm) + (k.1 b))), (3, .int (nI nn))]) hx hb dX2_walk_77 hl (k := 3) rfl (nI_succ t).symm (by decide) (by cases jr_fst k.2.2.1 0 rt <;> rfl) (fun ls hl => ?_)
      refine lv_goto (tgt := 44) hx hb dX2_walk_80 (by decide) ?_
      refine ih rt (t + 1) (31 * sm + k.1 b) ls (by omega) hro.2 (fun y hy => hrs y (List.mem_cons_of_mem _ hy)) ?_ (lv_sub hl [3, 2, 1, 0] rfl)
      rw [← hres, List.map_cons, List.take_succ_cons, jq_sum, ← hbm]
end WK
set_option maxHeartbeats 4000000 in
set_option maxRecDepth 100000 in
theorem c_X_walk (l : Launch) (D : va_G) (ct : Nat → ClassId) {N : Nat} {L : List Nat} {f : Nat → va_E} {x : Nat} {As : jq_S} (hX : jX N ct x L f As) (hNb : N < 2 ^ 29) {ov fv nv : Int32} :
    jz_M l D ct yX2_walk cX2_walk 8 (some .int) ({ frames := 2, cells := 0, slots := 0, locals := 45 } : Room) [.ref x, .int ov, .int fv, .int nv] L f (fun v L' f' => v = some (.int (sp_walk As ov fv nv)) ∧ jX N ct x L' f' As) := by
  by_cases ho : jq_o ov
  · obtain ⟨i, hi, ei, hcl0⟩ := jq_oN ho
    subst ei
    refine jx_enter (by decide) (Nat.le_of_ble_eq_true rfl) ?_
    intro p e s m below meth c C hw ls hl
    obtain ⟨hx, hb, hrt, hlk, hnm, hml, hown, hts, hG⟩ := C
    have hl : lv_has ls 8 [(0, .ref x), (1, .int (nI i)), (2, .int fv), (3, .int nv)] := hl
    obtain ⟨oa, g, o, hd, pa, hr, ps, k, u, PS, qs, S, hxL, haL, hfx, hfa, hgi, hSt, hcl⟩ := hX.opn hi
    refine lv_aload_n hx hb dX2_walk_0 rfl (lv_at hl 0 rfl) ?_
    refine lv_iload_n hx hb dX2_walk_1 rfl (lv_at hl 1 rfl) ?_
    refine cl_X_18 (As := [.int (nI i)]) (rest := []) hx hb hml hown hts hG hw (c_orderOf l D ct hxL haL hfx hfa) rfl ⟨Nat.le_of_ble_eq_true rfl, Nat.le_of_ble_eq_true rfl⟩ hxL hfx hl.1 rfl (Nat.le_of_ble_eq_true rfl) dX2_walk_2 ⟨Nat.le_of_ble_eq_true rfl, Nat.le_of_ble_eq_true rfl⟩ (fun v L' f' H1 locs1 hp hw hcf => ?_)
    obtain ⟨hv, eL, ef⟩ := hp
    rw [eL, ef] at hw
    have hv : v = some (.ref o) := by
      rcases hv with ⟨i2, hi2, e2, e3⟩ | ⟨q, -⟩
      · have e4 : i = i2 := (nI_eq (by omega) (by omega)).mp e2
        rw [e3, ← e4, hgi]
        rfl
      · exact absurd (jq_oI hi).1 q
    subst hv
    obtain ⟨hoL, hpL, hfo, hfp, hV, hOk⟩ := id hSt
    refine lv_astore (lv' := [(4, .ref o), (0, .ref x), (1, .int (nI i)), (2, .int fv), (3, .int nv)]) hx hb dX2_walk_5 hl (by decide) rfl (fun ls hl => ?_)
    refine lv_aload hx hb dX2_walk_7 (lv_at hl 0 rfl) ?_
    refine lv_ifnull hx hb dX2_walk_9 ?_
    refine lv_iload_n hx hb dX2_walk_12 rfl (lv_at hl 3 rfl) ?_
    refine lv_if_lt (tgt := 27) hx hb dX2_walk_13 (by decide) (fun h1 => ?_) (fun h1 => ?_)
    · refine lv_iconst (v := (-1)) hx hb dX2_walk_27 (by decide) ?_
      exact jx_iret hx hb hrt hlk hw (Nat.le_of_ble_eq_true rfl) (Nat.le_of_ble_eq_true rfl) dX2_walk_28 ⟨by rw [sp_walk, if_neg (fun q => q.2.1 h1)], hX⟩
    · refine lv_iload_n hx hb dX2_walk_16 rfl (lv_at hl 4 rfl) ?_
      refine lv_if_lt (tgt := 27) hx hb dX2_walk_17 (by decide) (fun h2 => ?_) (fun h2 => ?_)
      · refine lv_iconst (v := (-1)) hx hb dX2_walk_27 (by decide) ?_
        exact jx_iret hx hb hrt hlk hw (Nat.le_of_ble_eq_true rfl) (Nat.le_of_ble_eq_true rfl) dX2_walk_28 ⟨by rw [sp_walk, if_neg (fun q => q.2.2.1 h2)], hX⟩
      · refine lv_iload_n hx hb dX2_walk_20 rfl (lv_at hl 4 rfl) ?_
        refine lv_sipush (v := nI 1000) hx hb dX2_walk_21 (by decide) ?_
        refine lv_icmp_le (tgt := 29) hx hb dX2_walk_24 (by decide) (fun h3 => ?_) (fun h3 => ?_)
        · obtain ⟨nn, hn31, rfl⟩ := nI_of h2
          have hnn : nn ≤ 1000 := (nI_leI hn31 (by decide)).mp h3
          have esp : sp_walk As (nI i) fv (nI nn) = jq_sum 7 (((As i).drop fv.toNatClampNeg).take nn) := by rw [sp_walk, if_pos ⟨(jq_oI hi).1, h1, h2, h3⟩, (jq_oI hi).2, nI_clamp hn31]
          refine lv_bipush (v := 7) hx hb dX2_walk_29 (by decide) ?_
          refine lv_istore (lv' := [(5, .int 7), (4, .ref o), (0, .ref x), (1, .int (nI i)), (2, .int fv), (3, .int (nI nn))]) hx hb dX2_walk_31 hl (by decide) rfl (fun ls hl => ?_)
          refine lv_aload hx hb dX2_walk_33 (lv_at hl 1 rfl) ?_
          refine lv_iload_n hx hb dX2_walk_35 rfl (lv_at hl 4 rfl) ?_
          have hN : jo_N k PS o := hV.nO (by decide) hfo
          have ef0 : va_up f o (jo_eO hd pa (nI qs.length) hr ps) = f := jz_self hfo
          have hlenN := hOk.len
          rw [← ef0] at hw
          refine cl_X_62 (As := [.int fv]) (rest := []) hx hb hml hown hts hG hw (c_placeOfRank l D ct (f0 := f) (ns := hd :: qs) hV hN hoL hOk.sub (by simp only [List.length_cons]; omega) hOk.rows hOk.h1 rfl hOk.1.2) rfl ⟨Nat.le_of_ble_eq_true rfl, Nat.le_of_ble_eq_true rfl⟩ hoL (va_up_self _ _ _) hl.1 rfl (Nat.le_of_ble_eq_true rfl) dX2_walk_36 ⟨Nat.le_of_ble_eq_true rfl, Nat.le_of_ble_eq_true rfl⟩ (fun v L' f' H1 locs1 hp hw hcf => ?_)
          obtain ⟨eL, ⟨hr', ps', ef⟩, hv⟩ := hp
          rw [eL, ef, ef0] at hw
          have hX' := hcl N L _ (As i) (Nat.le_refl _) (hSt.same hr' ps')
          rw [jq_upSelf] at hX'
          have hVo := hV.up (e := jo_eO hd pa (nI qs.length) hr' ps') hN
          have hv2 : v = some (va_rf (jr_fst k.2.2.1 0 (qs.drop fv.toNatClampNeg))) := by
            rcases hv with ⟨t, a, e1, hqt, e2⟩ | ⟨hout, e2⟩
            · have htl : t < qs.length := (List.getElem?_eq_some_iff.mp hqt).1
              have ha1 : 0 < k.2.2.1 a := hOk.h1 a (List.mem_cons_of_mem _ (List.mem_of_getElem? hqt))
              rw [e2, e1, nI_clamp (by omega), List.drop_eq_getElem_cons htl, (List.getElem?_eq_some_iff.mp hqt).2, jr_fst_at ha1]
              rfl
            · have hge : qs.length ≤ fv.toNatClampNeg := by
                obtain ⟨t, h31, e1⟩ := nI_of h1
                rw [e1] at hout ⊢
                rw [nI_clamp h31]
                rcases hout with z | z
                · exact absurd z (nI_pos h31)
                · exact (nI_leI (by omega) h31).mp z
              rw [e2, List.drop_eq_nil_of_le hge]
              rfl
          subst hv2
          refine jx_astoreq (lv' := [(6, (va_rf (jr_fst k.2.2.1 0 (qs.drop fv.toNatClampNeg)))), (5, .int 7), (4, .ref o), (0, .ref x), (1, .int (nI i)), (2, .int fv), (3, .int (nI nn))]) hx hb dX2_walk_39 hl (by decide) rfl (fun ls hl => ?_)
          refine lv_iconst (v := nI 0) hx hb dX2_walk_41 (by decide) ?_
          refine lv_istore (lv' := [(7, .int (nI 0)), (6, (va_rf (jr_fst k.2.2.1 0 (qs.drop fv.toNatClampNeg)))), (5, .int 7), (4, .ref o), (0, .ref x), (1, .int (nI i)), (2, .int fv), (3, .int (nI nn))]) hx hb dX2_walk_42 hl (by decide) (by cases jr_fst k.2.2.1 0 (qs.drop fv.toNatClampNeg) <;> rfl) (fun ls hl => ?_)
          refine lp_walk (res := sp_walk As (nI i) fv (nI nn)) hx hb hown hts hG hw hVo hnn (fun ls hl => ?_) nn (qs.drop fv.toNatClampNeg) 0 7 ls (by omega) ?_ (fun y hy => ?_) ?_ (lv_sub hl [7, 2, 1, 0] rfl)
          · refine lv_iload hx hb dX2_walk_83 (lv_at hl 0 rfl) ?_
            exact jx_iret hx hb hrt hlk hw (Nat.le_of_ble_eq_true rfl) (Nat.le_of_ble_eq_true rfl) dX2_walk_85 ⟨rfl, hX'⟩
          · refine jr_ok_app (s := qs.take fv.toNatClampNeg) ?_
            rw [List.take_append_drop]
            exact (hOk.rows 0 (by decide)).2
          · have hyq : y ∈ qs := List.mem_of_mem_drop hy
            obtain ⟨m0, hm0, -, hka, -, hkc⟩ := hOk.mem hyq
            exact ⟨hOk.2.2.1 y hyq, hOk.h1 y (List.mem_cons_of_mem _ hyq), by rw [hkc]; exact hka⟩
          · rw [esp, hOk.eqA, List.map_drop]
        · refine lv_iconst (v := (-1)) hx hb dX2_walk_27 (by decide) ?_
          exact jx_iret hx hb hrt hlk hw (Nat.le_of_ble_eq_true rfl) (Nat.le_of_ble_eq_true rfl) dX2_walk_28 ⟨by rw [sp_walk, if_neg (fun q => h3 q.2.2.2)], hX⟩
  · refine jx_enter (by decide) (Nat.le_of_ble_eq_true rfl) ?_
    intro p e s m below meth c C hw ls hl
    obtain ⟨hx, hb, hrt, hlk, hnm, hml, hown, hts, hG⟩ := C
    have hl : lv_has ls 8 [(0, .ref x), (1, .int ov), (2, .int fv), (3, .int nv)] := hl
    have hno := ho
    obtain ⟨oa, g, hxL, haL, hfx, hfa⟩ := hX.base
    refine lv_aload_n hx hb dX2_walk_0 rfl (lv_at hl 0 rfl) ?_
    refine lv_iload_n hx hb dX2_walk_1 rfl (lv_at hl 1 rfl) ?_
    refine cl_X_18 (As := [.int ov]) (rest := []) hx hb hml hown hts hG hw (c_orderOf l D ct hxL haL hfx hfa) rfl ⟨Nat.le_of_ble_eq_true rfl, Nat.le_of_ble_eq_true rfl⟩ hxL hfx hl.1 rfl (Nat.le_of_ble_eq_true rfl) dX2_walk_2 ⟨Nat.le_of_ble_eq_true rfl, Nat.le_of_ble_eq_true rfl⟩ (fun v L' f' H1 locs1 hp hw hcf => ?_)
    obtain ⟨hv, eL, ef⟩ := hp
    rw [eL, ef] at hw
    have hv : v = some .null := hv.elim (fun ⟨i, hi, e, _⟩ => absurd (e ▸ (jq_oI hi).1) hno) (fun q => q.2)
    subst hv
    refine lv_astoreN (lv' := [(4, .null), (0, .ref x), (1, .int ov), (2, .int fv), (3, .int nv)]) hx hb dX2_walk_5 hl (by decide) rfl (fun ls hl => ?_)
    refine lv_aloadN hx hb dX2_walk_7 (lv_at hl 0 rfl) ?_
    refine lv_ifnullN (tgt := 27) hx hb dX2_walk_9 (by decide) ?_
    refine lv_iconst (v := (-1)) hx hb dX2_walk_27 (by decide) ?_
    exact jx_iret hx hb hrt hlk hw (Nat.le_of_ble_eq_true rfl) (Nat.le_of_ble_eq_true rfl) dX2_walk_28 ⟨by rw [sp_walk, if_neg (fun q => ho q.1)], hX⟩
section XI
variable {p : Program} {l : Launch} {e : Env} {R : Room} {s : State} {m : MethodId} {args : Array Value} {below : List Frame} {meth : Method} {c : Code} {H : Heap} {locs : List Loc} {cells slots : Nat} {Q : State → Prop} {D : va_G} {ct : Nat → ClassId} {A : Nat → Prop} {H0 : Heap} {L : List Nat}
variable {x oa : Nat}
set_option maxHeartbeats 4000000 in
set_option maxRecDepth 100000 in
theorem lp_xinit (hx : p.tables.exec = Jvm.exec) (hb : c.code = cX2_init) (hml : c.maxLocals = 2) (hown : s.vm.findClass RX2 = some m.cls) (hts : ∀ w ∈ jz_TT, w.before args s = true) (hG : jz_G D ct s) (hcs : 21 ≤ R.cells ∧ 4084 ≤ R.slots) (hR : 2 + 1 ≤ R.frames ∧ 8 + (1 + 11) + 42 ≤ R.locals)
    (kk : ∀ (g : Nat → Option Nat) (od : Nat → Nat) (FP : Nat → Nat → Prop) (L1 : List Nat) (f1 : Nat → va_E) (H : Heap) (locs : List Loc) (ls : Array Slot), x ∈ L1 → oa ∈ L1 → f1 x = .inr (0, [.ref oa]) → f1 oa = jo_eA (ct 2) g → (∀ j, j < 4 → g j = some (od j) ∧ jo_Own 0 ct L1 f1 (od j) [] (FP j) ∧ ¬ FP j x ∧ ¬ FP j oa) → (∀ a b, a < 4 → b < 4 → a ≠ b → ∀ q, FP a q → ¬ FP b q) → jz_w D A H0 L1 f1 H locs → W p l e R s m args below meth c H locs (1 + 5 * 4) (4 + 1020 * 4) Q (F0 m 38 ls [])) :
    ∀ (t i : Nat) (g : Nat → Option Nat) (od : Nat → Nat) (FP : Nat → Nat → Prop) (L1 : List Nat) (f1 : Nat → va_E) (H : Heap) (locs : List Loc) (ls : Array Slot), 4 - i < t → i ≤ 4 → x ∈ L1 → oa ∈ L1 → f1 x = .inr (0, [.ref oa]) → f1 oa = jo_eA (ct 2) g → (∀ j, j < i → g j = some (od j) ∧ jo_Own 0 ct L1 f1 (od j) [] (FP j) ∧ ¬ FP j x ∧ ¬ FP j oa) → (∀ a b, a < i → b < i → a ≠ b → ∀ q, FP a q → ¬ FP b q) → jz_w D A H0 L1 f1 H locs → lv_has ls 2 [(0, .ref x), (1, .int (nI i))] → W p l e R s m args below meth c H locs (1 + 5 * i) (4 + 1020 * i) Q (F0 m 14 ls []) := by
  intro t
  induction t with
  | zero => intro i g od FP L1 f1 H locs ls ht; exact absurd ht (Nat.not_lt_zero _)
  | succ t ih =>
    intro i g od FP L1 f1 H locs ls ht hi4 hxL haL hfx hfa hown5 hdis hw hl
    refine lv_iload_n hx hb dX2_init_14 rfl (lv_at hl 1 rfl) ?_
    refine lv_iconst (v := nI 4) hx hb dX2_init_15 (by decide) ?_
    refine lv_icmp_ge (tgt := 38) hx hb dX2_init_16 (by decide) (fun hc => ?_) (fun hc => ?_)
    · have h4 : i = 4 := by
        rcases Nat.lt_or_ge i 4 with q | q
        · exact absurd (nI_lt q (by decide)) (Int32.not_lt.mpr hc)
        · omega
      subst h4
      exact kk g od FP L1 f1 H locs ls hxL haL hfx hfa hown5 hdis hw
    · have h4 : i < 4 := by
        rcases Nat.lt_or_ge i 4 with q | q
        · exact q
        · exact absurd (nI_le q (by omega)) hc
      refine lv_aload_n hx hb dX2_init_19 rfl (lv_at hl 0 rfl) ?_
      refine gf_X_13 hx hb hown hts hG hw hxL hfx dX2_init_20 ?_
      refine lv_iload_n hx hb dX2_init_23 rfl (lv_at hl 1 rfl) ?_
      refine jx_new (own := RX2) (C := RX0) (T := TX0) (N := 5) (ci := 1) (fs := [.null, .null, .int 0, .null, .int 0]) hx hb hts jz_inO tyX0 tyX0_ok hown (by decide +kernel) (by decide +kernel) (by decide +kernel) hG hw rfl (fun j hj => by rcases (show j = 0 ∨ j = 1 ∨ j = 2 ∨ j = 3 ∨ j = 4 by omega) with rfl | rfl | rfl | rfl | rfl <;> rfl) (by omega) (by omega) dX2_init_24 (fun o H hoL hw => ?_)
      refine lv_dup hx hb dX2_init_27 rfl ?_
      refine cl_X_17 (As := []) (rest := [.ref o, .int (nI i), .ref oa]) hx hb hml hown hts hG hw (c_orderInit l D ct (List.mem_append_right _ (List.mem_singleton.mpr rfl)) (va_up_self _ _ _)) rfl hR hl.1 rfl (Nat.le_of_ble_eq_true rfl) dX2_init_28 ⟨by show _ + 4 ≤ _; omega, by show _ + 1015 ≤ _; omega⟩ (fun v L' f' H1 locs1 hp hw hcf => ?_)
      obtain ⟨rfl, hLL, hfq, hd, pa, hr, ps, k, u, PS, qs, S, hSt, hpL, hNL⟩ := hp
      have hin : ∀ q ∈ L1, q ∈ L1 ++ [o] := fun q hq => List.mem_append_left _ hq
      have hne : ∀ q ∈ L1, q ≠ o := fun q hq z => hoL (z ▸ hq)
      have hf1q : ∀ q ∈ L1, f' q = f1 q := fun q hq => by rw [hfq q (hin q hq) (hne q hq), va_up_ne _ _ (hne q hq)]
      have hfa2 : f' oa = jo_eA (ct 2) g := by rw [hf1q oa haL]; exact hfa
      refine jx_astqI (v := some o) (r := (RX0, TX0, 5)) hx hb hG hw (hLL _ (hin _ haL)) 2 1 hfa2 rfl (fun y hy => ?_) rfl h4 (by decide) dX2_init_31 (fun H locs hw => ?_)
      · cases hy
        exact ⟨hSt.1, _, hSt.2.2.1⟩
      refine lv_iinc (v := nI (i + 1)) (lv' := [(1, .int (nI (i + 1))), (0, .ref x)]) hx hb dX2_init_32 hl (k := 1) rfl (nI_succ i).symm (by decide) rfl (fun ls hl => ?_)
      refine lv_goto (tgt := 14) hx hb dX2_init_35 (by decide) ?_
      refine W.cs (cells' := 1 + 5 * (i + 1)) (slots' := 4 + 1020 * (i + 1)) (by show _ + 1 + 4 = _; omega) (by show _ + 5 + 1015 = _; omega) ?_
      have hFn : ∀ q, (q = o ∨ q = pa ∨ ¬ jo_N k PS q) → q ∉ L1 := fun q hq hz => by
        rcases hq with w | w | w
        · exact hne q hz w
        · exact hpL (w ▸ hin q hz)
        · exact hNL q w (hin q hz)
      have hxa : x ≠ oa := jo_ne hfx hfa (fun e => by cases e)
      refine ih (i + 1) (va_up g i (some o)) (va_up od i o) (va_up FP i (fun q => q = o ∨ q = pa ∨ ¬ jo_N k PS q)) L' _ H locs ls (by omega) (by omega) (hLL _ (hin _ hxL)) (hLL _ (hin _ haL)) ?_ (va_up_self _ _ _) (fun j hj => ?_) (fun a b ha hb hab q hqa hqb => ?_) hw (lv_sub hl [1, 0] rfl)
      · rw [va_up_ne _ _ hxa, hf1q x hxL]; exact hfx
      · by_cases q : j = i
        · subst q
          rw [va_up_self, va_up_self, va_up_self]
          refine ⟨rfl, ?_, fun z => hFn x z hxL, fun z => hFn oa z haL⟩
          have hO : jo_Own 0 ct L' f' o [] (fun q => q = o ∨ q = pa ∨ ¬ jo_N k PS q) := ⟨hd, pa, hr, ps, k, u, PS, qs, S, hSt, fun q => Iff.rfl⟩
          exact hO.keep (Nat.le_refl _) (fun _ h => h) (fun z hz => va_up_ne _ _ (fun w => hFn z hz (w ▸ haL)))
        · rw [va_up_ne _ _ q, va_up_ne _ _ q, va_up_ne _ _ q]
          obtain ⟨g1, g2, g3, g4⟩ := hown5 j (by omega)
          exact ⟨g1, g2.keep (Nat.le_refl _) (fun z hz => hLL z (hin z hz)) (fun z hz => by
            have hzo : z ≠ oa := fun w => g4 (w ▸ hz)
            rw [va_up_ne _ _ hzo]
            exact hf1q z (g2.inL hz)), g3, g4⟩
      · by_cases qa : a = i
        · subst qa
          rw [va_up_self] at hqa
          rw [va_up_ne _ _ (fun z => hab z.symm)] at hqb
          exact hFn q hqa ((hown5 b (by omega)).2.1.inL hqb)
        · rw [va_up_ne _ _ qa] at hqa
          by_cases qb : b = i
          · subst qb
            rw [va_up_self] at hqb
            exact hFn q hqb ((hown5 a (by omega)).2.1.inL hqa)
          · rw [va_up_ne _ _ qb] at hqb
            exact hdis a b (by omega) (by omega) hab q hqa hqb
end XI
set_option maxHeartbeats 4000000 in
set_option maxRecDepth 100000 in
theorem c_X_init (l : Launch) (D : va_G) (ct : Nat → ClassId) {L : List Nat} {f : Nat → va_E} {x : Nat} (hxL : x ∈ L) (hfx : f x = .inr (0, [.null])) :
    jz_M l D ct yX2_init cX2_init 2 none ({ frames := 3, cells := 21, slots := 4084, locals := 62 } : Room) [.ref x] L f (fun v L' f' => v = none ∧ jX 0 ct x L' f' (fun _ => [])) := by
  refine jx_enter (by decide) (Nat.le_of_ble_eq_true rfl) ?_
  intro p e s m below meth c C hw ls hl
  obtain ⟨hx, hb, hrt, hlk, hnm, hml, hown, hts, hG⟩ := C
  have hl : lv_has ls 2 [(0, .ref x)] := hl
  refine lv_aload_n hx hb dX2_init_0 rfl (lv_at hl 0 rfl) ?_
  refine W.objInit hx hb hown (hts _ (by decide +kernel)) (hts _ (by decide +kernel)) (hts _ jz_objc) rfl (by rw [hml]; exact hl.1) rfl dX2_init_1 (Nat.le_of_ble_eq_true rfl) (Nat.le_of_ble_eq_true rfl) ?_
  refine W.eq (g2 := F0 m 4 ls []) rfl ?_
  refine lv_aload_n hx hb dX2_init_4 rfl (lv_at hl 0 rfl) ?_
  refine lv_iconst (v := nI 4) hx hb dX2_init_5 (by decide) ?_
  refine jx_newq hx hb hts hown (by decide +kernel) (by decide +kernel) hG hw 2 rfl (N' := 4) (nI_pos (by decide)) (nI_clamp (by decide)) (by decide) (Nat.le_of_ble_eq_true rfl) (Nat.le_of_ble_eq_true rfl) dX2_init_6 (fun oa H haL hw => ?_)
  have hxa : x ≠ oa := fun z => haL (z ▸ hxL)
  refine pf_X_13 hx hb hown hts hG hw (List.mem_append_left _ hxL) (by rw [va_up_ne _ _ hxa]; exact hfx) hnm dX2_init_9 (fun H locs hw => ?_)
  refine lv_iconst (v := nI 0) hx hb dX2_init_12 (by decide) ?_
  refine lv_istore_n (lv' := [(1, .int (nI 0)), (0, .ref x)]) hx hb dX2_init_13 rfl hl (by decide) rfl (fun ls hl => ?_)
  refine lp_xinit (x := x) (oa := oa) hx hb hml hown hts hG ⟨Nat.le_of_ble_eq_true rfl, Nat.le_of_ble_eq_true rfl⟩ ⟨Nat.le_of_ble_eq_true rfl, Nat.le_of_ble_eq_true rfl⟩ (fun g od FP L1 f1 H locs ls h1 h2 h3 h4 h5 h6 hw => ?_) 5 0 (fun _ => none) (fun _ => 0) (fun _ _ => False) _ _ _ _ ls (by decide) (by decide) (List.mem_append_left _ hxL) (List.mem_append_right _ (List.mem_singleton.mpr rfl)) (va_up_self _ _ _) (by rw [va_up_ne _ _ hxa.symm, va_up_self]) (fun j hj => absurd hj (Nat.not_lt_zero _)) (fun a b ha => absurd ha (Nat.not_lt_zero _)) hw (lv_sub hl [1, 0] rfl)
  exact jx_vret hx hb hrt hlk hw (Nat.le_of_ble_eq_true rfl) (Nat.le_of_ble_eq_true rfl) dX2_init_38 ⟨rfl, oa, g, od, FP, h1, h2, h3, h4, h5, h6⟩
