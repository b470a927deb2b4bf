theorem jz_comm {f : Nat → va_E} {o q : Nat} {E e : va_E} (h : q ≠ o) : va_up (va_up f o E) q e = va_up (va_up f q e) o E := by
  funext x
  simp only [va_up]
  by_cases h1 : x = q
  · have h2 : ¬ x = o := fun z => h (h1.symm.trans z)
    rw [if_pos h1, if_neg h2, if_pos h1]
  · rw [if_neg h1]
    by_cases h2 : x = o
    · rw [if_pos h2, if_pos h2]
    · rw [if_neg h2, if_neg h2, if_neg h1]
/-- the row in which a place comes in -/
theorem jz_insRow {ht : Nat → Nat} {NX : Nat → Nat → Option Nat} {FR : Nat → Nat → Int32} {j a b : Nat} {pre s1 p2 : List Nat} {x1 x2 : Int32} (h : jr_ok ht NX FR j (pre ++ a :: (s1 ++ p2))) (ha : j < ht a) (hb : j < ht b) (hs : ∀ x ∈ s1, ht x ≤ j) (hab : a ≠ b) (hbp : ∀ x ∈ pre, x ≠ b ∧ x ≠ a) (hbq : ∀ x ∈ p2, x ≠ b ∧ x ≠ a) (hx1 : x1 = nI (jr_dst ht j p2)) (hx2 : x2 = nI (s1.length + 1)) :
    jr_ok ht (va_up (va_up NX b (va_up (NX b) j (NX a j))) a (va_up (va_up NX b (va_up (NX b) j (NX a j)) a) j (some b))) (va_up (va_up FR b (upd (FR b) j x1)) a (upd (va_up FR b (upd (FR b) j x1) a) j x2)) j (pre ++ a :: (s1 ++ b :: p2)) := by
  have hba : ¬ b = a := fun q => hab q.symm
  have e0 := (jr_ok_at h ha).1
  rw [jr_fst_low hs] at e0
  refine jr_ins h ha hs (fun x hx => ?_) (fun x hx => ?_) (fun _ => ⟨?_, ?_, ?_, ?_⟩) (fun q => absurd hb q)
  · obtain ⟨h1, h2⟩ := hbp x hx
    exact ⟨by rw [va_up_ne _ _ h2, va_up_ne _ _ h1], by rw [va_up_ne _ _ h2, va_up_ne _ _ h1]⟩
  · obtain ⟨h1, h2⟩ := hbq x hx
    exact ⟨by rw [va_up_ne _ _ h2, va_up_ne _ _ h1], by rw [va_up_ne _ _ h2, va_up_ne _ _ h1]⟩
  · rw [va_up_ne _ _ hba, va_up_self, va_up_self, e0]
  · rw [va_up_ne _ _ hba, va_up_self, pk_us, hx1]
  · rw [va_up_self, va_up_self]
  · rw [va_up_self, pk_us, hx2]
theorem jz_insRow0 {ht : Nat → Nat} {NX : Nat → Nat → Option Nat} {FR : Nat → Nat → Int32} {j a b : Nat} {pre s1 p2 : List Nat} {x1 : Int32} (h : jr_ok ht NX FR j (pre ++ a :: (s1 ++ p2))) (ha : j < ht a) (hb : ¬ j < ht b) (hs : ∀ x ∈ s1, ht x ≤ j) (hbp : ∀ x ∈ pre, x ≠ b ∧ x ≠ a) (hbq : ∀ x ∈ p2, x ≠ b ∧ x ≠ a) (hx1 : x1 = FR a j + 1) :
    jr_ok ht NX (va_up FR a (upd (FR a) j x1)) j (pre ++ a :: (s1 ++ b :: p2)) := by
  obtain ⟨e0, e1⟩ := jr_ok_at h ha
  rw [jr_fst_low hs] at e0
  rw [jr_dst_low hs] at e1
  refine jr_ins h ha hs (fun x hx => ?_) (fun x hx => ?_) (fun q => absurd q hb) (fun _ => ⟨e0, ?_⟩)
  · obtain ⟨h1, h2⟩ := hbp x hx
    exact ⟨rfl, by rw [va_up_ne _ _ h2]⟩
  · obtain ⟨h1, h2⟩ := hbq x hx
    exact ⟨rfl, by rw [va_up_ne _ _ h2]⟩
  · rw [va_up_self, pk_us, hx1, e1, nI_1]
    congr 1
    omega
/-- the row in which a place goes out -/
theorem jz_delRow {ht : Nat → Nat} {NX : Nat → Nat → Option Nat} {FR : Nat → Nat → Int32} {j a b : Nat} {pre s1 p2 : List Nat} {x1 : Int32} (h : jr_ok ht NX FR j (pre ++ a :: (s1 ++ b :: p2))) (ha : j < ht a) (hb : j < ht b) (hs : ∀ x ∈ s1, ht x ≤ j) (hbp : ∀ x ∈ pre, x ≠ a) (hbq : ∀ x ∈ p2, x ≠ a) (hx1 : x1 = FR a j + (FR b j - 1)) :
    jr_ok ht (va_up NX a (va_up (NX a) j (NX b j))) (va_up FR a (upd (FR a) j x1)) j (pre ++ a :: (s1 ++ p2)) := by
  have e1 := (jr_ok_at h ha).2
  rw [jr_dst_low hs, jr_dst_at hb] at e1
  have h3 : jr_ok ht NX FR j ((pre ++ a :: s1) ++ b :: p2) := by rw [show (pre ++ a :: s1) ++ b :: p2 = pre ++ a :: (s1 ++ b :: p2) by simp]; exact h
  obtain ⟨f0, f1⟩ := jr_ok_at h3 hb
  refine jr_del h ha hs (fun x hx => ?_) (fun x hx => ?_) ⟨?_, ?_⟩
  · exact ⟨by rw [va_up_ne _ _ (hbp x hx)], by rw [va_up_ne _ _ (hbp x hx)]⟩
  · exact ⟨by rw [va_up_ne _ _ (hbq x hx)], by rw [va_up_ne _ _ (hbq x hx)]⟩
  · rw [va_up_self, va_up_self, f0]
  · rw [va_up_self, pk_us, hx1, e1, f1]
    obtain ⟨d, hd⟩ : ∃ d, jr_dst ht j p2 = d + 1 := ⟨jr_dst ht j p2 - 1, by have := jr_dst_pos (ht := ht) (r := j) (t := p2); omega⟩
    rw [hd, nI_pred, nI_add]
    congr 1
    omega
theorem jz_delRow0 {ht : Nat → Nat} {NX : Nat → Nat → Option Nat} {FR : Nat → Nat → Int32} {j a b : Nat} {pre s1 p2 : List Nat} {x1 : Int32} (h : jr_ok ht NX FR j (pre ++ a :: (s1 ++ b :: p2))) (ha : j < ht a) (hb : ¬ j < ht b) (hs : ∀ x ∈ s1, ht x ≤ j) (hbp : ∀ x ∈ pre, x ≠ a) (hbq : ∀ x ∈ p2, x ≠ a) (hx1 : x1 = FR a j - 1) :
    jr_ok ht NX (va_up FR a (upd (FR a) j x1)) j (pre ++ a :: (s1 ++ p2)) := by
  obtain ⟨e0, e1⟩ := jr_ok_at h ha
  have hs2 : ∀ x ∈ s1 ++ [b], ht x ≤ j := fun x hx => by
    rcases List.mem_append.mp hx with q | q
    · exact hs x q
    · rw [List.mem_singleton.mp q]; exact Nat.not_lt.mp hb
  have el : s1 ++ b :: p2 = (s1 ++ [b]) ++ p2 := by simp
  rw [el, jr_fst_low hs2] at e0
  rw [el, jr_dst_low hs2] at e1
  refine jr_del h ha hs (fun x hx => ?_) (fun x hx => ?_) ⟨e0, ?_⟩
  · exact ⟨rfl, by rw [va_up_ne _ _ (hbp x hx)]⟩
  · exact ⟨rfl, by rw [va_up_ne _ _ (hbq x hx)]⟩
  · rw [va_up_self, pk_us, hx1, e1, show (s1 ++ [b]).length + jr_dst ht j p2 = (s1.length + jr_dst ht j p2) + 1 by simp; omega, nI_pred]
/-- cutting the list where the step's place stands -/
theorem jz_cut {hd a n : Nat} {p1 q2 pre suf : List Nat} {ht : Nat → Nat} {j : Nat} (e : hd :: (p1 ++ q2) = pre ++ a :: suf) (h1 : pre.length < p1.length + 1) (h2 : p1.length + 1 ≤ pre.length + jr_dst ht j suf) : ∃ s1, hd :: p1 = pre ++ a :: s1 ∧ suf = s1 ++ q2 ∧ pre.length + s1.length = p1.length ∧ ∀ x ∈ s1, ht x ≤ j := by
  have e' : (hd :: p1) ++ q2 = pre ++ a :: suf := e
  have hl : (hd :: p1).length = p1.length + 1 := rfl
  rcases List.append_eq_append_iff.mp e' with ⟨w, h3, h4⟩ | ⟨w, h3, h4⟩
  · have : pre.length = (hd :: p1).length + w.length := by rw [h3, List.length_append]
    omega
  · cases w with
    | nil =>
      have : (hd :: p1).length = pre.length := by rw [h3]; simp
      omega
    | cons y s1 =>
      have hy : a = y ∧ suf = s1 ++ q2 := by
        have h5 : a :: suf = y :: (s1 ++ q2) := h4
        injection h5 with g1 g2
        exact ⟨g1, g2⟩
      obtain ⟨rfl, rfl⟩ := hy
      have hlen : p1.length + 1 = pre.length + (s1.length + 1) := by
        have := congrArg List.length h3
        simpa using this
      exact ⟨s1, h3, rfl, by omega, jr_lowBy (t := q2) (by omega)⟩

section PI
variable {p : Program} {l : Launch} {e : Env} {R : Room} {s : State} {m : MethodId} {args : Array Value} {below : List Frame} {meth : Method} {c : Code} {H : Heap} {locs : List Loc} {cells slots : Nat} {Q : State → Prop} {D : va_G} {ct : Nat → ClassId} {A : Nat → Prop} {H0 : Heap} {L : List Nat}
variable {f0 : Nat → va_E} {k : jK} {u : jS} {PS ns p1 p2 : List Nat} {cnt : Int32} {o hd pa b : Nat}
set_option maxHeartbeats 4000000 in
set_option maxRecDepth 100000 in
theorem lp_putIn (hx : p.tables.exec = Jvm.exec) (hb : c.code = cX0_putIn) (hml : c.maxLocals = 4) (hown : s.vm.findClass RO = some m.cls) (hts : ∀ w ∈ jz_TT, w.before args s = true) (hG : jz_G D ct s) (hcs : cells ≤ R.cells ∧ slots ≤ R.slots) (hR : 0 + 1 ≤ R.frames ∧ 8 + (4 + 11) + 0 ≤ R.locals) (hN : jo_N k PS o) (hoL : o ∈ L) (ens0 : ns = hd :: (p1 ++ p2)) (hPS : ∀ x ∈ ns, x ∈ PS) (hns : ns.length < 2 ^ 30) (hbP : b ∈ PS) (hb4 : k.2.2.1 b ≤ 4) (hbn : b ∉ ns) (hnd : ns.Nodup)
    (kk : ∀ (f1 : Nat → va_E) (u1 : jS) (hr : Nat) (ps : Int32) (H : Heap) (locs : List Loc) (ls : Array Slot), jo_V (ct 0) (ct 1) L f1 k u1 PS → u1.1 = u.1 → u1.2.1 = u.2.1 → (∀ q, jo_N k PS q → f1 q = f0 q) → (∀ r, r < 4 → 0 ≤ r → jr_ok k.2.2.1 u1.2.2.1 u1.2.2.2 r (hd :: (p1 ++ b :: p2))) → jz_w D A H0 L (va_up f1 o (jo_eO hd pa cnt hr ps)) H locs → lv_has ls 4 [(0, .ref o)] → W p l e R s m args below meth c H locs cells slots Q (F0 m 125 ls [])) :
    ∀ (j : Nat) (f1 : Nat → va_E) (u1 : jS) (pre suf : List Nat) (hr : Nat) (H : Heap) (locs : List Loc) (ls : Array Slot), j ≤ 4 → jo_V (ct 0) (ct 1) L f1 k u1 PS → u1.1 = u.1 → u1.2.1 = u.2.1 → (∀ q, jo_N k PS q → f1 q = f0 q) → (∀ r, r < 4 → j ≤ r → jr_ok k.2.2.1 u1.2.2.1 u1.2.2.2 r (hd :: (p1 ++ b :: p2))) → (∀ r, r < j → jr_ok k.2.2.1 u1.2.2.1 u1.2.2.2 r ns) → ns = pre ++ hr :: suf → j ≤ k.2.2.1 hr → pre.length < p1.length + 1 → jz_w D A H0 L (va_up f1 o (jo_eO hd pa cnt hr (nI pre.length))) H locs → lv_has ls 4 [(0, .ref o), (1, .ref b), (2, .int (nI (p1.length + 1))), (3, .int (jz_row j))] → W p l e R s m args below meth c H locs cells slots Q (F0 m 21 ls []) := by
  intro j
  induction j with
  | zero =>
    intro f1 u1 pre suf hr H locs ls _ hV eS eI hfr hnew hold ens hh hpl hw hl
    refine lv_iload_n hx hb dX0_putIn_21 rfl (lv_at hl 3 rfl) ?_
    refine lv_if_lt (tgt := 125) hx hb dX0_putIn_22 (by decide) (fun _ => ?_) (fun h => absurd (by decide) h)
    exact kk f1 u1 hr _ H locs ls hV eS eI hfr hnew hw (lv_sub hl [0] rfl)
  | succ j ih =>
    intro f1 u1 pre suf hr H locs ls hj4 hV eS eI hfr hnew hold ens hh hpl hw hl
    have hr4 : j < 4 := hj4
    have hl : lv_has ls 4 [(0, .ref o), (1, .ref b), (2, .int (nI (p1.length + 1))), (3, .int (nI j))] := hl
    have hlen : ns.length = p1.length + p2.length + 1 := by rw [ens0]; simp
    have hoj := hold j (Nat.lt_succ_self _)
    refine lv_iload_n hx hb dX0_putIn_21 rfl (lv_at hl 3 rfl) ?_
    refine lv_if_lt (tgt := 125) hx hb dX0_putIn_22 (by decide) (fun h => absurd h (nI_pos (by omega))) (fun _ => ?_)
    refine lv_aload_n hx hb dX0_putIn_25 rfl (lv_at hl 0 rfl) ?_
    refine lv_iload_n hx hb dX0_putIn_26 rfl (lv_at hl 3 rfl) ?_
    refine lv_iload_n hx hb dX0_putIn_27 rfl (lv_at hl 2 rfl) ?_
    refine cl_O_46 (As := [.int (nI j), .int (nI (p1.length + 1))]) (rest := []) hx hb hml hown hts hG hw (c_goAheadOf l D ct hV hN hoL hr4 hPS hns (by omega) hoj ens hh hpl) rfl hR hoL (va_up_self _ _ _) hl.1 rfl (Nat.le_of_ble_eq_true rfl) dX0_putIn_28 hcs (fun v L' f' H1 locs1 hp hw hcf => ?_)
    obtain ⟨rfl, eL, pre, suf, hr, ens, ef, hh, hpl, hdst⟩ := hp
    rw [eL, ef] at hw
    obtain ⟨s1, ep1, es, hsl, hlow⟩ := jz_cut (n := 0) (ens0.symm.trans ens) hpl hdst
    have hhr : hr ∈ PS := hPS _ (by rw [ens]; simp)
    have ens1 : ns = pre ++ hr :: (s1 ++ p2) := by rw [ens, es]
    have hoj : jr_ok k.2.2.1 u1.2.2.1 u1.2.2.2 j (pre ++ hr :: (s1 ++ p2)) := ens1 ▸ hoj
    obtain ⟨e1, e2⟩ := jr_ok_at hoj hh
    rw [jr_fst_low hlow] at e1
    rw [jr_dst_low hlow] at e2
    have hhb : hr ≠ b := fun q => hbn (by rw [← q, ens]; simp)
    have hnd1 := hnd
    rw [ens1] at hnd1
    have hpa : ∀ x ∈ pre, x ≠ b ∧ x ≠ hr := fun x hx => ⟨fun q => hbn (by rw [← q, ens]; simp [hx]), fun q => (List.nodup_append.mp hnd1).2.2 x hx hr List.mem_cons_self q⟩
    have hpb : ∀ x ∈ p2, x ≠ b ∧ x ≠ hr := fun x hx => ⟨fun q => hbn (by rw [← q, ens1]; simp [hx]), fun q => (List.nodup_cons.mp (List.nodup_append.mp hnd1).2.1).1 (by rw [← q]; simp [hx])⟩
    have enew : hd :: (p1 ++ b :: p2) = pre ++ hr :: (s1 ++ b :: p2) := by rw [← List.cons_append, ep1]; simp
    refine lv_iload_n hx hb dX0_putIn_31 rfl (lv_at hl 3 rfl) ?_
    refine lv_aload_n hx hb dX0_putIn_32 rfl (lv_at hl 1 rfl) ?_
    refine gf_O_84 hx hb hown hts hG hw ((hV.up (e := jo_eO hd pa cnt hr (nI pre.length)) hN).aL hbP) ((hV.up (e := jo_eO hd pa cnt hr (nI pre.length)) hN).a hbP) dX0_putIn_33 ?_
    refine lv_icmp_ge (tgt := 106) hx hb dX0_putIn_36 (by decide) (fun hc => ?_) (fun hc => ?_)
    · have hjb : ¬ j < k.2.2.1 b := fun q => absurd (nI_lt q (by omega)) (Int32.not_lt.mpr hc)
      refine lv_aload_n hx hb dX0_putIn_106 rfl (lv_at hl 0 rfl) ?_
      refine gf_O_24 hx hb hown hts hG hw hoL (va_up_self _ _ _) dX0_putIn_107 ?_
      refine gf_O_59 hx hb hown hts hG hw ((hV.up (e := jo_eO hd pa cnt hr (nI pre.length)) hN).aL hhr) ((hV.up (e := jo_eO hd pa cnt hr (nI pre.length)) hN).a hhr) dX0_putIn_110 ?_
      refine lv_iload_n hx hb dX0_putIn_113 rfl (lv_at hl 3 rfl) ?_
      refine lv_dup2_11 hx hb dX0_putIn_114 rfl rfl ?_
      refine jx_ialdI hx hb hG hw ((hV.up (e := jo_eO hd pa cnt hr (nI pre.length)) hN).fL hhr) 0 ((hV.up (e := jo_eO hd pa cnt hr (nI pre.length)) hN).r hhr) rfl hr4 (by decide) dX0_putIn_115 ?_
      refine lv_iconst (v := 1) hx hb dX0_putIn_116 (by decide) ?_
      refine lv_iadd hx hb dX0_putIn_117 ?_
      refine jx_iastI hx hb hG hw ((hV.up (e := jo_eO hd pa cnt hr (nI pre.length)) hN).fL hhr) 0 ((hV.up (e := jo_eO hd pa cnt hr (nI pre.length)) hN).r hhr) rfl hr4 (by decide) dX0_putIn_118 (fun H locs hw => ?_)
      rw [jz_comm (hN hr hhr).2.2.symm] at hw
      have hfr : ∀ q, jo_N k PS q → va_up f1 (k.2.2.2.2 hr) (jo_eF (ct 0) (upd (u1.2.2.2 hr) j (u1.2.2.2 hr j + 1))) q = f0 q := fun q hq => by rw [va_up_ne _ _ (hq hr hhr).2.2]; exact hfr q hq
      have hsame : ∀ x r, ¬ r = j → u1.2.2.1 x r = u1.2.2.1 x r ∧ va_up u1.2.2.2 hr (upd (u1.2.2.2 hr) j (u1.2.2.2 hr j + 1)) x r = u1.2.2.2 x r := fun x r hne => ⟨rfl, by
        by_cases q : x = hr
        · rw [q, va_up_self, pk_un hne]
        · rw [va_up_ne _ _ q]⟩
      have hV := hV.putF hhr (upd (u1.2.2.2 hr) j (u1.2.2.2 hr j + 1))
      refine lv_iinc (v := jz_row j) (lv' := [(3, .int (jz_row j)), (0, .ref o), (1, .ref b), (2, .int (nI (p1.length + 1)))]) hx hb dX0_putIn_119 hl (k := 3) rfl (jz_row_pred j) (by decide) rfl (fun ls hl => ?_)
      refine lv_goto (tgt := 21) hx hb dX0_putIn_122 (by decide) ?_
      refine ih _ (u1.1, u1.2.1, u1.2.2.1, va_up u1.2.2.2 hr (upd (u1.2.2.2 hr) j (u1.2.2.2 hr j + 1))) pre (s1 ++ p2) hr _ _ ls (by omega) hV eS eI hfr (fun r hr4 hjr => ?_) (fun r hjr => ?_) ens1 (by omega) hpl hw (lv_sub hl [1, 2, 3, 0] rfl)
      · rcases Nat.eq_or_lt_of_le hjr with q | q
        · subst q
          rw [enew]
          exact jz_insRow0 hoj hh hjb hlow hpa hpb rfl
        · exact jr_ok_congr (hnew r hr4 q) (fun x _ _ => hsame x r (fun z => absurd q (by omega)))
      · exact jr_ok_congr (hold r (by omega)) (fun x _ _ => hsame x r (fun z => absurd hjr (by omega)))
    · have hjb : j < k.2.2.1 b := by
        rcases Nat.lt_or_ge j (k.2.2.1 b) with q | q
        · exact q
        · exact absurd (nI_le q (by omega)) hc
      refine lv_aload_n hx hb dX0_putIn_39 rfl (lv_at hl 1 rfl) ?_
      refine gf_O_49 hx hb hown hts hG hw ((hV.up (e := jo_eO hd pa cnt hr (nI pre.length)) hN).aL hbP) ((hV.up (e := jo_eO hd pa cnt hr (nI pre.length)) hN).a hbP) dX0_putIn_40 ?_
      refine lv_iload_n hx hb dX0_putIn_43 rfl (lv_at hl 3 rfl) ?_
      refine lv_aload_n hx hb dX0_putIn_44 rfl (lv_at hl 0 rfl) ?_
      refine gf_O_24 hx hb hown hts hG hw hoL (va_up_self _ _ _) dX0_putIn_45 ?_
      refine gf_O_49 hx hb hown hts hG hw ((hV.up (e := jo_eO hd pa cnt hr (nI pre.length)) hN).aL hhr) ((hV.up (e := jo_eO hd pa cnt hr (nI pre.length)) hN).a hhr) dX0_putIn_48 ?_
      refine lv_iload_n hx hb dX0_putIn_51 rfl (lv_at hl 3 rfl) ?_
      refine jx_aldqI hx hb hG hw ((hV.up (e := jo_eO hd pa cnt hr (nI pre.length)) hN).nL hhr) 1 ((hV.up (e := jo_eO hd pa cnt hr (nI pre.length)) hN).n hhr) rfl hr4 (by decide) dX0_putIn_52 ?_
      refine jx_astqI hx hb hG hw ((hV.up (e := jo_eO hd pa cnt hr (nI pre.length)) hN).nL hbP) 1 2 ((hV.up (e := jo_eO hd pa cnt hr (nI pre.length)) hN).n hbP) rfl (fun x hx0 => ?_) rfl hr4 (by decide) dX0_putIn_53 (fun H locs hw => ?_)
      · obtain ⟨mid, suf3, e3, -⟩ := jr_split (e1.symm.trans hx0)
        have hxP : x ∈ PS := hPS x (by rw [ens1, e3]; simp)
        exact ⟨(hV.up (e := jo_eO hd pa cnt hr (nI pre.length)) hN).aL hxP, _, (hV.up (e := jo_eO hd pa cnt hr (nI pre.length)) hN).a hxP⟩
      rw [jz_comm (hN b hbP).2.1.symm] at hw
      have hV2 := hV.putX hbP (va_up (u1.2.2.1 b) j (u1.2.2.1 hr j))
      obtain ⟨f2, hf2⟩ : ∃ f2, f2 = va_up f1 (k.2.2.2.1 b) (jo_eN (ct 1) (va_up (u1.2.2.1 b) j (u1.2.2.1 hr j))) := ⟨_, rfl⟩
      rw [← hf2] at hw hV2
      refine lv_aload_n hx hb dX0_putIn_54 rfl (lv_at hl 1 rfl) ?_
      refine gf_O_59 hx hb hown hts hG hw ((hV2.up (e := jo_eO hd pa cnt hr (nI pre.length)) hN).aL hbP) ((hV2.up (e := jo_eO hd pa cnt hr (nI pre.length)) hN).a hbP) dX0_putIn_55 ?_
      refine lv_iload_n hx hb dX0_putIn_58 rfl (lv_at hl 3 rfl) ?_
      refine lv_aload_n hx hb dX0_putIn_59 rfl (lv_at hl 0 rfl) ?_
      refine gf_O_56 hx hb hown hts hG hw hoL (va_up_self _ _ _) dX0_putIn_60 ?_
      refine lv_aload_n hx hb dX0_putIn_63 rfl (lv_at hl 0 rfl) ?_
      refine gf_O_24 hx hb hown hts hG hw hoL (va_up_self _ _ _) dX0_putIn_64 ?_
      refine gf_O_59 hx hb hown hts hG hw ((hV2.up (e := jo_eO hd pa cnt hr (nI pre.length)) hN).aL hhr) ((hV2.up (e := jo_eO hd pa cnt hr (nI pre.length)) hN).a hhr) dX0_putIn_67 ?_
      refine lv_iload_n hx hb dX0_putIn_70 rfl (lv_at hl 3 rfl) ?_
      refine jx_ialdI hx hb hG hw ((hV2.up (e := jo_eO hd pa cnt hr (nI pre.length)) hN).fL hhr) 0 ((hV2.up (e := jo_eO hd pa cnt hr (nI pre.length)) hN).r hhr) rfl hr4 (by decide) dX0_putIn_71 ?_
      refine lv_iadd hx hb dX0_putIn_72 ?_
      refine lv_iconst (v := nI 1) hx hb dX0_putIn_73 (by decide) ?_
      refine lv_iadd hx hb dX0_putIn_74 ?_
      refine lv_iload_n hx hb dX0_putIn_75 rfl (lv_at hl 2 rfl) ?_
      refine lv_isub hx hb dX0_putIn_76 ?_
      refine lv_topi (fun x1 ex1 => ?_)
      have ex1 : x1 = nI (jr_dst k.2.2.1 j p2) := by
        rw [ex1]
        show nI pre.length + u1.2.2.2 hr j + nI 1 - nI (p1.length + 1) = _
        rw [e2, nI_add, nI_add, pk_sub (by omega)]
        congr 1
        omega
      refine jx_iastI hx hb hG hw ((hV2.up (e := jo_eO hd pa cnt hr (nI pre.length)) hN).fL hbP) 0 ((hV2.up (e := jo_eO hd pa cnt hr (nI pre.length)) hN).r hbP) rfl hr4 (by decide) dX0_putIn_77 (fun H locs hw => ?_)
      rw [jz_comm (hN b hbP).2.2.symm] at hw
      have hV3 := hV2.putF hbP (upd (u1.2.2.2 b) j x1)
      obtain ⟨f3, hf3⟩ : ∃ f3, f3 = va_up f2 (k.2.2.2.2 b) (jo_eF (ct 0) (upd (u1.2.2.2 b) j x1)) := ⟨_, rfl⟩
      rw [← hf3] at hw hV3
      refine lv_aload_n hx hb dX0_putIn_78 rfl (lv_at hl 0 rfl) ?_
      refine gf_O_24 hx hb hown hts hG hw hoL (va_up_self _ _ _) dX0_putIn_79 ?_
      refine gf_O_49 hx hb hown hts hG hw ((hV3.up (e := jo_eO hd pa cnt hr (nI pre.length)) hN).aL hhr) ((hV3.up (e := jo_eO hd pa cnt hr (nI pre.length)) hN).a hhr) dX0_putIn_82 ?_
      refine lv_iload_n hx hb dX0_putIn_85 rfl (lv_at hl 3 rfl) ?_
      refine lv_aload_n hx hb dX0_putIn_86 rfl (lv_at hl 1 rfl) ?_
      refine jx_astqI (v := some b) hx hb hG hw ((hV3.up (e := jo_eO hd pa cnt hr (nI pre.length)) hN).nL hhr) 1 2 ((hV3.up (e := jo_eO hd pa cnt hr (nI pre.length)) hN).n hhr) rfl (fun x hx0 => ?_) rfl hr4 (by decide) dX0_putIn_87 (fun H locs hw => ?_)
      · cases hx0
        exact ⟨(hV3.up (e := jo_eO hd pa cnt hr (nI pre.length)) hN).aL hbP, _, (hV3.up (e := jo_eO hd pa cnt hr (nI pre.length)) hN).a hbP⟩
      rw [jz_comm (hN hr hhr).2.1.symm] at hw
      have hV4 := hV3.putX hhr (va_up (va_up u1.2.2.1 b (va_up (u1.2.2.1 b) j (u1.2.2.1 hr j)) hr) j (some b))
      obtain ⟨f4, hf4⟩ : ∃ f4, f4 = va_up f3 (k.2.2.2.1 hr) (jo_eN (ct 1) (va_up (va_up u1.2.2.1 b (va_up (u1.2.2.1 b) j (u1.2.2.1 hr j)) hr) j (some b))) := ⟨_, rfl⟩
      rw [← hf4] at hV4
      have hw : jz_w D A H0 L (va_up f4 o (jo_eO hd pa cnt hr (nI pre.length))) H locs := by rw [hf4]; exact hw
      refine lv_aload_n hx hb dX0_putIn_88 rfl (lv_at hl 0 rfl) ?_
      refine gf_O_24 hx hb hown hts hG hw hoL (va_up_self _ _ _) dX0_putIn_89 ?_
      refine gf_O_59 hx hb hown hts hG hw ((hV4.up (e := jo_eO hd pa cnt hr (nI pre.length)) hN).aL hhr) ((hV4.up (e := jo_eO hd pa cnt hr (nI pre.length)) hN).a hhr) dX0_putIn_92 ?_
      refine lv_iload_n hx hb dX0_putIn_95 rfl (lv_at hl 3 rfl) ?_
      refine lv_iload_n hx hb dX0_putIn_96 rfl (lv_at hl 2 rfl) ?_
      refine lv_aload_n hx hb dX0_putIn_97 rfl (lv_at hl 0 rfl) ?_
      refine gf_O_56 hx hb hown hts hG hw hoL (va_up_self _ _ _) dX0_putIn_98 ?_
      refine lv_isub hx hb dX0_putIn_101 ?_
      refine lv_topi (fun x2 ex2 => ?_)
      have ex2 : x2 = nI (s1.length + 1) := by
        rw [ex2]
        show nI (p1.length + 1) - nI pre.length = _
        rw [pk_sub (by omega)]
        congr 1
        omega
      refine jx_iastI hx hb hG hw ((hV4.up (e := jo_eO hd pa cnt hr (nI pre.length)) hN).fL hhr) 0 ((hV4.up (e := jo_eO hd pa cnt hr (nI pre.length)) hN).r hhr) rfl hr4 (by decide) dX0_putIn_102 (fun H locs hw => ?_)
      rw [jz_comm (hN hr hhr).2.2.symm] at hw
      have hV5 := hV4.putF hhr (upd (va_up u1.2.2.2 b (upd (u1.2.2.2 b) j x1) hr) j x2)
      obtain ⟨f5, hf5⟩ : ∃ f5, f5 = va_up f4 (k.2.2.2.2 hr) (jo_eF (ct 0) (upd (va_up u1.2.2.2 b (upd (u1.2.2.2 b) j x1) hr) j x2)) := ⟨_, rfl⟩
      rw [← hf5] at hV5
      have hw : jz_w D A H0 L (va_up f5 o (jo_eO hd pa cnt hr (nI pre.length))) H locs := by rw [hf5]; exact hw
      have hfr : ∀ q, jo_N k PS q → f5 q = f0 q := fun q hq => by rw [hf5, va_up_ne _ _ (hq hr hhr).2.2, hf4, va_up_ne _ _ (hq hr hhr).2.1, hf3, va_up_ne _ _ (hq b hbP).2.2, hf2, va_up_ne _ _ (hq b hbP).2.1]; exact hfr q hq
      have hsame : ∀ x r, ¬ r = j → (va_up (va_up u1.2.2.1 b (va_up (u1.2.2.1 b) j (u1.2.2.1 hr j))) hr (va_up (va_up u1.2.2.1 b (va_up (u1.2.2.1 b) j (u1.2.2.1 hr j)) hr) j (some b))) x r = u1.2.2.1 x r ∧ (va_up (va_up u1.2.2.2 b (upd (u1.2.2.2 b) j x1)) hr (upd (va_up u1.2.2.2 b (upd (u1.2.2.2 b) j x1) hr) j x2)) x r = u1.2.2.2 x r := fun x r hne => by
        by_cases q : x = hr
        · rw [q, va_up_self, va_up_self, va_up_ne _ _ hhb, va_up_ne _ _ hne, va_up_ne _ _ hhb, pk_un hne]
          exact ⟨rfl, rfl⟩
        · rw [va_up_ne _ _ q, va_up_ne _ _ q]
          by_cases q2 : x = b
          · rw [q2, va_up_self, va_up_self, va_up_ne _ _ hne, pk_un hne]
            exact ⟨rfl, rfl⟩
          · rw [va_up_ne _ _ q2, va_up_ne _ _ q2]
            exact ⟨rfl, rfl⟩
      have hV := hV5
      refine lv_goto (tgt := 119) hx hb dX0_putIn_103 (by decide) ?_
      refine lv_iinc (v := jz_row j) (lv' := [(3, .int (jz_row j)), (0, .ref o), (1, .ref b), (2, .int (nI (p1.length + 1)))]) hx hb dX0_putIn_119 hl (k := 3) rfl (jz_row_pred j) (by decide) rfl (fun ls hl => ?_)
      refine lv_goto (tgt := 21) hx hb dX0_putIn_122 (by decide) ?_
      refine ih _ (u1.1, u1.2.1, (va_up (va_up u1.2.2.1 b (va_up (u1.2.2.1 b) j (u1.2.2.1 hr j))) hr (va_up (va_up u1.2.2.1 b (va_up (u1.2.2.1 b) j (u1.2.2.1 hr j)) hr) j (some b))), (va_up (va_up u1.2.2.2 b (upd (u1.2.2.2 b) j x1)) hr (upd (va_up u1.2.2.2 b (upd (u1.2.2.2 b) j x1) hr) j x2))) pre (s1 ++ p2) hr _ _ ls (by omega) hV eS eI hfr (fun r hr4 hjr => ?_) (fun r hjr => ?_) ens1 (by omega) hpl hw (lv_sub hl [1, 2, 3, 0] rfl)
      · rcases Nat.eq_or_lt_of_le hjr with q | q
        · subst q
          rw [enew]
          exact jz_insRow hoj hh hjb hlow hhb hpa hpb ex1 ex2
        · exact jr_ok_congr (hnew r hr4 q) (fun x _ _ => hsame x r (fun z => absurd q (by omega)))
      · exact jr_ok_congr (hold r (by omega)) (fun x _ _ => hsame x r (fun z => absurd hjr (by omega)))
end PI
set_option maxHeartbeats 4000000 in
set_option maxRecDepth 100000 in
theorem c_putIn (l : Launch) (D : va_G) (ct : Nat → ClassId) {L : List Nat} {f0 : Nat → va_E} {k : jK} {u : jS} {PS ns p1 p2 : List Nat} {cnt ps : Int32} {o hd pa hr b : Nat} (hV0 : jo_V (ct 0) (ct 1) L f0 k u PS) (hN : jo_N k PS o) (hoL : o ∈ L) (ens0 : ns = hd :: (p1 ++ p2)) (hPS : ∀ x ∈ ns, x ∈ PS) (hns : ns.length < 2 ^ 30) (hrow : ∀ r, r < 4 → jr_ok k.2.2.1 u.2.2.1 u.2.2.2 r ns) (hht : k.2.2.1 hd = 4) (hh1 : ∀ x ∈ ns, 1 ≤ k.2.2.1 x) (hA1 : ∀ x ∈ p1, jz_ah (u.1 x) (k.2.1 x) (u.1 b) (k.2.1 b)) (hA2 : ∀ x ∈ p2, ¬ jz_ah (u.1 x) (k.2.1 x) (u.1 b) (k.2.1 b)) (hbP : b ∈ PS) (hb4 : k.2.2.1 b ≤ 4) (hbn : b ∉ ns) (hnd : ns.Nodup) :
    jz_M l D ct yX0_putIn cX0_putIn 4 none ({ frames := 2, cells := 0, slots := 0, locals := 48 } : Room) [.ref o, .ref b] L (va_up f0 o (jo_eO hd pa cnt hr ps)) (fun v L' f' => v = none ∧ L' = L ∧ ∃ (f1 : Nat → va_E) (u1 : jS) (hr' : Nat) (ps' : Int32), f' = va_up f1 o (jo_eO hd pa (cnt + 1) hr' ps') ∧ jo_V (ct 0) (ct 1) L f1 k u1 PS ∧ u1.1 = u.1 ∧ u1.2.1 = u.2.1 ∧ (∀ q, jo_N k PS q → f1 q = f0 q) ∧ ∀ r, r < 4 → jr_ok k.2.2.1 u1.2.2.1 u1.2.2.2 r (hd :: (p1 ++ b :: p2))) := by
  refine jx_enter (by decide) (Nat.le_of_ble_eq_true rfl) ?_
  intro p e s m below meth c C hw ls hl
  obtain ⟨hx, hb, hrt, hlk, hnm, hml, hown, hts, hG⟩ := C
  have hl : lv_has ls 4 [(0, .ref o), (1, .ref b)] := hl
  refine lv_aload_n hx hb dX0_putIn_0 rfl (lv_at hl 0 rfl) ?_
  refine lv_aload_n hx hb dX0_putIn_1 rfl (lv_at hl 1 rfl) ?_
  refine gf_O_67 hx hb hown hts hG hw ((hV0.up (e := jo_eO hd pa cnt hr ps) hN).aL hbP) ((hV0.up (e := jo_eO hd pa cnt hr ps) hN).a hbP) dX0_putIn_2 ?_
  refine lv_aload_n hx hb dX0_putIn_5 rfl (lv_at hl 1 rfl) ?_
  refine gf_O_77 hx hb hown hts hG hw ((hV0.up (e := jo_eO hd pa cnt hr ps) hN).aL hbP) ((hV0.up (e := jo_eO hd pa cnt hr ps) hN).a hbP) dX0_putIn_6 ?_
  refine cl_O_80 (As := [.long (u.1 b), .int (k.2.1 b)]) (rest := []) hx hb hml hown hts hG hw (c_countAheadOf l D ct hV0 hN hoL ens0 hPS hns hrow hht hh1 hA1 hA2) rfl ⟨Nat.le_of_ble_eq_true rfl, Nat.le_of_ble_eq_true rfl⟩ hoL (va_up_self _ _ _) hl.1 rfl (Nat.le_of_ble_eq_true rfl) dX0_putIn_9 ⟨Nat.le_of_ble_eq_true rfl, Nat.le_of_ble_eq_true rfl⟩ (fun v L' f' H1 locs1 hp hw hcf => ?_)
  obtain ⟨rfl, eL, hr, ps, ef⟩ := hp
  rw [eL, ef] at hw
  refine lv_iconst (v := nI 1) hx hb dX0_putIn_12 (by decide) ?_
  refine lv_iadd hx hb dX0_putIn_13 ?_
  rw [nI_add]
  refine lv_istore_n (lv' := [(2, .int (nI (p1.length + 1))), (0, .ref o), (1, .ref b)]) hx hb dX0_putIn_14 rfl hl (by decide) rfl (fun ls hl => ?_)
  refine lv_aload_n hx hb dX0_putIn_15 rfl (lv_at hl 1 rfl) ?_
  refine cl_O_43 (As := []) (rest := []) hx hb hml hown hts hG hw (c_goToHead l D ct hoL (va_up_self _ _ _)) rfl ⟨Nat.le_of_ble_eq_true rfl, Nat.le_of_ble_eq_true rfl⟩ hoL (va_up_self _ _ _) hl.1 rfl (Nat.le_of_ble_eq_true rfl) dX0_putIn_16 ⟨Nat.le_of_ble_eq_true rfl, Nat.le_of_ble_eq_true rfl⟩ (fun v L' f' H1 locs1 hp hw hcf => ?_)
  obtain ⟨rfl, eL, ef⟩ := hp
  rw [eL, ef, bx_uu] at hw
  refine lv_iconst (v := nI 3) hx hb dX0_putIn_19 (by decide) ?_
  refine lv_istore_n (lv' := [(3, .int (nI 3)), (2, .int (nI (p1.length + 1))), (0, .ref o), (1, .ref b)]) hx hb dX0_putIn_20 rfl hl (by decide) rfl (fun ls hl => ?_)
  refine lp_putIn (f0 := f0) (u := u) hx hb hml hown hts hG ⟨Nat.le_of_ble_eq_true rfl, Nat.le_of_ble_eq_true rfl⟩ ⟨Nat.le_of_ble_eq_true rfl, Nat.le_of_ble_eq_true rfl⟩ hN hoL ens0 hPS hns hbP hb4 hbn hnd (fun f1 u1 hr ps H locs ls hV eS eI hfr hnew hw hl => ?_) 4 f0 u [] (p1 ++ p2) hd _ _ ls (Nat.le_refl _) hV0 rfl rfl (fun _ _ => rfl) (fun r h1 h2 => absurd h1 (Nat.not_lt.mpr h2)) (fun r h => hrow r h) ens0 (by rw [hht]; exact Nat.le_refl _) (Nat.succ_pos _) hw (lv_sub hl [2, 3, 1, 0] rfl)
  refine lv_aload_n hx hb dX0_putIn_125 rfl (lv_at hl 0 rfl) ?_
  refine lv_dup hx hb dX0_putIn_126 rfl ?_
  refine gf_O_39 hx hb hown hts hG hw hoL (va_up_self _ _ _) dX0_putIn_127 ?_
  refine lv_iconst (v := 1) hx hb dX0_putIn_130 (by decide) ?_
  refine lv_iadd hx hb dX0_putIn_131 ?_
  refine pf_O_39 hx hb hown hts hG hw hoL (va_up_self _ _ _) dX0_putIn_132 (fun H locs hw => ?_)
  rw [bx_uu] at hw
  exact jx_vret hx hb hrt hlk hw (Nat.le_refl _) (Nat.le_refl _) dX0_putIn_135 ⟨rfl, rfl, f1, u1, hr, ps, rfl, hV, eS, eI, hfr, fun r h => hnew r h (Nat.zero_le _)⟩
