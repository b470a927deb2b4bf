set_option maxHeartbeats 4000000 in
set_option maxRecDepth 100000 in
theorem c_placeInit (l : Launch) (D : va_G) (ct : Nat → ClassId) {L : List Nat} {f : Nat → va_E} {a : Nat} {mv hv : Int32} (haL : a ∈ L) (hfa : f a = .inr (2, [.int 0, .int 0, .int 0, .null, .null, .long 0, .int 0])) :
    jz_M l D ct yX1_init cX1_init 3 none ({ frames := 1, cells := 2, slots := 8, locals := 20 } : Room) [.ref a, .int mv, .int hv] L f (fun v L' f' => v = none ∧ ∃ n r : Nat, n ∉ L ∧ r ∉ L ∧ n ≠ r ∧ L' = (L ++ [n]) ++ [r] ∧ f' a = .inr (2, [.int mv, .int (jz_word mv), .int hv, .ref n, .ref r, .long 0, .int 0]) ∧ f' n = jo_eN (ct 1) (fun _ => none) ∧ f' r = jo_eF (ct 0) (fun _ => 0) ∧ ∀ q, q ≠ a → q ≠ n → q ≠ r → f' q = f q) := by
  refine jx_enter (by decide) (Nat.le_of_ble_eq_true rfl) ?_
  intro p e s m below meth c C hw ls hl
  obtain ⟨hx, hb, hrt, hlk, hnm, hml, hown, hts, hG⟩ := C
  have hl : lv_has ls 3 [(0, .ref a), (1, .int mv), (2, .int hv)] := hl
  refine lv_aload_n hx hb dX1_init_0 rfl (lv_at hl 0 rfl) ?_
  refine W.objInit hx hb hown (hts _ (by decide +kernel)) (hts _ (by decide +kernel)) (hts _ jz_objc) rfl (by rw [hml]; exact hl.1) rfl dX1_init_1 (Nat.le_of_ble_eq_true rfl) (Nat.le_of_ble_eq_true rfl) ?_
  refine W.eq (g2 := F0 m 4 ls []) rfl ?_
  refine lv_aload_n hx hb dX1_init_4 rfl (lv_at hl 0 rfl) ?_
  refine lv_iload_n hx hb dX1_init_5 rfl (lv_at hl 1 rfl) ?_
  refine pf_P_9 hx hb hown hts hG hw haL hfa hnm dX1_init_6 (fun H locs hw => ?_)
  obtain ⟨f1, hf1⟩ : ∃ z, z = va_up f a (.inr (2, [.int mv, .int 0, .int 0, .null, .null, .long 0, .int 0])) := ⟨_, rfl⟩
  have hw : jz_w D (va_A (va_pl L f) s.heap.size) s.heap L f1 H locs := by rw [hf1]; exact hw
  have hfa : f1 a = .inr (2, [.int mv, .int 0, .int 0, .null, .null, .long 0, .int 0]) := by rw [hf1, va_up_self]
  refine lv_aload_n hx hb dX1_init_9 rfl (lv_at hl 0 rfl) ?_
  refine lv_iload_n hx hb dX1_init_10 rfl (lv_at hl 1 rfl) ?_
  refine cl_P_15 (As := [.int mv]) (rest := [.ref a]) hx hb hml hown hts hG hw (c_wordOf l D ct L f1 mv) rfl ⟨Nat.le_of_ble_eq_true rfl, Nat.le_of_ble_eq_true rfl⟩ hl.1 rfl (Nat.le_of_ble_eq_true rfl) dX1_init_11 ⟨Nat.le_of_ble_eq_true rfl, Nat.le_of_ble_eq_true rfl⟩ (fun v L' f' H1 locs1 hp hw hcf => ?_)
  obtain ⟨rfl, eL, ef⟩ := hp
  rw [eL, ef] at hw
  generalize H1 = H at hw ⊢
  generalize locs1 = locs at hw ⊢
  refine pf_P_19 hx hb hown hts hG hw haL hfa hnm dX1_init_14 (fun H locs hw => ?_)
  obtain ⟨f2, hf2⟩ : ∃ z, z = va_up f1 a (.inr (2, [.int mv, .int (jz_word mv), .int 0, .null, .null, .long 0, .int 0])) := ⟨_, rfl⟩
  have hw : jz_w D (va_A (va_pl L f) s.heap.size) s.heap L f2 H locs := by rw [hf2]; exact hw
  have hfa : f2 a = .inr (2, [.int mv, .int (jz_word mv), .int 0, .null, .null, .long 0, .int 0]) := by rw [hf2, va_up_self]
  refine lv_aload_n hx hb dX1_init_17 rfl (lv_at hl 0 rfl) ?_
  refine lv_iload_n hx hb dX1_init_18 rfl (lv_at hl 2 rfl) ?_
  refine pf_P_22 hx hb hown hts hG hw haL hfa hnm dX1_init_19 (fun H locs hw => ?_)
  obtain ⟨f3, hf3⟩ : ∃ z, z = va_up f2 a (.inr (2, [.int mv, .int (jz_word mv), .int hv, .null, .null, .long 0, .int 0])) := ⟨_, rfl⟩
  have hw : jz_w D (va_A (va_pl L f) s.heap.size) s.heap L f3 H locs := by rw [hf3]; exact hw
  have hfa : f3 a = .inr (2, [.int mv, .int (jz_word mv), .int hv, .null, .null, .long 0, .int 0]) := by rw [hf3, va_up_self]
  refine lv_aload_n hx hb dX1_init_22 rfl (lv_at hl 0 rfl) ?_
  refine lv_iconst (v := nI 4) hx hb dX1_init_23 (by decide) ?_
  refine jx_newq hx hb hts hown (by decide +kernel) (by decide +kernel) hG hw 1 rfl (N' := 4) (nI_pos (by decide)) (nI_clamp (by decide)) (by decide) (Nat.le_of_ble_eq_true rfl) (Nat.le_of_ble_eq_true rfl) dX1_init_24 (fun n H hnL hw => ?_)
  have han : a ≠ n := fun q => hnL (q ▸ haL)
  obtain ⟨g1, hg1⟩ : ∃ z, z = va_up f3 n (jo_eN (ct 1) (fun _ => none)) := ⟨_, rfl⟩
  have hw : jz_w D (va_A (va_pl L f) s.heap.size) s.heap (L ++ [n]) g1 H locs := by rw [hg1]; exact hw
  have hfa : g1 a = .inr (2, [.int mv, .int (jz_word mv), .int hv, .null, .null, .long 0, .int 0]) := by rw [hg1, va_up_ne _ _ han]; exact hfa
  refine pf_P_25 hx hb hown hts hG hw (List.mem_append_left _ haL) hfa hnm dX1_init_27 (fun H locs hw => ?_)
  obtain ⟨f4, hf4⟩ : ∃ z, z = va_up g1 a (.inr (2, [.int mv, .int (jz_word mv), .int hv, .ref n, .null, .long 0, .int 0])) := ⟨_, rfl⟩
  have hw : jz_w D (va_A (va_pl L f) s.heap.size) s.heap (L ++ [n]) f4 H locs := by rw [hf4]; exact hw
  have hfa : f4 a = .inr (2, [.int mv, .int (jz_word mv), .int hv, .ref n, .null, .long 0, .int 0]) := by rw [hf4, va_up_self]
  refine lv_aload_n hx hb dX1_init_30 rfl (lv_at hl 0 rfl) ?_
  refine lv_iconst (v := nI 4) hx hb dX1_init_31 (by decide) ?_
  refine jx_newa (a0 := (4, .inl (fun _ => 0))) hx hb hts (by decide +kernel) (ty := .int) rfl hG hw 0 rfl (N' := 4) (fun cA => rfl) (nI_pos (by decide)) (nI_clamp (by decide)) (by decide) (Nat.le_of_ble_eq_true rfl) (Nat.le_of_ble_eq_true rfl) dX1_init_32 (fun r H hrL hw => ?_)
  have har : a ≠ r := fun q => hrL (q ▸ List.mem_append_left _ haL)
  have hnr : n ≠ r := fun q => hrL (q ▸ List.mem_append_right _ (List.mem_singleton.mpr rfl))
  obtain ⟨g2, hg2⟩ : ∃ z, z = va_up f4 r (jo_eF (ct 0) (fun _ => 0)) := ⟨_, rfl⟩
  have hw : jz_w D (va_A (va_pl L f) s.heap.size) s.heap ((L ++ [n]) ++ [r]) g2 H locs := by rw [hg2]; exact hw
  have hfa : g2 a = .inr (2, [.int mv, .int (jz_word mv), .int hv, .ref n, .null, .long 0, .int 0]) := by rw [hg2, va_up_ne _ _ har]; exact hfa
  refine pf_P_29 hx hb hown hts hG hw (List.mem_append_left _ (List.mem_append_left _ haL)) hfa hnm dX1_init_34 (fun H locs hw => ?_)
  obtain ⟨f5, hf5⟩ : ∃ z, z = va_up g2 a (.inr (2, [.int mv, .int (jz_word mv), .int hv, .ref n, .ref r, .long 0, .int 0])) := ⟨_, rfl⟩
  have hw : jz_w D (va_A (va_pl L f) s.heap.size) s.heap ((L ++ [n]) ++ [r]) f5 H locs := by rw [hf5]; exact hw
  have hfa : f5 a = .inr (2, [.int mv, .int (jz_word mv), .int hv, .ref n, .ref r, .long 0, .int 0]) := by rw [hf5, va_up_self]
  refine jx_vret hx hb hrt hlk hw (Nat.le_refl _) (Nat.le_refl _) dX1_init_37 ⟨rfl, n, r, hnL, fun q => hrL (List.mem_append_left _ q), hnr, rfl, hfa, ?_, ?_, fun q h1 h2 h3 => ?_⟩
  · rw [hf5, va_up_ne _ _ han.symm, hg2, va_up_ne _ _ hnr, hf4, va_up_ne _ _ han.symm, hg1, va_up_self]
  · rw [hf5, va_up_ne _ _ har.symm, hg2, va_up_self]
  · rw [hf5, va_up_ne _ _ h1, hg2, va_up_ne _ _ h3, hf4, va_up_ne _ _ h1, hg1, va_up_ne _ _ h2, hf3, va_up_ne _ _ h1, hf2, va_up_ne _ _ h1, hf1, va_up_ne _ _ h1]
theorem jz_uu2 {f : Nat → va_E} {x y : Nat} {e1 e2 e3 : va_E} (h : x ≠ y) : va_up (va_up (va_up f x e1) y e2) x e3 = va_up (va_up f x e3) y e2 := by
  rw [jz_comm h, bx_uu]
section MB
variable {p : Program} {l : Launch} {e : Env} {R : Room} {s : State} {m : MethodId} {args : Array Value} {below : List Frame} {meth : Method} {c : Code} {H : Heap} {locs : List Loc} {cells slots : Nat} {Q : State → Prop} {D : va_G} {ct : Nat → ClassId} {A : Nat → Prop} {H0 : Heap} {L : List Nat}
variable {f : Nat → va_E} {a n r : Nat} {v0 v1 v2 v5 v6 : Value}
set_option maxHeartbeats 4000000 in
set_option maxRecDepth 100000 in
theorem lp_makeBare (hx : p.tables.exec = Jvm.exec) (hb : c.code = cX0_makeBare) (hown : s.vm.findClass RO = some m.cls) (hts : ∀ w ∈ jz_TT, w.before args s = true) (hG : jz_G D ct s) (haL : a ∈ L) (hnL : n ∈ L) (hrL : r ∈ L) (hfa : f a = .inr (2, [v0, v1, v2, .ref n, .ref r, v5, v6])) (han : a ≠ n) (har : a ≠ r) (hnr : n ≠ r)
    (kk : ∀ (g : Nat → Option Nat) (h : Nat → Int32) (H : Heap) (locs : List Loc) (ls : Array Slot), (∀ x, x < 4 → g x = none ∧ h x = nI 1) → jz_w D A H0 L (va_up (va_up f n (jo_eN (ct 1) g)) r (jo_eF (ct 0) h)) H locs → W p l e R s m args below meth c H locs cells slots Q (F0 m 27 ls [])) :
    ∀ (t i : Nat) (g : Nat → Option Nat) (h : Nat → Int32) (H : Heap) (locs : List Loc) (ls : Array Slot), 4 - i < t → i ≤ 4 → (∀ x, x < i → g x = none ∧ h x = nI 1) → jz_w D A H0 L (va_up (va_up f n (jo_eN (ct 1) g)) r (jo_eF (ct 0) h)) H locs → lv_has ls 2 [(0, .ref a), (1, .int (nI i))] → W p l e R s m args below meth c H locs cells slots Q (F0 m 2 ls []) := by
  intro t
  induction t with
  | zero => intro i g h H locs ls ht; exact absurd ht (Nat.not_lt_zero _)
  | succ t ih =>
    intro i g h H locs ls ht hi hg hw hl
    refine lv_iload_n hx hb dX0_makeBare_2 rfl (lv_at hl 1 rfl) ?_
    refine lv_iconst (v := nI 4) hx hb dX0_makeBare_3 (by decide) ?_
    refine lv_icmp_ge (tgt := 27) hx hb dX0_makeBare_4 (by decide) (fun hc => ?_) (fun hc => ?_)
    · have h4 : i = 4 := by
        rcases Nat.lt_or_ge i 4 with q | q
        · exact absurd (nI_lt q (by decide)) (Int32.not_lt.mpr hc)
        · omega
      subst h4
      exact kk g h H locs ls hg hw
    · have h4 : i < 4 := by
        rcases Nat.lt_or_ge i 4 with q | q
        · exact q
        · exact absurd (nI_le q (by omega)) hc
      refine lv_aload_n hx hb dX0_makeBare_7 rfl (lv_at hl 0 rfl) ?_
      refine gf_O_49 hx hb hown hts hG hw haL (by rw [va_up_ne _ _ har, va_up_ne _ _ han]; exact hfa) dX0_makeBare_8 ?_
      refine lv_iload_n hx hb dX0_makeBare_11 rfl (lv_at hl 1 rfl) ?_
      refine lv_null hx hb dX0_makeBare_12 ?_
      refine jx_astqI (v := none) (g := g) hx hb hG hw hnL 1 2 (by rw [va_up_ne _ _ hnr, va_up_self]) rfl (fun x q => by cases q) rfl h4 (by decide) dX0_makeBare_13 (fun H locs hw => ?_)
      rw [jz_uu2 hnr] at hw
      refine lv_aload_n hx hb dX0_makeBare_14 rfl (lv_at hl 0 rfl) ?_
      refine gf_O_59 hx hb hown hts hG hw haL (by rw [va_up_ne _ _ har, va_up_ne _ _ han]; exact hfa) dX0_makeBare_15 ?_
      refine lv_iload_n hx hb dX0_makeBare_18 rfl (lv_at hl 1 rfl) ?_
      refine lv_iconst (v := nI 1) hx hb dX0_makeBare_19 (by decide) ?_
      refine jx_iastI (g := h) hx hb hG hw hrL 0 (va_up_self _ _ _) rfl h4 (by decide) dX0_makeBare_20 (fun H locs hw => ?_)
      rw [bx_uu] at hw
      refine lv_iinc (v := nI (i + 1)) (lv' := [(1, .int (nI (i + 1))), (0, .ref a)]) hx hb dX0_makeBare_21 hl (k := 1) rfl (nI_succ i).symm (by decide) rfl (fun ls hl => ?_)
      refine lv_goto (tgt := 2) hx hb dX0_makeBare_24 (by decide) ?_
      refine ih (i + 1) (va_up g i none) (upd h i (nI 1)) H locs ls (by omega) (by omega) (fun x hx => ?_) hw (lv_sub hl [1, 0] rfl)
      by_cases q : x = i
      · rw [q, va_up_self, pk_us]; exact ⟨rfl, rfl⟩
      · rw [va_up_ne _ _ q, pk_un q]; exact hg x (by omega)
end MB
set_option maxHeartbeats 4000000 in
set_option maxRecDepth 100000 in
theorem c_makeBare (l : Launch) (D : va_G) (ct : Nat → ClassId) {L : List Nat} {f : Nat → va_E} {a n r : Nat} {v0 v1 v2 v5 v6 : Value} {g0 : Nat → Option Nat} {h0 : Nat → Int32} (haL : a ∈ L) (hnL : n ∈ L) (hrL : r ∈ L) (hfa : f a = .inr (2, [v0, v1, v2, .ref n, .ref r, v5, v6])) (hfn : f n = jo_eN (ct 1) g0) (hfr : f r = jo_eF (ct 0) h0) :
    jz_M l D ct yX0_makeBare cX0_makeBare 2 none ({ frames := 0, cells := 0, slots := 0, locals := 0 } : Room) [.ref a] L f (fun v L' f' => v = none ∧ L' = L ∧ ∃ (g : Nat → Option Nat) (h : Nat → Int32), (∀ x, x < 4 → g x = none ∧ h x = nI 1) ∧ f' = va_up (va_up f n (jo_eN (ct 1) g)) r (jo_eF (ct 0) h)) := by
  refine jx_enter (by decide) (Nat.le_of_ble_eq_true rfl) ?_
  intro p e s m below meth c C hw ls hl
  obtain ⟨hx, hb, hrt, hlk, hnm, hml, hown, hts, hG⟩ := C
  have hl : lv_has ls 2 [(0, .ref a)] := hl
  have han : a ≠ n := jo_ne hfa hfn (fun e => by cases e)
  have har : a ≠ r := jo_ne hfa hfr (fun e => by cases e)
  have hnr : n ≠ r := jo_ne hfn hfr (fun e => by injection e with e; injection e with _ e; injection e with _ e; cases e)
  have ef : va_up (va_up f n (jo_eN (ct 1) g0)) r (jo_eF (ct 0) h0) = f := by
    funext x
    by_cases q : x = r
    · rw [q, va_up_self, hfr]
    · rw [va_up_ne _ _ q]
      by_cases q2 : x = n
      · rw [q2, va_up_self, hfn]
      · rw [va_up_ne _ _ q2]
  have hw0 : jz_w D (va_A (va_pl L f) s.heap.size) s.heap L (va_up (va_up f n (jo_eN (ct 1) g0)) r (jo_eF (ct 0) h0)) s.heap [] := by rw [ef]; exact hw
  refine lv_iconst (v := nI 0) hx hb dX0_makeBare_0 (by decide) ?_
  refine lv_istore_n (lv' := [(1, .int (nI 0)), (0, .ref a)]) hx hb dX0_makeBare_1 rfl hl (by decide) rfl (fun ls hl => ?_)
  refine lp_makeBare hx hb hown hts hG haL hnL hrL hfa han har hnr (fun g h H locs ls hg hw => ?_) 5 0 g0 h0 _ _ ls (by decide) (by decide) (fun x q => absurd q (Nat.not_lt_zero _)) hw0 (lv_sub hl [1, 0] rfl)
  exact jx_vret hx hb hrt hlk hw (Nat.zero_le _) (Nat.zero_le _) dX0_makeBare_27 ⟨rfl, rfl, g, h, hg, rfl⟩
set_option maxHeartbeats 4000000 in
set_option maxRecDepth 100000 in
theorem c_placeOf (l : Launch) (D : va_G) (ct : Nat → ClassId) {L : List Nat} {f : Nat → va_E} {k : jK} {u : jS} {PS : List Nat} {cnt ps : Int32} {o hd pa hr i : Nat} {S : Nat → Option Nat} (hV : jo_V (ct 0) (ct 1) L f k u PS) (hoL : o ∈ L) (hfo : f o = jo_eO hd pa cnt hr ps) (hpL : pa ∈ L) (hfp : f pa = jo_eT (ct 1) S) (hi : i < 1000) (hS : ∀ a, S i = some a → a ∈ PS) :
    jz_M l D ct yX0_placeOf cX0_placeOf 3 (some (.object "JumpOrder$Place")) ({ frames := 1, cells := 0, slots := 0, locals := 20 } : Room) [.ref o, .int (nI i)] L f (fun v L' f' => ((∃ a, S i = some a ∧ ¬ u.2.1 a = 0 ∧ v = some (.ref a)) ∨ ((∀ a, S i = some a → u.2.1 a = 0) ∧ v = some .null)) ∧ L' = L ∧ f' = f) := by
  refine jx_enter (by decide) (Nat.le_of_ble_eq_true rfl) ?_
  intro p e s m below meth c C hw ls hl
  obtain ⟨hx, hb, hrt, hlk, hnm, hml, hown, hts, hG⟩ := C
  have hl : lv_has ls 3 [(0, .ref o), (1, .int (nI i))] := hl
  refine lv_iload_n hx hb dX0_placeOf_0 rfl (lv_at hl 1 rfl) ?_
  refine cl_O_31 (As := [.int (nI i)]) (rest := []) hx hb hml hown hts hG hw (c_isMember l D ct L f (nI i)) rfl ⟨Nat.le_of_ble_eq_true rfl, Nat.le_of_ble_eq_true rfl⟩ hl.1 rfl (Nat.le_of_ble_eq_true rfl) dX0_placeOf_1 ⟨Nat.le_of_ble_eq_true rfl, Nat.le_of_ble_eq_true rfl⟩ (fun v L' f' H1 locs1 hp hw hcf => ?_)
  obtain ⟨hv, eL, ef⟩ := hp
  rw [eL, ef] at hw
  have hv : v = some (.int 1) := hv.elim (fun q => q.2) (fun q => absurd ⟨nI_pos' (by omega), nI_lt hi (by decide)⟩ q.1)
  subst hv
  refine lv_if_eq (tgt := 16) hx hb dX0_placeOf_4 (by decide) (fun h => absurd h (by decide)) (fun _ => ?_)
  refine lv_aload_n hx hb dX0_placeOf_7 rfl (lv_at hl 0 rfl) ?_
  refine gf_O_20 hx hb hown hts hG hw hoL hfo dX0_placeOf_8 ?_
  refine lv_iload_n hx hb dX0_placeOf_11 rfl (lv_at hl 1 rfl) ?_
  refine jx_aldqI hx hb hG hw hpL 1 hfp rfl hi (by decide) dX0_placeOf_12 ?_
  refine lv_goto (tgt := 17) hx hb dX0_placeOf_13 (by decide) ?_
  refine jx_astore_nq (lv' := [(2, (va_rf (S i))), (0, .ref o), (1, .int (nI i))]) hx hb dX0_placeOf_17 rfl hl (by decide) rfl (fun ls hl => ?_)
  refine jx_aload_nq hx hb dX0_placeOf_18 rfl (lv_at hl 0 rfl) ?_
  refine jx_ifnullq (tgt := 33) hx hb dX0_placeOf_19 (by decide) (fun hnone => ?_) (fun a hsa => ?_)
  · refine lv_null hx hb dX0_placeOf_33 ?_
    exact jx_aret hx hb hrt (Or.inl rfl) hlk hw (Nat.le_refl _) (Nat.le_refl _) dX0_placeOf_34 ⟨Or.inr ⟨fun a q => (by rw [hnone] at q; cases q), rfl⟩, rfl, rfl⟩
  · have haP := hS a hsa
    have hl : lv_has ls 3 [(2, .ref a), (0, .ref o), (1, .int (nI i))] := by rw [hsa] at hl; exact hl
    refine lv_aload_n hx hb dX0_placeOf_22 rfl (lv_at hl 0 rfl) ?_
    refine gf_O_35 hx hb hown hts hG hw (hV.aL haP) (hV.a haP) dX0_placeOf_23 ?_
    refine lv_if_eq (tgt := 33) hx hb dX0_placeOf_26 (by decide) (fun hc => ?_) (fun hc => ?_)
    · refine lv_null hx hb dX0_placeOf_33 ?_
      exact jx_aret hx hb hrt (Or.inl rfl) hlk hw (Nat.le_refl _) (Nat.le_refl _) dX0_placeOf_34 ⟨Or.inr ⟨fun b q => (by rw [hsa] at q; cases q; exact hc), rfl⟩, rfl, rfl⟩
    · refine lv_aload_n hx hb dX0_placeOf_29 rfl (lv_at hl 0 rfl) ?_
      refine lv_goto (tgt := 34) hx hb dX0_placeOf_30 (by decide) ?_
      exact jx_aret hx hb hrt (Or.inr ⟨a, rfl⟩) hlk hw (Nat.le_refl _) (Nat.le_refl _) dX0_placeOf_34 ⟨Or.inl ⟨a, hsa, hc, rfl⟩, rfl, rfl⟩
section PR
variable {p : Program} {l : Launch} {e : Env} {R : Room} {s : State} {m : MethodId} {args : Array Value} {below : List Frame} {meth : Method} {c : Code} {H : Heap} {locs : List Loc} {cells slots : Nat} {Q : State → Prop} {D : va_G} {ct : Nat → ClassId} {A : Nat → Prop} {H0 : Heap} {L : List Nat}
variable {f0 : Nat → va_E} {k : jK} {u : jS} {PS ns : List Nat} {cnt : Int32} {o hd pa i : Nat}
set_option maxHeartbeats 4000000 in
set_option maxRecDepth 100000 in
theorem lp_placeOfRank (hx : p.tables.exec = Jvm.exec) (hb : c.code = cX0_placeOfRank) (hml : c.maxLocals = 3) (hown : s.vm.findClass RO = some m.cls) (hts : ∀ w ∈ jz_TT, w.before args s = true) (hG : jz_G D ct s) (hcs : cells ≤ R.cells ∧ slots ≤ R.slots) (hR : 0 + 1 ≤ R.frames ∧ 8 + (4 + 11) + 0 ≤ R.locals) (hV0 : jo_V (ct 0) (ct 1) L f0 k u PS) (hN : jo_N k PS o) (hoL : o ∈ L) (hPS : ∀ x ∈ ns, x ∈ PS) (hns : ns.length < 2 ^ 30) (hrow : ∀ r, r < 4 → jr_ok k.2.2.1 u.2.2.1 u.2.2.2 r ns) (hh1 : ∀ x ∈ ns, 1 ≤ k.2.2.1 x) (hi : i + 1 ≤ ns.length)
    (kk : ∀ (pre suf : List Nat) (hr : Nat) (H : Heap) (locs : List Loc) (ls : Array Slot), ns = pre ++ hr :: suf → pre.length = i → jz_w D A H0 L (va_up f0 o (jo_eO hd pa cnt hr (nI pre.length))) H locs → lv_has ls 3 [(0, .ref o)] → W p l e R s m args below meth c H locs cells slots Q (F0 m 38 ls [])) :
    ∀ (j : Nat) (pre suf : List Nat) (hr : Nat) (H : Heap) (locs : List Loc) (ls : Array Slot), j ≤ 4 → ns = pre ++ hr :: suf → j ≤ k.2.2.1 hr → pre.length < i + 1 → (j = 0 → pre.length = i) → jz_w D A H0 L (va_up f0 o (jo_eO hd pa cnt hr (nI pre.length))) H locs → lv_has ls 3 [(0, .ref o), (1, .int (nI i)), (2, .int (jz_row j))] → W p l e R s m args below meth c H locs cells slots Q (F0 m 20 ls []) := by
  intro j
  induction j with
  | zero =>
    intro pre suf hr H locs ls _ ens hh hpl h0 hw hl
    refine lv_iload_n hx hb dX0_placeOfRank_20 rfl (lv_at hl 2 rfl) ?_
    refine lv_if_lt (tgt := 38) hx hb dX0_placeOfRank_21 (by decide) (fun _ => ?_) (fun h => absurd (by decide) h)
    exact kk pre suf hr H locs ls ens (h0 rfl) hw (lv_sub hl [0] rfl)
  | succ j ih =>
    intro pre suf hr H locs ls hj4 ens hh hpl _ hw hl
    have hr4 : j < 4 := hj4
    have hl : lv_has ls 3 [(0, .ref o), (1, .int (nI i)), (2, .int (nI j))] := hl
    refine lv_iload_n hx hb dX0_placeOfRank_20 rfl (lv_at hl 2 rfl) ?_
    refine lv_if_lt (tgt := 38) hx hb dX0_placeOfRank_21 (by decide) (fun h => absurd h (nI_pos (by omega))) (fun _ => ?_)
    refine lv_aload_n hx hb dX0_placeOfRank_24 rfl (lv_at hl 0 rfl) ?_
    refine lv_iload_n hx hb dX0_placeOfRank_25 rfl (lv_at hl 2 rfl) ?_
    refine lv_iload_n hx hb dX0_placeOfRank_26 rfl (lv_at hl 1 rfl) ?_
    refine lv_iconst (v := nI 1) hx hb dX0_placeOfRank_27 (by decide) ?_
    refine lv_iadd hx hb dX0_placeOfRank_28 ?_
    rw [nI_add]
    refine cl_O_46 (As := [.int (nI j), .int (nI (i + 1))]) (rest := []) hx hb hml hown hts hG hw (c_goAheadOf l D ct hV0 hN hoL hr4 hPS hns hi (hrow j hr4) ens hh hpl) rfl hR hoL (va_up_self _ _ _) hl.1 rfl (Nat.le_of_ble_eq_true rfl) dX0_placeOfRank_29 hcs (fun v L' f' H1 locs1 hp hw hcf => ?_)
    obtain ⟨rfl, eL, pre, suf, hr, ens, ef, hh, hpl, hdst⟩ := hp
    rw [eL, ef] at hw
    refine lv_iinc (v := jz_row j) (lv' := [(2, .int (jz_row j)), (0, .ref o), (1, .int (nI i))]) hx hb dX0_placeOfRank_32 hl (k := 2) rfl (jz_row_pred j) (by decide) rfl (fun ls hl => ?_)
    refine lv_goto (tgt := 20) hx hb dX0_placeOfRank_35 (by decide) ?_
    refine ih pre suf hr _ _ ls (by omega) ens (by omega) hpl (fun h0 => ?_) hw (lv_sub hl [1, 2, 0] rfl)
    subst h0
    have hd1 : jr_dst k.2.2.1 0 suf = 1 := by
      cases suf with
      | nil => rfl
      | cons b t => exact jr_dst_at (hh1 b (by rw [ens]; simp))
    omega
end PR
set_option maxHeartbeats 4000000 in
set_option maxRecDepth 100000 in
theorem c_placeOfRank (l : Launch) (D : va_G) (ct : Nat → ClassId) {L : List Nat} {f0 : Nat → va_E} {k : jK} {u : jS} {PS ns qs : List Nat} {ps x : Int32} {o hd pa hr : Nat} (hV0 : jo_V (ct 0) (ct 1) L f0 k u PS) (hN : jo_N k PS o) (hoL : o ∈ L) (hPS : ∀ x ∈ ns, x ∈ PS) (hns : ns.length < 2 ^ 30) (hrow : ∀ r, r < 4 → jr_ok k.2.2.1 u.2.2.1 u.2.2.2 r ns) (hh1 : ∀ x ∈ ns, 1 ≤ k.2.2.1 x) (ens0 : ns = hd :: qs) (hht : k.2.2.1 hd = 4) :
    jz_M l D ct yX0_placeOfRank cX0_placeOfRank 3 (some (.object "JumpOrder$Place")) ({ frames := 1, cells := 0, slots := 0, locals := 23 } : Room) [.ref o, .int x] L (va_up f0 o (jo_eO hd pa (nI qs.length) hr ps)) (fun v L' f' => L' = L ∧ (∃ (hr' : Nat) (ps' : Int32), f' = va_up f0 o (jo_eO hd pa (nI qs.length) hr' ps')) ∧ ((∃ i a, x = nI i ∧ qs[i]? = some a ∧ v = some (.ref a)) ∨ ((x < 0 ∨ nI qs.length ≤ x) ∧ v = some .null))) := by
  refine jx_enter (by decide) (Nat.le_of_ble_eq_true rfl) ?_
  intro p e s m below meth c C hw ls hl
  obtain ⟨hx, hb, hrt, hlk, hnm, hml, hown, hts, hG⟩ := C
  have hl : lv_has ls 3 [(0, .ref o), (1, .int x)] := hl
  have hql : ns.length = qs.length + 1 := by rw [ens0]; rfl
  refine lv_iload_n hx hb dX0_placeOfRank_0 rfl (lv_at hl 1 rfl) ?_
  refine lv_if_lt (tgt := 12) hx hb dX0_placeOfRank_1 (by decide) (fun hx0 => ?_) (fun hx0 => ?_)
  · refine lv_null hx hb dX0_placeOfRank_12 ?_
    exact jx_aret hx hb hrt (Or.inl rfl) hlk hw (Nat.zero_le _) (Nat.zero_le _) dX0_placeOfRank_13 ⟨rfl, ⟨hr, ps, rfl⟩, Or.inr ⟨Or.inl hx0, rfl⟩⟩
  · refine lv_iload_n hx hb dX0_placeOfRank_4 rfl (lv_at hl 1 rfl) ?_
    refine lv_aload_n hx hb dX0_placeOfRank_5 rfl (lv_at hl 0 rfl) ?_
    refine gf_O_39 hx hb hown hts hG hw hoL (va_up_self _ _ _) dX0_placeOfRank_6 ?_
    refine lv_icmp_lt (tgt := 14) hx hb dX0_placeOfRank_9 (by decide) (fun hc => ?_) (fun hc => ?_)
    · obtain ⟨i, hi, rfl⟩ : ∃ i, i < qs.length ∧ x = nI i := by
        obtain ⟨i, h1, h2⟩ := nI_of hx0
        refine ⟨i, ?_, h2⟩
        rcases Nat.lt_or_ge i qs.length with q | q
        · exact q
        · exact absurd hc (by rw [h2]; exact nI_nlt q h1)
      refine lv_aload_n hx hb dX0_placeOfRank_14 rfl (lv_at hl 0 rfl) ?_
      refine cl_O_43 (As := []) (rest := []) hx hb hml hown hts hG hw (c_goToHead l D ct hoL (va_up_self _ _ _)) rfl ⟨Nat.le_of_ble_eq_true rfl, Nat.le_of_ble_eq_true rfl⟩ hoL (va_up_self _ _ _) hl.1 rfl (Nat.le_of_ble_eq_true rfl) dX0_placeOfRank_15 ⟨Nat.le_of_ble_eq_true rfl, Nat.le_of_ble_eq_true rfl⟩ (fun v L' f' H1 locs1 hp hw hcf => ?_)
      obtain ⟨rfl, eL, ef⟩ := hp
      rw [eL, ef, bx_uu] at hw
      refine lv_iconst (v := nI 3) hx hb dX0_placeOfRank_18 (by decide) ?_
      refine lv_istore_n (lv' := [(2, .int (nI 3)), (0, .ref o), (1, .int (nI i))]) hx hb dX0_placeOfRank_19 rfl hl (by decide) rfl (fun ls hl => ?_)
      refine lp_placeOfRank hx hb hml hown hts hG ⟨Nat.le_of_ble_eq_true rfl, Nat.le_of_ble_eq_true rfl⟩ ⟨Nat.le_of_ble_eq_true rfl, Nat.le_of_ble_eq_true rfl⟩ hV0 hN hoL hPS hns hrow hh1 (by omega) (fun pre suf hr H locs ls ens hpi hw hl => ?_) 4 [] qs hd _ _ ls (Nat.le_refl _) ens0 (by rw [hht]; exact Nat.le_refl _) (Nat.succ_pos _) (fun h => by cases h) hw (lv_sub hl [1, 2, 0] rfl)
      have hhr : hr ∈ PS := hPS _ (by rw [ens]; simp)
      have hh0 : 0 < k.2.2.1 hr := hh1 hr (by rw [ens]; simp)
      obtain ⟨b, t, rfl⟩ : ∃ b t, suf = b :: t := by
        cases suf with
        | nil => exfalso; have := congrArg List.length ens; simp at this; omega
        | cons b t => exact ⟨b, t, rfl⟩
      have hb0 : 0 < k.2.2.1 b := hh1 b (by rw [ens]; simp)
      have e1 := (jr_atE (hrow 0 (by decide)) ens hh0).1
      rw [jr_fst_at hb0] at e1
      have hqi : qs[i]? = some b := by
        have q : (hd :: qs)[i + 1]? = some b := by
          rw [← ens0, ens, List.getElem?_append_right (by omega), show i + 1 - pre.length = 1 by omega]
          rfl
        simpa using q
      refine lv_aload_n hx hb dX0_placeOfRank_38 rfl (lv_at hl 0 rfl) ?_
      refine gf_O_24 hx hb hown hts hG hw hoL (va_up_self _ _ _) dX0_placeOfRank_39 ?_
      refine gf_O_49 hx hb hown hts hG hw ((hV0.up (e := jo_eO hd pa (nI qs.length) hr (nI pre.length)) hN).aL hhr) ((hV0.up (e := jo_eO hd pa (nI qs.length) hr (nI pre.length)) hN).a hhr) dX0_placeOfRank_42 ?_
      refine lv_iconst (v := nI 0) hx hb dX0_placeOfRank_45 (by decide) ?_
      refine jx_aldqI hx hb hG hw ((hV0.up (e := jo_eO hd pa (nI qs.length) hr (nI pre.length)) hN).nL hhr) 1 ((hV0.up (e := jo_eO hd pa (nI qs.length) hr (nI pre.length)) hN).n hhr) rfl (by decide) (by decide) dX0_placeOfRank_46 ?_
      rw [e1]
      exact jx_aret hx hb hrt (Or.inr ⟨b, rfl⟩) hlk hw (Nat.le_refl _) (Nat.le_refl _) dX0_placeOfRank_47 ⟨rfl, ⟨hr, _, rfl⟩, Or.inl ⟨i, b, rfl, hqi, rfl⟩⟩
    · refine lv_null hx hb dX0_placeOfRank_12 ?_
      exact jx_aret hx hb hrt (Or.inl rfl) hlk hw (Nat.zero_le _) (Nat.zero_le _) dX0_placeOfRank_13 ⟨rfl, ⟨hr, ps, rfl⟩, Or.inr ⟨Or.inr (Int32.not_lt.mp hc), rfl⟩⟩
