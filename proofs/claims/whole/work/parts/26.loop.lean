set_option maxHeartbeats 4000000 in
set_option maxRecDepth 100000 in
theorem law_loop {p : Program} {l : Launch} {e : Env} {s : State} {m : MethodId} {below : List Frame} {meth : Method} {c : Code} {b L : Nat} {xs : Nat → Int32} {D : va_G} {ct : Nat → ClassId} (hL : L ≤ 2560) (C0 : lw_At p s m meth c b L xs) (hG : jz_G D ct s) :
    ∀ (d t x y : Nat) (Lx Lm : List Nat) (fx fm : Nat → va_E) (As : jq_S) (H : Heap) (locs : List Loc) (ls : Array Slot), L - 5 * t < d → 5 * t ≤ L → jX t ct x Lx fx As → jM t ct y Lm fm As → (∀ q ∈ Lx, q ∉ Lm) → jz_w D (fun q : Nat => s.heap.size ≤ q) s.heap Lx fx H locs → jz_w D (fun q : Nat => s.heap.size ≤ q) s.heap Lm fm H locs → lv_has ls 4 [(0, .ref b), (1, .ref x), (2, .ref y), (3, .int (nI (5 * t)))] → W p l e room_1 s m #[Value.ref b] below meth c H locs (30 + 3 * t) (17000 + 15 * t) (lw_Z below #[Value.ref b] s) (F0 m 18 ls []) := by
  obtain ⟨hx, hb, hr, hml, hown, hts0, hX0, hbl, hlocks, hgv⟩ := C0
  have hts : ∀ w ∈ jz_TT, w.before #[Value.ref b] s = true := fun w h => hts0 w (List.mem_filter.mp h).1
  have hbA : ¬ (fun q : Nat => s.heap.size ≤ q) b := Nat.not_le.mpr hbl
  intro d
  induction d with
  | zero => intro t x y Lx Lm fx fm As H locs ls hd; exact absurd hd (Nat.not_lt_zero _)
  | succ d ih =>
    intro t x y Lx Lm fx fm As H locs ls hd htL hX hM hdis hwX hwM hl
    refine lv_iload_n hx hb dL_law_18 rfl (lv_at hl 3 rfl) ?_
    refine lv_aload_n hx hb dL_law_19 rfl (lv_at hl 0 rfl) ?_
    refine va_slen hx hb hX0 hbl hbA hwX.2.2.1 dL_law_20 ?_
    refine lv_iconst (v := nI 5) hx hb dL_law_21 (by decide) ?_
    refine lv_isub hx hb dL_law_22 ?_
    refine lv_icmp_gt (tgt := 474) hx hb dL_law_23 (by decide) (fun hc => ?_) (fun hc => ?_)
    · refine lv_iconst (v := 1) hx hb dL_law_474 (by decide) ?_
      refine va_forget (fun q hq => hwX.2.2.1.2.2 q hq) ?_
      refine W.widen (k := 600000) (n := 7302250) (by omega) (by omega) ?_
      exact lw_ret hx hb hr hlocks dL_law_475
    · have h5 : 5 * t + 5 ≤ L := by
        rcases Nat.lt_or_ge L (5 * t + 5) with q | q
        · refine absurd ?_ hc
          rcases Nat.lt_or_ge L 5 with z | z
          · exact Int32.lt_of_lt_of_le (pk_sneg (by decide) z) (nI_pos' (by omega))
          · show nI L - nI 5 < nI (5 * t)
            rw [pk_sub z]
            exact nI_lt (by omega) (by omega)
        · exact q
      have ht : t < 512 := by omega
      obtain ⟨oa, gA, hxL, -, hfx, -⟩ := hX.base
      obtain ⟨rwA, scA, thA, szA, roA, ssA, ttA, zzA, hSM, -⟩ := id hM
      have hyL := hSM.1.1
      have hfy := hSM.2.1
      refine lv_aload_n hx hb dL_law_26 rfl (lv_at hl 0 rfl) ?_
      refine lv_iload_n hx hb dL_law_27 rfl (lv_at hl 3 rfl) ?_
      refine jl_sld hx hb hX0 hbl hbA hwX.2.2.1 (show 5 * t < L by omega) (by omega) dL_law_28 ?_
      refine lv_bipush (v := 15) hx hb dL_law_29 (by decide) ?_
      refine lv_iand hx hb dL_law_31 ?_
      obtain ⟨k, hk, ek⟩ := pk_andE (xs (5 * t)) (m := 15) 4 (by decide)
      rw [ek]
      rcases (show k = 0 ∨ k = 1 ∨ k = 2 ∨ k = 3 ∨ k = 4 ∨ k = 5 ∨ k = 6 ∨ k = 7 ∨ k = 8 ∨ 9 ≤ k by omega) with rfl | rfl | rfl | rfl | rfl | rfl | rfl | rfl | rfl | hk9
      · refine lv_tableIn hx hb dL_law_32 (by decide) (by decide) (off := 52) (by decide) (tgt := 84) (by decide) ?_
        refine lv_aload_n hx hb dL_law_84 rfl (lv_at hl 1 rfl) ?_
        refine lv_aload_n hx hb dL_law_85 rfl (lv_at hl 0 rfl) ?_
        refine lv_iload_n hx hb dL_law_86 rfl (lv_at hl 3 rfl) ?_
        refine lv_iconst (v := nI 1) hx hb dL_law_87 (by decide) ?_
        refine lv_iadd hx hb dL_law_88 ?_
        rw [nI_add]
        refine jl_sld hx hb hX0 hbl hbA hwX.2.2.1 (show 5 * t + 1 < L by omega) (by omega) dL_law_89 ?_
        refine lv_aload_n hx hb dL_law_90 rfl (lv_at hl 0 rfl) ?_
        refine lv_iload_n hx hb dL_law_91 rfl (lv_at hl 3 rfl) ?_
        refine lv_iconst (v := nI 2) hx hb dL_law_92 (by decide) ?_
        refine lv_iadd hx hb dL_law_93 ?_
        rw [nI_add]
        refine jl_sld hx hb hX0 hbl hbA hwX.2.2.1 (show 5 * t + 2 < L by omega) (by omega) dL_law_94 ?_
        refine lv_aload_n hx hb dL_law_95 rfl (lv_at hl 0 rfl) ?_
        refine lv_iload_n hx hb dL_law_96 rfl (lv_at hl 3 rfl) ?_
        refine lv_iconst (v := nI 3) hx hb dL_law_97 (by decide) ?_
        refine lv_iadd hx hb dL_law_98 ?_
        rw [nI_add]
        refine jl_sld hx hb hX0 hbl hbA hwX.2.2.1 (show 5 * t + 3 < L by omega) (by omega) dL_law_99 ?_
        refine lv_i2l hx hb dL_law_100 rfl ?_
        refine lv_bipush (v := 32) hx hb dL_law_101 (by decide) ?_
        refine lv_lshl hx hb dL_law_103 rfl ?_
        refine lv_aload_n hx hb dL_law_104 rfl (lv_at hl 0 rfl) ?_
        refine lv_iload_n hx hb dL_law_105 rfl (lv_at hl 3 rfl) ?_
        refine lv_iconst (v := nI 4) hx hb dL_law_106 (by decide) ?_
        refine lv_iadd hx hb dL_law_107 ?_
        rw [nI_add]
        refine jl_sld hx hb hX0 hbl hbA hwX.2.2.1 (show 5 * t + 4 < L by omega) (by omega) dL_law_108 ?_
        refine lv_i2l hx hb dL_law_109 rfl ?_
        refine lv_ldc2 (own := RL) (v := 4294967295) hx hb hown (hts (.constantLong RL 13 4294967295) (by decide +kernel)) dL_law_110 ?_
        refine lv_land hx hb dL_law_113 ?_
        refine lv_lor hx hb dL_law_114 ?_
        refine lv_topl (fun sc esc => ?_)
        refine cl_L_15 (As := [.int (xs (5 * t + 1)), .int (xs (5 * t + 2)), .long sc]) (rest := []) hx hb hml hown hts hG hwX (c_X_set l D ct hX (by omega)) rfl ⟨Nat.le_of_ble_eq_true rfl, Nat.le_of_ble_eq_true rfl⟩ hxL hfx hl.1 rfl (Nat.le_of_ble_eq_true rfl) dL_law_115 ⟨by show 30 + 3 * t + 3 ≤ 600000; omega, by show 17000 + 15 * t + 15 ≤ 7302250; omega⟩ (fun v L' f' H1 locs1 hp hw' hcf => ?_)
        obtain ⟨rfl, hX1⟩ := hp
        obtain ⟨hwM, hdis⟩ := jl_other hwM hdis hw' hcf
        have hwX := hw'
        generalize H1 = H at hwX hwM ⊢
        generalize locs1 = locs at hwX hwM ⊢
        clear hw' hcf
        refine lv_aload_n hx hb dL_law_118 rfl (lv_at hl 2 rfl) ?_
        refine lv_aload_n hx hb dL_law_119 rfl (lv_at hl 0 rfl) ?_
        refine lv_iload_n hx hb dL_law_120 rfl (lv_at hl 3 rfl) ?_
        refine lv_iconst (v := nI 1) hx hb dL_law_121 (by decide) ?_
        refine lv_iadd hx hb dL_law_122 ?_
        rw [nI_add]
        refine jl_sld hx hb hX0 hbl hbA hwM.2.2.1 (show 5 * t + 1 < L by omega) (by omega) dL_law_123 ?_
        refine lv_aload_n hx hb dL_law_124 rfl (lv_at hl 0 rfl) ?_
        refine lv_iload_n hx hb dL_law_125 rfl (lv_at hl 3 rfl) ?_
        refine lv_iconst (v := nI 2) hx hb dL_law_126 (by decide) ?_
        refine lv_iadd hx hb dL_law_127 ?_
        rw [nI_add]
        refine jl_sld hx hb hX0 hbl hbA hwM.2.2.1 (show 5 * t + 2 < L by omega) (by omega) dL_law_128 ?_
        refine lv_aload_n hx hb dL_law_129 rfl (lv_at hl 0 rfl) ?_
        refine lv_iload_n hx hb dL_law_130 rfl (lv_at hl 3 rfl) ?_
        refine lv_iconst (v := nI 3) hx hb dL_law_131 (by decide) ?_
        refine lv_iadd hx hb dL_law_132 ?_
        rw [nI_add]
        refine jl_sld hx hb hX0 hbl hbA hwM.2.2.1 (show 5 * t + 3 < L by omega) (by omega) dL_law_133 ?_
        refine lv_i2l hx hb dL_law_134 rfl ?_
        refine lv_bipush (v := 32) hx hb dL_law_135 (by decide) ?_
        refine lv_lshl hx hb dL_law_137 rfl ?_
        refine lv_aload_n hx hb dL_law_138 rfl (lv_at hl 0 rfl) ?_
        refine lv_iload_n hx hb dL_law_139 rfl (lv_at hl 3 rfl) ?_
        refine lv_iconst (v := nI 4) hx hb dL_law_140 (by decide) ?_
        refine lv_iadd hx hb dL_law_141 ?_
        rw [nI_add]
        refine jl_sld hx hb hX0 hbl hbA hwM.2.2.1 (show 5 * t + 4 < L by omega) (by omega) dL_law_142 ?_
        refine lv_i2l hx hb dL_law_143 rfl ?_
        refine lv_ldc2 (own := RL) (v := 4294967295) hx hb hown (hts (.constantLong RL 13 4294967295) (by decide +kernel)) dL_law_144 ?_
        refine lv_land hx hb dL_law_147 ?_
        refine lv_lor hx hb dL_law_148 ?_
        refine lv_topl (fun sc2 esc2 => ?_)
        rw [show sc2 = sc from esc2.trans esc.symm]
        have hdis2 : ∀ q ∈ Lm, q ∉ L' := fun q h1 h2 => hdis q h2 h1
        refine cl_L_19 (As := [.int (xs (5 * t + 1)), .int (xs (5 * t + 2)), .long sc]) (rest := [.int (sp_set As (xs (5 * t + 1)) (xs (5 * t + 2)) sc).1]) hx hb hml hown hts hG hwM (c_M_set l D ct hM (by omega)) rfl ⟨Nat.le_of_ble_eq_true rfl, Nat.le_of_ble_eq_true rfl⟩ hyL hfy hl.1 rfl (Nat.le_of_ble_eq_true rfl) dL_law_149 ⟨by show 30 + 3 * t + 3 + 0 ≤ 600000; omega, by show 17000 + 15 * t + 15 + 0 ≤ 7302250; omega⟩ (fun v L2 f2 H1 locs1 hp hw' hcf => ?_)
        obtain ⟨rfl, hM1⟩ := hp
        obtain ⟨hwX, hdis3⟩ := jl_other hwX hdis2 hw' hcf
        have hwM := hw'
        have hdis : ∀ q ∈ L', q ∉ L2 := fun q h1 h2 => hdis3 q h2 h1
        refine lv_icmp_eq (tgt := 468) hx hb dL_law_152 (by decide) (fun _ => ?_) (fun h => absurd rfl h)
        refine lv_iinc (v := nI (5 * (t + 1))) (lv' := [(3, .int (nI (5 * (t + 1)))), (0, .ref b), (1, .ref x), (2, .ref y)]) hx hb dL_law_468 hl (k := 3) rfl (by show nI (5 * t) + nI 5 = nI (5 * (t + 1)); rw [nI_add]; rfl) (by decide) rfl (fun ls hl => ?_)
        refine lv_goto (tgt := 18) hx hb dL_law_471 (by decide) ?_
        refine W.widen (k := 30 + 3 * (t + 1)) (n := 17000 + 15 * (t + 1)) (by first | omega | (simp only []; omega)) (by first | omega | (simp only []; omega)) ?_
        exact ih (t + 1) x y _ _ _ _ _ _ _ ls (by omega) (by omega) hX1 hM1 hdis hwX hwM (lv_sub hl [1, 2, 3, 0] rfl)
      · refine lv_tableIn hx hb dL_law_32 (by decide) (by decide) (off := 125) (by decide) (tgt := 157) (by decide) ?_
        refine lv_aload_n hx hb dL_law_157 rfl (lv_at hl 1 rfl) ?_
        refine lv_aload_n hx hb dL_law_158 rfl (lv_at hl 0 rfl) ?_
        refine lv_iload_n hx hb dL_law_159 rfl (lv_at hl 3 rfl) ?_
        refine lv_iconst (v := nI 1) hx hb dL_law_160 (by decide) ?_
        refine lv_iadd hx hb dL_law_161 ?_
        rw [nI_add]
        refine jl_sld hx hb hX0 hbl hbA hwX.2.2.1 (show 5 * t + 1 < L by omega) (by omega) dL_law_162 ?_
        refine lv_aload_n hx hb dL_law_163 rfl (lv_at hl 0 rfl) ?_
        refine lv_iload_n hx hb dL_law_164 rfl (lv_at hl 3 rfl) ?_
        refine lv_iconst (v := nI 2) hx hb dL_law_165 (by decide) ?_
        refine lv_iadd hx hb dL_law_166 ?_
        rw [nI_add]
        refine jl_sld hx hb hX0 hbl hbA hwX.2.2.1 (show 5 * t + 2 < L by omega) (by omega) dL_law_167 ?_
        refine cl_L_20 (As := [.int (xs (5 * t + 1)), .int (xs (5 * t + 2))]) (rest := []) hx hb hml hown hts hG hwX (c_X_remove l D ct hX (by omega)) rfl ⟨Nat.le_of_ble_eq_true rfl, Nat.le_of_ble_eq_true rfl⟩ hxL hfx hl.1 rfl (Nat.le_of_ble_eq_true rfl) dL_law_168 ⟨by show 30 + 3 * t + 0 ≤ 600000; omega, by show 17000 + 15 * t + 0 ≤ 7302250; omega⟩ (fun v L' f' H1 locs1 hp hw' hcf => ?_)
        obtain ⟨rfl, hX1⟩ := hp
        obtain ⟨hwM, hdis⟩ := jl_other hwM hdis hw' hcf
        have hwX := hw'
        generalize H1 = H at hwX hwM ⊢
        generalize locs1 = locs at hwX hwM ⊢
        clear hw' hcf
        refine lv_aload_n hx hb dL_law_171 rfl (lv_at hl 2 rfl) ?_
        refine lv_aload_n hx hb dL_law_172 rfl (lv_at hl 0 rfl) ?_
        refine lv_iload_n hx hb dL_law_173 rfl (lv_at hl 3 rfl) ?_
        refine lv_iconst (v := nI 1) hx hb dL_law_174 (by decide) ?_
        refine lv_iadd hx hb dL_law_175 ?_
        rw [nI_add]
        refine jl_sld hx hb hX0 hbl hbA hwM.2.2.1 (show 5 * t + 1 < L by omega) (by omega) dL_law_176 ?_
        refine lv_aload_n hx hb dL_law_177 rfl (lv_at hl 0 rfl) ?_
        refine lv_iload_n hx hb dL_law_178 rfl (lv_at hl 3 rfl) ?_
        refine lv_iconst (v := nI 2) hx hb dL_law_179 (by decide) ?_
        refine lv_iadd hx hb dL_law_180 ?_
        rw [nI_add]
        refine jl_sld hx hb hX0 hbl hbA hwM.2.2.1 (show 5 * t + 2 < L by omega) (by omega) dL_law_181 ?_
        have hdis2 : ∀ q ∈ Lm, q ∉ L' := fun q h1 h2 => hdis q h2 h1
        refine cl_L_24 (As := [.int (xs (5 * t + 1)), .int (xs (5 * t + 2))]) (rest := [.int (sp_rem As (xs (5 * t + 1)) (xs (5 * t + 2))).1]) hx hb hml hown hts hG hwM (c_M_remove l D ct hM (by omega)) rfl ⟨Nat.le_of_ble_eq_true rfl, Nat.le_of_ble_eq_true rfl⟩ hyL hfy hl.1 rfl (Nat.le_of_ble_eq_true rfl) dL_law_182 ⟨by show 30 + 3 * t + 0 + 0 ≤ 600000; omega, by show 17000 + 15 * t + 0 + 0 ≤ 7302250; omega⟩ (fun v L2 f2 H1 locs1 hp hw' hcf => ?_)
        obtain ⟨rfl, hM1⟩ := hp
        obtain ⟨hwX, hdis3⟩ := jl_other hwX hdis2 hw' hcf
        have hwM := hw'
        have hdis : ∀ q ∈ L', q ∉ L2 := fun q h1 h2 => hdis3 q h2 h1
        refine lv_icmp_eq (tgt := 468) hx hb dL_law_185 (by decide) (fun _ => ?_) (fun h => absurd rfl h)
        refine lv_iinc (v := nI (5 * (t + 1))) (lv' := [(3, .int (nI (5 * (t + 1)))), (0, .ref b), (1, .ref x), (2, .ref y)]) hx hb dL_law_468 hl (k := 3) rfl (by show nI (5 * t) + nI 5 = nI (5 * (t + 1)); rw [nI_add]; rfl) (by decide) rfl (fun ls hl => ?_)
        refine lv_goto (tgt := 18) hx hb dL_law_471 (by decide) ?_
        refine W.widen (k := 30 + 3 * (t + 1)) (n := 17000 + 15 * (t + 1)) (by first | omega | (simp only []; omega)) (by first | omega | (simp only []; omega)) ?_
        exact ih (t + 1) x y _ _ _ _ _ _ _ ls (by omega) (by omega) (hX1.mono (Nat.le_succ _)) (hM1.mono (Nat.le_succ _)) hdis hwX hwM (lv_sub hl [1, 2, 3, 0] rfl)
      · refine lv_tableIn hx hb dL_law_32 (by decide) (by decide) (off := 158) (by decide) (tgt := 190) (by decide) ?_
        refine lv_aload_n hx hb dL_law_190 rfl (lv_at hl 1 rfl) ?_
        refine lv_aload_n hx hb dL_law_191 rfl (lv_at hl 0 rfl) ?_
        refine lv_iload_n hx hb dL_law_192 rfl (lv_at hl 3 rfl) ?_
        refine lv_iconst (v := nI 1) hx hb dL_law_193 (by decide) ?_
        refine lv_iadd hx hb dL_law_194 ?_
        rw [nI_add]
        refine jl_sld hx hb hX0 hbl hbA hwX.2.2.1 (show 5 * t + 1 < L by omega) (by omega) dL_law_195 ?_
        refine cl_L_25 (As := [.int (xs (5 * t + 1))]) (rest := []) hx hb hml hown hts hG hwX (c_X_clear l D ct hX (by omega)) rfl ⟨Nat.le_of_ble_eq_true rfl, Nat.le_of_ble_eq_true rfl⟩ hxL hfx hl.1 rfl (Nat.le_of_ble_eq_true rfl) dL_law_196 ⟨by show 30 + 3 * t + 0 ≤ 600000; omega, by show 17000 + 15 * t + 0 ≤ 7302250; omega⟩ (fun v L' f' H1 locs1 hp hw' hcf => ?_)
        obtain ⟨rfl, hX1⟩ := hp
        obtain ⟨hwM, hdis⟩ := jl_other hwM hdis hw' hcf
        have hwX := hw'
        generalize H1 = H at hwX hwM ⊢
        generalize locs1 = locs at hwX hwM ⊢
        clear hw' hcf
        refine lv_aload_n hx hb dL_law_199 rfl (lv_at hl 2 rfl) ?_
        refine lv_aload_n hx hb dL_law_200 rfl (lv_at hl 0 rfl) ?_
        refine lv_iload_n hx hb dL_law_201 rfl (lv_at hl 3 rfl) ?_
        refine lv_iconst (v := nI 1) hx hb dL_law_202 (by decide) ?_
        refine lv_iadd hx hb dL_law_203 ?_
        rw [nI_add]
        refine jl_sld hx hb hX0 hbl hbA hwM.2.2.1 (show 5 * t + 1 < L by omega) (by omega) dL_law_204 ?_
        have hdis2 : ∀ q ∈ Lm, q ∉ L' := fun q h1 h2 => hdis q h2 h1
        refine cl_L_29 (As := [.int (xs (5 * t + 1))]) (rest := [.int (sp_clr As (xs (5 * t + 1))).1]) hx hb hml hown hts hG hwM (c_M_clear l D ct hM (by omega)) rfl ⟨Nat.le_of_ble_eq_true rfl, Nat.le_of_ble_eq_true rfl⟩ hyL hfy hl.1 rfl (Nat.le_of_ble_eq_true rfl) dL_law_205 ⟨by show 30 + 3 * t + 0 + 0 ≤ 600000; omega, by show 17000 + 15 * t + 0 + 0 ≤ 7302250; omega⟩ (fun v L2 f2 H1 locs1 hp hw' hcf => ?_)
        obtain ⟨rfl, hM1⟩ := hp
        obtain ⟨hwX, hdis3⟩ := jl_other hwX hdis2 hw' hcf
        have hwM := hw'
        have hdis : ∀ q ∈ L', q ∉ L2 := fun q h1 h2 => hdis3 q h2 h1
        refine lv_icmp_eq (tgt := 468) hx hb dL_law_208 (by decide) (fun _ => ?_) (fun h => absurd rfl h)
        refine lv_iinc (v := nI (5 * (t + 1))) (lv' := [(3, .int (nI (5 * (t + 1)))), (0, .ref b), (1, .ref x), (2, .ref y)]) hx hb dL_law_468 hl (k := 3) rfl (by show nI (5 * t) + nI 5 = nI (5 * (t + 1)); rw [nI_add]; rfl) (by decide) rfl (fun ls hl => ?_)
        refine lv_goto (tgt := 18) hx hb dL_law_471 (by decide) ?_
        refine W.widen (k := 30 + 3 * (t + 1)) (n := 17000 + 15 * (t + 1)) (by first | omega | (simp only []; omega)) (by first | omega | (simp only []; omega)) ?_
        exact ih (t + 1) x y _ _ _ _ _ _ _ ls (by omega) (by omega) (hX1.mono (Nat.le_succ _)) (hM1.mono (Nat.le_succ _)) hdis hwX hwM (lv_sub hl [1, 2, 3, 0] rfl)
      · refine lv_tableIn hx hb dL_law_32 (by decide) (by decide) (off := 181) (by decide) (tgt := 213) (by decide) ?_
        refine lv_aload_n hx hb dL_law_213 rfl (lv_at hl 1 rfl) ?_
        refine lv_aload_n hx hb dL_law_214 rfl (lv_at hl 0 rfl) ?_
        refine lv_iload_n hx hb dL_law_215 rfl (lv_at hl 3 rfl) ?_
        refine lv_iconst (v := nI 1) hx hb dL_law_216 (by decide) ?_
        refine lv_iadd hx hb dL_law_217 ?_
        rw [nI_add]
        refine jl_sld hx hb hX0 hbl hbA hwX.2.2.1 (show 5 * t + 1 < L by omega) (by omega) dL_law_218 ?_
        refine lv_aload_n hx hb dL_law_219 rfl (lv_at hl 0 rfl) ?_
        refine lv_iload_n hx hb dL_law_220 rfl (lv_at hl 3 rfl) ?_
        refine lv_iconst (v := nI 2) hx hb dL_law_221 (by decide) ?_
        refine lv_iadd hx hb dL_law_222 ?_
        rw [nI_add]
        refine jl_sld hx hb hX0 hbl hbA hwX.2.2.1 (show 5 * t + 2 < L by omega) (by omega) dL_law_223 ?_
        refine cl_L_30 (As := [.int (xs (5 * t + 1)), .int (xs (5 * t + 2))]) (rest := []) hx hb hml hown hts hG hwX (c_X_score l D ct hX (by omega)) rfl ⟨Nat.le_of_ble_eq_true rfl, Nat.le_of_ble_eq_true rfl⟩ hxL hfx hl.1 rfl (Nat.le_of_ble_eq_true rfl) dL_law_224 ⟨by show 30 + 3 * t + 0 ≤ 600000; omega, by show 17000 + 15 * t + 0 ≤ 7302250; omega⟩ (fun v L' f' H1 locs1 hp hw' hcf => ?_)
        obtain ⟨rfl, hX1⟩ := hp
        obtain ⟨hwM, hdis⟩ := jl_other hwM hdis hw' hcf
        have hwX := hw'
        generalize H1 = H at hwX hwM ⊢
        generalize locs1 = locs at hwX hwM ⊢
        clear hw' hcf
        refine lv_aload_n hx hb dL_law_227 rfl (lv_at hl 2 rfl) ?_
        refine lv_aload_n hx hb dL_law_228 rfl (lv_at hl 0 rfl) ?_
        refine lv_iload_n hx hb dL_law_229 rfl (lv_at hl 3 rfl) ?_
        refine lv_iconst (v := nI 1) hx hb dL_law_230 (by decide) ?_
        refine lv_iadd hx hb dL_law_231 ?_
        rw [nI_add]
        refine jl_sld hx hb hX0 hbl hbA hwM.2.2.1 (show 5 * t + 1 < L by omega) (by omega) dL_law_232 ?_
        refine lv_aload_n hx hb dL_law_233 rfl (lv_at hl 0 rfl) ?_
        refine lv_iload_n hx hb dL_law_234 rfl (lv_at hl 3 rfl) ?_
        refine lv_iconst (v := nI 2) hx hb dL_law_235 (by decide) ?_
        refine lv_iadd hx hb dL_law_236 ?_
        rw [nI_add]
        refine jl_sld hx hb hX0 hbl hbA hwM.2.2.1 (show 5 * t + 2 < L by omega) (by omega) dL_law_237 ?_
        have hdis2 : ∀ q ∈ Lm, q ∉ L' := fun q h1 h2 => hdis q h2 h1
        refine cl_L_34 (As := [.int (xs (5 * t + 1)), .int (xs (5 * t + 2))]) (rest := [.long (sp_score As (xs (5 * t + 1)) (xs (5 * t + 2)))]) hx hb hml hown hts hG hwM (c_M_score l D ct hM (by omega)) rfl ⟨Nat.le_of_ble_eq_true rfl, Nat.le_of_ble_eq_true rfl⟩ hyL hfy hl.1 rfl (Nat.le_of_ble_eq_true rfl) dL_law_238 ⟨by show 30 + 3 * t + 0 + 0 ≤ 600000; omega, by show 17000 + 15 * t + 0 + 0 ≤ 7302250; omega⟩ (fun v L2 f2 H1 locs1 hp hw' hcf => ?_)
        obtain ⟨rfl, hM1⟩ := hp
        obtain ⟨hwX, hdis3⟩ := jl_other hwX hdis2 hw' hcf
        have hwM := hw'
        have hdis : ∀ q ∈ L', q ∉ L2 := fun q h1 h2 => hdis3 q h2 h1
        refine W.lcmp hx hb dL_law_241 ?_
        refine lv_if_eq (tgt := 468) hx hb dL_law_242 (by decide) (fun _ => ?_) (fun h => absurd ((lg_cmp_eq _ _).mpr rfl) h)
        refine lv_iinc (v := nI (5 * (t + 1))) (lv' := [(3, .int (nI (5 * (t + 1)))), (0, .ref b), (1, .ref x), (2, .ref y)]) hx hb dL_law_468 hl (k := 3) rfl (by show nI (5 * t) + nI 5 = nI (5 * (t + 1)); rw [nI_add]; rfl) (by decide) rfl (fun ls hl => ?_)
        refine lv_goto (tgt := 18) hx hb dL_law_471 (by decide) ?_
        refine W.widen (k := 30 + 3 * (t + 1)) (n := 17000 + 15 * (t + 1)) (by first | omega | (simp only []; omega)) (by first | omega | (simp only []; omega)) ?_
        exact ih (t + 1) x y _ _ _ _ _ _ _ ls (by omega) (by omega) (hX1.mono (Nat.le_succ _)) (hM1.mono (Nat.le_succ _)) hdis hwX hwM (lv_sub hl [1, 2, 3, 0] rfl)
      · refine lv_tableIn hx hb dL_law_32 (by decide) (by decide) (off := 215) (by decide) (tgt := 247) (by decide) ?_
        refine lv_aload_n hx hb dL_law_247 rfl (lv_at hl 1 rfl) ?_
        refine lv_aload_n hx hb dL_law_248 rfl (lv_at hl 0 rfl) ?_
        refine lv_iload_n hx hb dL_law_249 rfl (lv_at hl 3 rfl) ?_
        refine lv_iconst (v := nI 1) hx hb dL_law_250 (by decide) ?_
        refine lv_iadd hx hb dL_law_251 ?_
        rw [nI_add]
        refine jl_sld hx hb hX0 hbl hbA hwX.2.2.1 (show 5 * t + 1 < L by omega) (by omega) dL_law_252 ?_
        refine lv_aload_n hx hb dL_law_253 rfl (lv_at hl 0 rfl) ?_
        refine lv_iload_n hx hb dL_law_254 rfl (lv_at hl 3 rfl) ?_
        refine lv_iconst (v := nI 2) hx hb dL_law_255 (by decide) ?_
        refine lv_iadd hx hb dL_law_256 ?_
        rw [nI_add]
        refine jl_sld hx hb hX0 hbl hbA hwX.2.2.1 (show 5 * t + 2 < L by omega) (by omega) dL_law_257 ?_
        refine cl_L_35 (As := [.int (xs (5 * t + 1)), .int (xs (5 * t + 2))]) (rest := []) hx hb hml hown hts hG hwX (c_X_rank l D ct hX (by omega)) rfl ⟨Nat.le_of_ble_eq_true rfl, Nat.le_of_ble_eq_true rfl⟩ hxL hfx hl.1 rfl (Nat.le_of_ble_eq_true rfl) dL_law_258 ⟨by show 30 + 3 * t + 0 ≤ 600000; omega, by show 17000 + 15 * t + 0 ≤ 7302250; omega⟩ (fun v L' f' H1 locs1 hp hw' hcf => ?_)
        obtain ⟨rfl, hX1⟩ := hp
        obtain ⟨hwM, hdis⟩ := jl_other hwM hdis hw' hcf
        have hwX := hw'
        generalize H1 = H at hwX hwM ⊢
        generalize locs1 = locs at hwX hwM ⊢
        clear hw' hcf
        refine lv_aload_n hx hb dL_law_261 rfl (lv_at hl 2 rfl) ?_
        refine lv_aload_n hx hb dL_law_262 rfl (lv_at hl 0 rfl) ?_
        refine lv_iload_n hx hb dL_law_263 rfl (lv_at hl 3 rfl) ?_
        refine lv_iconst (v := nI 1) hx hb dL_law_264 (by decide) ?_
        refine lv_iadd hx hb dL_law_265 ?_
        rw [nI_add]
        refine jl_sld hx hb hX0 hbl hbA hwM.2.2.1 (show 5 * t + 1 < L by omega) (by omega) dL_law_266 ?_
        refine lv_aload_n hx hb dL_law_267 rfl (lv_at hl 0 rfl) ?_
        refine lv_iload_n hx hb dL_law_268 rfl (lv_at hl 3 rfl) ?_
        refine lv_iconst (v := nI 2) hx hb dL_law_269 (by decide) ?_
        refine lv_iadd hx hb dL_law_270 ?_
        rw [nI_add]
        refine jl_sld hx hb hX0 hbl hbA hwM.2.2.1 (show 5 * t + 2 < L by omega) (by omega) dL_law_271 ?_
        have hdis2 : ∀ q ∈ Lm, q ∉ L' := fun q h1 h2 => hdis q h2 h1
        refine cl_L_38 (As := [.int (xs (5 * t + 1)), .int (xs (5 * t + 2))]) (rest := [.int (sp_rank As (xs (5 * t + 1)) (xs (5 * t + 2)))]) hx hb hml hown hts hG hwM (c_M_rank l D ct hM (by omega)) rfl ⟨Nat.le_of_ble_eq_true rfl, Nat.le_of_ble_eq_true rfl⟩ hyL hfy hl.1 rfl (Nat.le_of_ble_eq_true rfl) dL_law_272 ⟨by show 30 + 3 * t + 0 + 0 ≤ 600000; omega, by show 17000 + 15 * t + 0 + 0 ≤ 7302250; omega⟩ (fun v L2 f2 H1 locs1 hp hw' hcf => ?_)
        obtain ⟨rfl, hM1⟩ := hp
        obtain ⟨hwX, hdis3⟩ := jl_other hwX hdis2 hw' hcf
        have hwM := hw'
        have hdis : ∀ q ∈ L', q ∉ L2 := fun q h1 h2 => hdis3 q h2 h1
        refine lv_icmp_eq (tgt := 468) hx hb dL_law_275 (by decide) (fun _ => ?_) (fun h => absurd rfl h)
        refine lv_iinc (v := nI (5 * (t + 1))) (lv' := [(3, .int (nI (5 * (t + 1)))), (0, .ref b), (1, .ref x), (2, .ref y)]) hx hb dL_law_468 hl (k := 3) rfl (by show nI (5 * t) + nI 5 = nI (5 * (t + 1)); rw [nI_add]; rfl) (by decide) rfl (fun ls hl => ?_)
        refine lv_goto (tgt := 18) hx hb dL_law_471 (by decide) ?_
        refine W.widen (k := 30 + 3 * (t + 1)) (n := 17000 + 15 * (t + 1)) (by first | omega | (simp only []; omega)) (by first | omega | (simp only []; omega)) ?_
        exact ih (t + 1) x y _ _ _ _ _ _ _ ls (by omega) (by omega) (hX1.mono (Nat.le_succ _)) (hM1.mono (Nat.le_succ _)) hdis hwX hwM (lv_sub hl [1, 2, 3, 0] rfl)
      · refine lv_tableIn hx hb dL_law_32 (by decide) (by decide) (off := 248) (by decide) (tgt := 280) (by decide) ?_
        refine lv_aload_n hx hb dL_law_280 rfl (lv_at hl 1 rfl) ?_
        refine lv_aload_n hx hb dL_law_281 rfl (lv_at hl 0 rfl) ?_
        refine lv_iload_n hx hb dL_law_282 rfl (lv_at hl 3 rfl) ?_
        refine lv_iconst (v := nI 1) hx hb dL_law_283 (by decide) ?_
        refine lv_iadd hx hb dL_law_284 ?_
        rw [nI_add]
        refine jl_sld hx hb hX0 hbl hbA hwX.2.2.1 (show 5 * t + 1 < L by omega) (by omega) dL_law_285 ?_
        refine lv_aload_n hx hb dL_law_286 rfl (lv_at hl 0 rfl) ?_
        refine lv_iload_n hx hb dL_law_287 rfl (lv_at hl 3 rfl) ?_
        refine lv_iconst (v := nI 2) hx hb dL_law_288 (by decide) ?_
        refine lv_iadd hx hb dL_law_289 ?_
        rw [nI_add]
        refine jl_sld hx hb hX0 hbl hbA hwX.2.2.1 (show 5 * t + 2 < L by omega) (by omega) dL_law_290 ?_
        refine cl_L_39 (As := [.int (xs (5 * t + 1)), .int (xs (5 * t + 2))]) (rest := []) hx hb hml hown hts hG hwX (c_X_at l D ct hX (by omega)) rfl ⟨Nat.le_of_ble_eq_true rfl, Nat.le_of_ble_eq_true rfl⟩ hxL hfx hl.1 rfl (Nat.le_of_ble_eq_true rfl) dL_law_291 ⟨by show 30 + 3 * t + 0 ≤ 600000; omega, by show 17000 + 15 * t + 0 ≤ 7302250; omega⟩ (fun v L' f' H1 locs1 hp hw' hcf => ?_)
        obtain ⟨rfl, hX1⟩ := hp
        obtain ⟨hwM, hdis⟩ := jl_other hwM hdis hw' hcf
        have hwX := hw'
        generalize H1 = H at hwX hwM ⊢
        generalize locs1 = locs at hwX hwM ⊢
        clear hw' hcf
        refine lv_aload_n hx hb dL_law_294 rfl (lv_at hl 2 rfl) ?_
        refine lv_aload_n hx hb dL_law_295 rfl (lv_at hl 0 rfl) ?_
        refine lv_iload_n hx hb dL_law_296 rfl (lv_at hl 3 rfl) ?_
        refine lv_iconst (v := nI 1) hx hb dL_law_297 (by decide) ?_
        refine lv_iadd hx hb dL_law_298 ?_
        rw [nI_add]
        refine jl_sld hx hb hX0 hbl hbA hwM.2.2.1 (show 5 * t + 1 < L by omega) (by omega) dL_law_299 ?_
        refine lv_aload_n hx hb dL_law_300 rfl (lv_at hl 0 rfl) ?_
        refine lv_iload_n hx hb dL_law_301 rfl (lv_at hl 3 rfl) ?_
        refine lv_iconst (v := nI 2) hx hb dL_law_302 (by decide) ?_
        refine lv_iadd hx hb dL_law_303 ?_
        rw [nI_add]
        refine jl_sld hx hb hX0 hbl hbA hwM.2.2.1 (show 5 * t + 2 < L by omega) (by omega) dL_law_304 ?_
        have hdis2 : ∀ q ∈ Lm, q ∉ L' := fun q h1 h2 => hdis q h2 h1
        refine cl_L_42 (As := [.int (xs (5 * t + 1)), .int (xs (5 * t + 2))]) (rest := [.int (sp_at As (xs (5 * t + 1)) (xs (5 * t + 2)))]) hx hb hml hown hts hG hwM (c_M_at l D ct hM (by omega)) rfl ⟨Nat.le_of_ble_eq_true rfl, Nat.le_of_ble_eq_true rfl⟩ hyL hfy hl.1 rfl (Nat.le_of_ble_eq_true rfl) dL_law_305 ⟨by show 30 + 3 * t + 0 + 0 ≤ 600000; omega, by show 17000 + 15 * t + 0 + 0 ≤ 7302250; omega⟩ (fun v L2 f2 H1 locs1 hp hw' hcf => ?_)
        obtain ⟨rfl, hM1⟩ := hp
        obtain ⟨hwX, hdis3⟩ := jl_other hwX hdis2 hw' hcf
        have hwM := hw'
        have hdis : ∀ q ∈ L', q ∉ L2 := fun q h1 h2 => hdis3 q h2 h1
        refine lv_icmp_eq (tgt := 468) hx hb dL_law_308 (by decide) (fun _ => ?_) (fun h => absurd rfl h)
        refine lv_iinc (v := nI (5 * (t + 1))) (lv' := [(3, .int (nI (5 * (t + 1)))), (0, .ref b), (1, .ref x), (2, .ref y)]) hx hb dL_law_468 hl (k := 3) rfl (by show nI (5 * t) + nI 5 = nI (5 * (t + 1)); rw [nI_add]; rfl) (by decide) rfl (fun ls hl => ?_)
        refine lv_goto (tgt := 18) hx hb dL_law_471 (by decide) ?_
        refine W.widen (k := 30 + 3 * (t + 1)) (n := 17000 + 15 * (t + 1)) (by first | omega | (simp only []; omega)) (by first | omega | (simp only []; omega)) ?_
        exact ih (t + 1) x y _ _ _ _ _ _ _ ls (by omega) (by omega) (hX1.mono (Nat.le_succ _)) (hM1.mono (Nat.le_succ _)) hdis hwX hwM (lv_sub hl [1, 2, 3, 0] rfl)
      · refine lv_tableIn hx hb dL_law_32 (by decide) (by decide) (off := 281) (by decide) (tgt := 313) (by decide) ?_
        refine lv_aload_n hx hb dL_law_313 rfl (lv_at hl 1 rfl) ?_
        refine lv_aload_n hx hb dL_law_314 rfl (lv_at hl 0 rfl) ?_
        refine lv_iload_n hx hb dL_law_315 rfl (lv_at hl 3 rfl) ?_
        refine lv_iconst (v := nI 1) hx hb dL_law_316 (by decide) ?_
        refine lv_iadd hx hb dL_law_317 ?_
        rw [nI_add]
        refine jl_sld hx hb hX0 hbl hbA hwX.2.2.1 (show 5 * t + 1 < L by omega) (by omega) dL_law_318 ?_
        refine lv_aload_n hx hb dL_law_319 rfl (lv_at hl 0 rfl) ?_
        refine lv_iload_n hx hb dL_law_320 rfl (lv_at hl 3 rfl) ?_
        refine lv_iconst (v := nI 2) hx hb dL_law_321 (by decide) ?_
        refine lv_iadd hx hb dL_law_322 ?_
        rw [nI_add]
        refine jl_sld hx hb hX0 hbl hbA hwX.2.2.1 (show 5 * t + 2 < L by omega) (by omega) dL_law_323 ?_
        refine lv_i2l hx hb dL_law_324 rfl ?_
        refine lv_bipush (v := 32) hx hb dL_law_325 (by decide) ?_
        refine lv_lshl hx hb dL_law_327 rfl ?_
        refine lv_aload_n hx hb dL_law_328 rfl (lv_at hl 0 rfl) ?_
        refine lv_iload_n hx hb dL_law_329 rfl (lv_at hl 3 rfl) ?_
        refine lv_iconst (v := nI 3) hx hb dL_law_330 (by decide) ?_
        refine lv_iadd hx hb dL_law_331 ?_
        rw [nI_add]
        refine jl_sld hx hb hX0 hbl hbA hwX.2.2.1 (show 5 * t + 3 < L by omega) (by omega) dL_law_332 ?_
        refine lv_i2l hx hb dL_law_333 rfl ?_
        refine lv_ldc2 (own := RL) (v := 4294967295) hx hb hown (hts (.constantLong RL 13 4294967295) (by decide +kernel)) dL_law_334 ?_
        refine lv_land hx hb dL_law_337 ?_
        refine lv_lor hx hb dL_law_338 ?_
        refine lv_topl (fun sc esc => ?_)
        refine lv_aload_n hx hb dL_law_339 rfl (lv_at hl 0 rfl) ?_
        refine lv_iload_n hx hb dL_law_340 rfl (lv_at hl 3 rfl) ?_
        refine lv_iconst (v := nI 4) hx hb dL_law_341 (by decide) ?_
        refine lv_iadd hx hb dL_law_342 ?_
        rw [nI_add]
        refine jl_sld hx hb hX0 hbl hbA hwX.2.2.1 (show 5 * t + 4 < L by omega) (by omega) dL_law_343 ?_
        refine lv_if_eq (tgt := 351) hx hb dL_law_344 (by decide) (fun h0 => ?_) (fun h0 => ?_)
        · refine lv_iconst (v := 0) hx hb dL_law_351 (by decide) ?_
          refine cl_L_43 (As := [.int (xs (5 * t + 1)), .long sc, .int 0]) (rest := []) hx hb hml hown hts hG hwX (c_X_below l D ct hX (by omega)) rfl ⟨Nat.le_of_ble_eq_true rfl, Nat.le_of_ble_eq_true rfl⟩ hxL hfx hl.1 rfl (Nat.le_of_ble_eq_true rfl) dL_law_352 ⟨by show 30 + 3 * t + 0 ≤ 600000; omega, by show 17000 + 15 * t + 0 ≤ 7302250; omega⟩ (fun v L' f' H1 locs1 hp hw' hcf => ?_)
          obtain ⟨rfl, hX1⟩ := hp
          obtain ⟨hwM, hdis⟩ := jl_other hwM hdis hw' hcf
          have hwX := hw'
          generalize H1 = H at hwX hwM ⊢
          generalize locs1 = locs at hwX hwM ⊢
          clear hw' hcf
          refine lv_aload_n hx hb dL_law_355 rfl (lv_at hl 2 rfl) ?_
          refine lv_aload_n hx hb dL_law_356 rfl (lv_at hl 0 rfl) ?_
          refine lv_iload_n hx hb dL_law_357 rfl (lv_at hl 3 rfl) ?_
          refine lv_iconst (v := nI 1) hx hb dL_law_358 (by decide) ?_
          refine lv_iadd hx hb dL_law_359 ?_
          rw [nI_add]
          refine jl_sld hx hb hX0 hbl hbA hwM.2.2.1 (show 5 * t + 1 < L by omega) (by omega) dL_law_360 ?_
          refine lv_aload_n hx hb dL_law_361 rfl (lv_at hl 0 rfl) ?_
          refine lv_iload_n hx hb dL_law_362 rfl (lv_at hl 3 rfl) ?_
          refine lv_iconst (v := nI 2) hx hb dL_law_363 (by decide) ?_
          refine lv_iadd hx hb dL_law_364 ?_
          rw [nI_add]
          refine jl_sld hx hb hX0 hbl hbA hwM.2.2.1 (show 5 * t + 2 < L by omega) (by omega) dL_law_365 ?_
          refine lv_i2l hx hb dL_law_366 rfl ?_
          refine lv_bipush (v := 32) hx hb dL_law_367 (by decide) ?_
          refine lv_lshl hx hb dL_law_369 rfl ?_
          refine lv_aload_n hx hb dL_law_370 rfl (lv_at hl 0 rfl) ?_
          refine lv_iload_n hx hb dL_law_371 rfl (lv_at hl 3 rfl) ?_
          refine lv_iconst (v := nI 3) hx hb dL_law_372 (by decide) ?_
          refine lv_iadd hx hb dL_law_373 ?_
          rw [nI_add]
          refine jl_sld hx hb hX0 hbl hbA hwM.2.2.1 (show 5 * t + 3 < L by omega) (by omega) dL_law_374 ?_
          refine lv_i2l hx hb dL_law_375 rfl ?_
          refine lv_ldc2 (own := RL) (v := 4294967295) hx hb hown (hts (.constantLong RL 13 4294967295) (by decide +kernel)) dL_law_376 ?_
          refine lv_land hx hb dL_law_379 ?_
          refine lv_lor hx hb dL_law_380 ?_
          refine lv_topl (fun sc2 esc2 => ?_)
          refine lv_aload_n hx hb dL_law_381 rfl (lv_at hl 0 rfl) ?_
          refine lv_iload_n hx hb dL_law_382 rfl (lv_at hl 3 rfl) ?_
          refine lv_iconst (v := nI 4) hx hb dL_law_383 (by decide) ?_
          refine lv_iadd hx hb dL_law_384 ?_
          rw [nI_add]
          refine jl_sld hx hb hX0 hbl hbA hwM.2.2.1 (show 5 * t + 4 < L by omega) (by omega) dL_law_385 ?_
          rw [show sc2 = sc from esc2.trans esc.symm]
          refine lv_if_eq (tgt := 393) hx hb dL_law_386 (by decide) (fun _ => ?_) (fun h => absurd h0 h)
          refine lv_iconst (v := 0) hx hb dL_law_393 (by decide) ?_
          have hdis2 : ∀ q ∈ Lm, q ∉ L' := fun q h1 h2 => hdis q h2 h1
          refine cl_L_47 (As := [.int (xs (5 * t + 1)), .long sc, .int 0]) (rest := [.int (sp_below As (xs (5 * t + 1)) sc 0)]) hx hb hml hown hts hG hwM (c_M_below l D ct hM (by omega)) rfl ⟨Nat.le_of_ble_eq_true rfl, Nat.le_of_ble_eq_true rfl⟩ hyL hfy hl.1 rfl (Nat.le_of_ble_eq_true rfl) dL_law_394 ⟨by show 30 + 3 * t + 0 + 0 ≤ 600000; omega, by show 17000 + 15 * t + 0 + 0 ≤ 7302250; omega⟩ (fun v L2 f2 H1 locs1 hp hw' hcf => ?_)
          obtain ⟨rfl, hM1⟩ := hp
          obtain ⟨hwX, hdis3⟩ := jl_other hwX hdis2 hw' hcf
          have hwM := hw'
          have hdis : ∀ q ∈ L', q ∉ L2 := fun q h1 h2 => hdis3 q h2 h1
          refine lv_icmp_eq (tgt := 468) hx hb dL_law_397 (by decide) (fun _ => ?_) (fun h => absurd rfl h)
          refine lv_iinc (v := nI (5 * (t + 1))) (lv' := [(3, .int (nI (5 * (t + 1)))), (0, .ref b), (1, .ref x), (2, .ref y)]) hx hb dL_law_468 hl (k := 3) rfl (by show nI (5 * t) + nI 5 = nI (5 * (t + 1)); rw [nI_add]; rfl) (by decide) rfl (fun ls hl => ?_)
          refine lv_goto (tgt := 18) hx hb dL_law_471 (by decide) ?_
          refine W.widen (k := 30 + 3 * (t + 1)) (n := 17000 + 15 * (t + 1)) (by first | omega | (simp only []; omega)) (by first | omega | (simp only []; omega)) ?_
          exact ih (t + 1) x y _ _ _ _ _ _ _ ls (by omega) (by omega) (hX1.mono (Nat.le_succ _)) (hM1.mono (Nat.le_succ _)) hdis hwX hwM (lv_sub hl [1, 2, 3, 0] rfl)
        · refine lv_iconst (v := 1) hx hb dL_law_347 (by decide) ?_
          refine lv_goto (tgt := 352) hx hb dL_law_348 (by decide) ?_
          refine cl_L_43 (As := [.int (xs (5 * t + 1)), .long sc, .int 1]) (rest := []) hx hb hml hown hts hG hwX (c_X_below l D ct hX (by omega)) rfl ⟨Nat.le_of_ble_eq_true rfl, Nat.le_of_ble_eq_true rfl⟩ hxL hfx hl.1 rfl (Nat.le_of_ble_eq_true rfl) dL_law_352 ⟨by show 30 + 3 * t + 0 ≤ 600000; omega, by show 17000 + 15 * t + 0 ≤ 7302250; omega⟩ (fun v L' f' H1 locs1 hp hw' hcf => ?_)
          obtain ⟨rfl, hX1⟩ := hp
          obtain ⟨hwM, hdis⟩ := jl_other hwM hdis hw' hcf
          have hwX := hw'
          generalize H1 = H at hwX hwM ⊢
          generalize locs1 = locs at hwX hwM ⊢
          clear hw' hcf
          refine lv_aload_n hx hb dL_law_355 rfl (lv_at hl 2 rfl) ?_
          refine lv_aload_n hx hb dL_law_356 rfl (lv_at hl 0 rfl) ?_
          refine lv_iload_n hx hb dL_law_357 rfl (lv_at hl 3 rfl) ?_
          refine lv_iconst (v := nI 1) hx hb dL_law_358 (by decide) ?_
          refine lv_iadd hx hb dL_law_359 ?_
          rw [nI_add]
          refine jl_sld hx hb hX0 hbl hbA hwM.2.2.1 (show 5 * t + 1 < L by omega) (by omega) dL_law_360 ?_
          refine lv_aload_n hx hb dL_law_361 rfl (lv_at hl 0 rfl) ?_
          refine lv_iload_n hx hb dL_law_362 rfl (lv_at hl 3 rfl) ?_
          refine lv_iconst (v := nI 2) hx hb dL_law_363 (by decide) ?_
          refine lv_iadd hx hb dL_law_364 ?_
          rw [nI_add]
          refine jl_sld hx hb hX0 hbl hbA hwM.2.2.1 (show 5 * t + 2 < L by omega) (by omega) dL_law_365 ?_
          refine lv_i2l hx hb dL_law_366 rfl ?_
          refine lv_bipush (v := 32) hx hb dL_law_367 (by decide) ?_
          refine lv_lshl hx hb dL_law_369 rfl ?_
          refine lv_aload_n hx hb dL_law_370 rfl (lv_at hl 0 rfl) ?_
          refine lv_iload_n hx hb dL_law_371 rfl (lv_at hl 3 rfl) ?_
          refine lv_iconst (v := nI 3) hx hb dL_law_372 (by decide) ?_
          refine lv_iadd hx hb dL_law_373 ?_
          rw [nI_add]
          refine jl_sld hx hb hX0 hbl hbA hwM.2.2.1 (show 5 * t + 3 < L by omega) (by omega) dL_law_374 ?_
          refine lv_i2l hx hb dL_law_375 rfl ?_
          refine lv_ldc2 (own := RL) (v := 4294967295) hx hb hown (hts (.constantLong RL 13 4294967295) (by decide +kernel)) dL_law_376 ?_
          refine lv_land hx hb dL_law_379 ?_
          refine lv_lor hx hb dL_law_380 ?_
          refine lv_topl (fun sc2 esc2 => ?_)
          refine lv_aload_n hx hb dL_law_381 rfl (lv_at hl 0 rfl) ?_
          refine lv_iload_n hx hb dL_law_382 rfl (lv_at hl 3 rfl) ?_
          refine lv_iconst (v := nI 4) hx hb dL_law_383 (by decide) ?_
          refine lv_iadd hx hb dL_law_384 ?_
          rw [nI_add]
          refine jl_sld hx hb hX0 hbl hbA hwM.2.2.1 (show 5 * t + 4 < L by omega) (by omega) dL_law_385 ?_
          rw [show sc2 = sc from esc2.trans esc.symm]
          refine lv_if_eq (tgt := 393) hx hb dL_law_386 (by decide) (fun h => absurd h h0) (fun _ => ?_)
          refine lv_iconst (v := 1) hx hb dL_law_389 (by decide) ?_
          refine lv_goto (tgt := 394) hx hb dL_law_390 (by decide) ?_
          have hdis2 : ∀ q ∈ Lm, q ∉ L' := fun q h1 h2 => hdis q h2 h1
          refine cl_L_47 (As := [.int (xs (5 * t + 1)), .long sc, .int 1]) (rest := [.int (sp_below As (xs (5 * t + 1)) sc 1)]) hx hb hml hown hts hG hwM (c_M_below l D ct hM (by omega)) rfl ⟨Nat.le_of_ble_eq_true rfl, Nat.le_of_ble_eq_true rfl⟩ hyL hfy hl.1 rfl (Nat.le_of_ble_eq_true rfl) dL_law_394 ⟨by show 30 + 3 * t + 0 + 0 ≤ 600000; omega, by show 17000 + 15 * t + 0 + 0 ≤ 7302250; omega⟩ (fun v L2 f2 H1 locs1 hp hw' hcf => ?_)
          obtain ⟨rfl, hM1⟩ := hp
          obtain ⟨hwX, hdis3⟩ := jl_other hwX hdis2 hw' hcf
          have hwM := hw'
          have hdis : ∀ q ∈ L', q ∉ L2 := fun q h1 h2 => hdis3 q h2 h1
          refine lv_icmp_eq (tgt := 468) hx hb dL_law_397 (by decide) (fun _ => ?_) (fun h => absurd rfl h)
          refine lv_iinc (v := nI (5 * (t + 1))) (lv' := [(3, .int (nI (5 * (t + 1)))), (0, .ref b), (1, .ref x), (2, .ref y)]) hx hb dL_law_468 hl (k := 3) rfl (by show nI (5 * t) + nI 5 = nI (5 * (t + 1)); rw [nI_add]; rfl) (by decide) rfl (fun ls hl => ?_)
          refine lv_goto (tgt := 18) hx hb dL_law_471 (by decide) ?_
          refine W.widen (k := 30 + 3 * (t + 1)) (n := 17000 + 15 * (t + 1)) (by first | omega | (simp only []; omega)) (by first | omega | (simp only []; omega)) ?_
          exact ih (t + 1) x y _ _ _ _ _ _ _ ls (by omega) (by omega) (hX1.mono (Nat.le_succ _)) (hM1.mono (Nat.le_succ _)) hdis hwX hwM (lv_sub hl [1, 2, 3, 0] rfl)
      · refine lv_tableIn hx hb dL_law_32 (by decide) (by decide) (off := 370) (by decide) (tgt := 402) (by decide) ?_
        refine lv_aload_n hx hb dL_law_402 rfl (lv_at hl 1 rfl) ?_
        refine lv_aload_n hx hb dL_law_403 rfl (lv_at hl 0 rfl) ?_
        refine lv_iload_n hx hb dL_law_404 rfl (lv_at hl 3 rfl) ?_
        refine lv_iconst (v := nI 1) hx hb dL_law_405 (by decide) ?_
        refine lv_iadd hx hb dL_law_406 ?_
        rw [nI_add]
        refine jl_sld hx hb hX0 hbl hbA hwX.2.2.1 (show 5 * t + 1 < L by omega) (by omega) dL_law_407 ?_
        refine cl_L_48 (As := [.int (xs (5 * t + 1))]) (rest := []) hx hb hml hown hts hG hwX (c_X_size l D ct hX (by omega)) rfl ⟨Nat.le_of_ble_eq_true rfl, Nat.le_of_ble_eq_true rfl⟩ hxL hfx hl.1 rfl (Nat.le_of_ble_eq_true rfl) dL_law_408 ⟨by show 30 + 3 * t + 0 ≤ 600000; omega, by show 17000 + 15 * t + 0 ≤ 7302250; omega⟩ (fun v L' f' H1 locs1 hp hw' hcf => ?_)
        obtain ⟨rfl, hX1⟩ := hp
        obtain ⟨hwM, hdis⟩ := jl_other hwM hdis hw' hcf
        have hwX := hw'
        generalize H1 = H at hwX hwM ⊢
        generalize locs1 = locs at hwX hwM ⊢
        clear hw' hcf
        refine lv_aload_n hx hb dL_law_411 rfl (lv_at hl 2 rfl) ?_
        refine lv_aload_n hx hb dL_law_412 rfl (lv_at hl 0 rfl) ?_
        refine lv_iload_n hx hb dL_law_413 rfl (lv_at hl 3 rfl) ?_
        refine lv_iconst (v := nI 1) hx hb dL_law_414 (by decide) ?_
        refine lv_iadd hx hb dL_law_415 ?_
        rw [nI_add]
        refine jl_sld hx hb hX0 hbl hbA hwM.2.2.1 (show 5 * t + 1 < L by omega) (by omega) dL_law_416 ?_
        have hdis2 : ∀ q ∈ Lm, q ∉ L' := fun q h1 h2 => hdis q h2 h1
        refine cl_L_51 (As := [.int (xs (5 * t + 1))]) (rest := [.int (sp_size As (xs (5 * t + 1)))]) hx hb hml hown hts hG hwM (c_M_size l D ct hM (by omega)) rfl ⟨Nat.le_of_ble_eq_true rfl, Nat.le_of_ble_eq_true rfl⟩ hyL hfy hl.1 rfl (Nat.le_of_ble_eq_true rfl) dL_law_417 ⟨by show 30 + 3 * t + 0 + 0 ≤ 600000; omega, by show 17000 + 15 * t + 0 + 0 ≤ 7302250; omega⟩ (fun v L2 f2 H1 locs1 hp hw' hcf => ?_)
        obtain ⟨rfl, hM1⟩ := hp
        obtain ⟨hwX, hdis3⟩ := jl_other hwX hdis2 hw' hcf
        have hwM := hw'
        have hdis : ∀ q ∈ L', q ∉ L2 := fun q h1 h2 => hdis3 q h2 h1
        refine lv_icmp_eq (tgt := 468) hx hb dL_law_420 (by decide) (fun _ => ?_) (fun h => absurd rfl h)
        refine lv_iinc (v := nI (5 * (t + 1))) (lv' := [(3, .int (nI (5 * (t + 1)))), (0, .ref b), (1, .ref x), (2, .ref y)]) hx hb dL_law_468 hl (k := 3) rfl (by show nI (5 * t) + nI 5 = nI (5 * (t + 1)); rw [nI_add]; rfl) (by decide) rfl (fun ls hl => ?_)
        refine lv_goto (tgt := 18) hx hb dL_law_471 (by decide) ?_
        refine W.widen (k := 30 + 3 * (t + 1)) (n := 17000 + 15 * (t + 1)) (by first | omega | (simp only []; omega)) (by first | omega | (simp only []; omega)) ?_
        exact ih (t + 1) x y _ _ _ _ _ _ _ ls (by omega) (by omega) (hX1.mono (Nat.le_succ _)) (hM1.mono (Nat.le_succ _)) hdis hwX hwM (lv_sub hl [1, 2, 3, 0] rfl)
      · refine lv_tableIn hx hb dL_law_32 (by decide) (by decide) (off := 393) (by decide) (tgt := 425) (by decide) ?_
        refine lv_aload_n hx hb dL_law_425 rfl (lv_at hl 1 rfl) ?_
        refine lv_aload_n hx hb dL_law_426 rfl (lv_at hl 0 rfl) ?_
        refine lv_iload_n hx hb dL_law_427 rfl (lv_at hl 3 rfl) ?_
        refine lv_iconst (v := nI 1) hx hb dL_law_428 (by decide) ?_
        refine lv_iadd hx hb dL_law_429 ?_
        rw [nI_add]
        refine jl_sld hx hb hX0 hbl hbA hwX.2.2.1 (show 5 * t + 1 < L by omega) (by omega) dL_law_430 ?_
        refine lv_aload_n hx hb dL_law_431 rfl (lv_at hl 0 rfl) ?_
        refine lv_iload_n hx hb dL_law_432 rfl (lv_at hl 3 rfl) ?_
        refine lv_iconst (v := nI 2) hx hb dL_law_433 (by decide) ?_
        refine lv_iadd hx hb dL_law_434 ?_
        rw [nI_add]
        refine jl_sld hx hb hX0 hbl hbA hwX.2.2.1 (show 5 * t + 2 < L by omega) (by omega) dL_law_435 ?_
        refine lv_aload_n hx hb dL_law_436 rfl (lv_at hl 0 rfl) ?_
        refine lv_iload_n hx hb dL_law_437 rfl (lv_at hl 3 rfl) ?_
        refine lv_iconst (v := nI 3) hx hb dL_law_438 (by decide) ?_
        refine lv_iadd hx hb dL_law_439 ?_
        rw [nI_add]
        refine jl_sld hx hb hX0 hbl hbA hwX.2.2.1 (show 5 * t + 3 < L by omega) (by omega) dL_law_440 ?_
        refine cl_L_52 (As := [.int (xs (5 * t + 1)), .int (xs (5 * t + 2)), .int (xs (5 * t + 3))]) (rest := []) hx hb hml hown hts hG hwX (c_X_walk l D ct hX (by omega)) rfl ⟨Nat.le_of_ble_eq_true rfl, Nat.le_of_ble_eq_true rfl⟩ hxL hfx hl.1 rfl (Nat.le_of_ble_eq_true rfl) dL_law_441 ⟨by show 30 + 3 * t + 0 ≤ 600000; omega, by show 17000 + 15 * t + 0 ≤ 7302250; omega⟩ (fun v L' f' H1 locs1 hp hw' hcf => ?_)
        obtain ⟨rfl, hX1⟩ := hp
        obtain ⟨hwM, hdis⟩ := jl_other hwM hdis hw' hcf
        have hwX := hw'
        generalize H1 = H at hwX hwM ⊢
        generalize locs1 = locs at hwX hwM ⊢
        clear hw' hcf
        refine lv_aload_n hx hb dL_law_444 rfl (lv_at hl 2 rfl) ?_
        refine lv_aload_n hx hb dL_law_445 rfl (lv_at hl 0 rfl) ?_
        refine lv_iload_n hx hb dL_law_446 rfl (lv_at hl 3 rfl) ?_
        refine lv_iconst (v := nI 1) hx hb dL_law_447 (by decide) ?_
        refine lv_iadd hx hb dL_law_448 ?_
        rw [nI_add]
        refine jl_sld hx hb hX0 hbl hbA hwM.2.2.1 (show 5 * t + 1 < L by omega) (by omega) dL_law_449 ?_
        refine lv_aload_n hx hb dL_law_450 rfl (lv_at hl 0 rfl) ?_
        refine lv_iload_n hx hb dL_law_451 rfl (lv_at hl 3 rfl) ?_
        refine lv_iconst (v := nI 2) hx hb dL_law_452 (by decide) ?_
        refine lv_iadd hx hb dL_law_453 ?_
        rw [nI_add]
        refine jl_sld hx hb hX0 hbl hbA hwM.2.2.1 (show 5 * t + 2 < L by omega) (by omega) dL_law_454 ?_
        refine lv_aload_n hx hb dL_law_455 rfl (lv_at hl 0 rfl) ?_
        refine lv_iload_n hx hb dL_law_456 rfl (lv_at hl 3 rfl) ?_
        refine lv_iconst (v := nI 3) hx hb dL_law_457 (by decide) ?_
        refine lv_iadd hx hb dL_law_458 ?_
        rw [nI_add]
        refine jl_sld hx hb hX0 hbl hbA hwM.2.2.1 (show 5 * t + 3 < L by omega) (by omega) dL_law_459 ?_
        have hdis2 : ∀ q ∈ Lm, q ∉ L' := fun q h1 h2 => hdis q h2 h1
        refine cl_L_56 (As := [.int (xs (5 * t + 1)), .int (xs (5 * t + 2)), .int (xs (5 * t + 3))]) (rest := [.int (sp_walk As (xs (5 * t + 1)) (xs (5 * t + 2)) (xs (5 * t + 3)))]) hx hb hml hown hts hG hwM (c_M_walk l D ct hM (by omega)) rfl ⟨Nat.le_of_ble_eq_true rfl, Nat.le_of_ble_eq_true rfl⟩ hyL hfy hl.1 rfl (Nat.le_of_ble_eq_true rfl) dL_law_460 ⟨by show 30 + 3 * t + 0 + 0 ≤ 600000; omega, by show 17000 + 15 * t + 0 + 0 ≤ 7302250; omega⟩ (fun v L2 f2 H1 locs1 hp hw' hcf => ?_)
        obtain ⟨rfl, hM1⟩ := hp
        obtain ⟨hwX, hdis3⟩ := jl_other hwX hdis2 hw' hcf
        have hwM := hw'
        have hdis : ∀ q ∈ L', q ∉ L2 := fun q h1 h2 => hdis3 q h2 h1
        refine lv_icmp_eq (tgt := 468) hx hb dL_law_463 (by decide) (fun _ => ?_) (fun h => absurd rfl h)
        refine lv_iinc (v := nI (5 * (t + 1))) (lv' := [(3, .int (nI (5 * (t + 1)))), (0, .ref b), (1, .ref x), (2, .ref y)]) hx hb dL_law_468 hl (k := 3) rfl (by show nI (5 * t) + nI 5 = nI (5 * (t + 1)); rw [nI_add]; rfl) (by decide) rfl (fun ls hl => ?_)
        refine lv_goto (tgt := 18) hx hb dL_law_471 (by decide) ?_
        refine W.widen (k := 30 + 3 * (t + 1)) (n := 17000 + 15 * (t + 1)) (by first | omega | (simp only []; omega)) (by first | omega | (simp only []; omega)) ?_
        exact ih (t + 1) x y _ _ _ _ _ _ _ ls (by omega) (by omega) (hX1.mono (Nat.le_succ _)) (hM1.mono (Nat.le_succ _)) hdis hwX hwM (lv_sub hl [1, 2, 3, 0] rfl)
      · refine lv_tableOut (tgt := 468) hx hb dL_law_32 (Or.inr (by rw [nI_toInt (by omega)]; omega)) (by decide) ?_
        refine lv_iinc (v := nI (5 * (t + 1))) (lv' := [(3, .int (nI (5 * (t + 1)))), (0, .ref b), (1, .ref x), (2, .ref y)]) hx hb dL_law_468 hl (k := 3) rfl (by show nI (5 * t) + nI 5 = nI (5 * (t + 1)); rw [nI_add]; rfl) (by decide) rfl (fun ls hl => ?_)
        refine lv_goto (tgt := 18) hx hb dL_law_471 (by decide) ?_
        refine W.widen (k := 30 + 3 * (t + 1)) (n := 17000 + 15 * (t + 1)) (by first | omega | (simp only []; omega)) (by first | omega | (simp only []; omega)) ?_
        exact ih (t + 1) x y _ _ _ _ _ _ _ ls (by omega) (by omega) (hX.mono (Nat.le_succ _)) (hM.mono (Nat.le_succ _)) hdis hwX hwM (lv_sub hl [1, 2, 3, 0] rfl)
set_option maxHeartbeats 4000000 in
set_option maxRecDepth 100000 in
theorem whole_start {p : Program} {e : Env} {s : State} {m : MethodId} {below : List Frame} {meth : Method} {c : Code} (l : Launch) {b L : Nat} {xs : Nat → Int32} (hL : L ≤ 2560) (C0 : lw_At p s m meth c b L xs) : W p l e room_1 s m #[Value.ref b] below meth c s.heap [] 0 0 (lw_Z below #[Value.ref b] s) (entryFrame m ([Value.ref b] : List Value).toArray 4) := by
  obtain ⟨hx, hb, hr, hml, hown, hts0, hX0, hbl, hlocks, hgv⟩ := id C0
  obtain ⟨D, ct, hG⟩ := jl_G hts0
  have hts : ∀ w ∈ jz_TT, w.before #[Value.ref b] s = true := fun w h => hts0 w (List.mem_filter.mp h).1
  have hw : jz_w D (fun q : Nat => s.heap.size ≤ q) s.heap [] (fun _ => .inr (0, [])) s.heap [] := ⟨fun k q h => by simp [va_pl] at h, ⟨fun i j p q h => by simp [va_pl] at h, fun k q h => by simp [va_pl] at h⟩, va_S.rf, fun _ h => h⟩
  have hl := lv_entry ([.ref b]) (n := 4) (Nat.le_of_ble_eq_true rfl)
  rw [lg_entry_eq]
  generalize (lg_sl ([.ref b]) ++ List.replicate (4 - (lg_sl ([.ref b])).length) Slot.unset).toArray = ls at hl ⊢
  have hl : lv_has ls 4 [(0, .ref b)] := hl
  refine jx_new (own := RL) (C := RX2) (T := TX2) (N := 1) (ci := 0) (fs := [.null]) hx hb hts jz_inX tyX2 tyX2_ok hown (by decide +kernel) (by decide +kernel) (by decide +kernel) hG hw rfl (fun j hj => by rcases (show j = 0 by omega) with rfl; rfl) (Nat.le_of_ble_eq_true rfl) (Nat.le_of_ble_eq_true rfl) dL_law_0 (fun x H hxN hw => ?_)
  refine lv_dup hx hb dL_law_3 rfl ?_
  refine cl_L_9 (As := []) (rest := [.ref x]) hx hb hml hown hts hG hw (c_X_init l D ct (List.mem_append_right _ (List.mem_singleton.mpr rfl)) (va_up_self _ _ _)) rfl ⟨Nat.le_of_ble_eq_true rfl, Nat.le_of_ble_eq_true rfl⟩ hl.1 rfl (Nat.le_of_ble_eq_true rfl) dL_law_4 ⟨Nat.le_of_ble_eq_true rfl, Nat.le_of_ble_eq_true rfl⟩ (fun v Lx fx H1 locs1 hp hw hcf => ?_)
  obtain ⟨rfl, hX⟩ := hp
  refine lv_astore_n (lv' := [(1, .ref x), (0, .ref b)]) hx hb dL_law_7 rfl hl (by decide) rfl (fun ls hl => ?_)
  refine jx_new (own := RL) (C := RX3) (T := TX3) (N := 4) (ci := 3) (fs := [.null, .null, .null, .null]) hx hb hts jz_inM tyX3 tyX3_ok hown (by decide +kernel) (by decide +kernel) (by decide +kernel) hG hw rfl (fun j hj => by rcases (show j = 0 ∨ j = 1 ∨ j = 2 ∨ j = 3 by omega) with rfl | rfl | rfl | rfl <;> rfl) (Nat.le_of_ble_eq_true rfl) (Nat.le_of_ble_eq_true rfl) dL_law_8 (fun y H hyN hw => ?_)
  obtain ⟨hwX, hwM⟩ := jl_split hyN hw
  have hdis : ∀ q ∈ [y], q ∉ Lx := fun q hq => by rw [List.mem_singleton.mp hq]; exact hyN
  refine lv_dup hx hb dL_law_11 rfl ?_
  refine cl_L_12 (As := []) (rest := [.ref y]) hx hb hml hown hts hG hwM (c_M_init l D ct (List.mem_singleton.mpr rfl) (va_up_self _ _ _)) rfl ⟨Nat.le_of_ble_eq_true rfl, Nat.le_of_ble_eq_true rfl⟩ hl.1 rfl (Nat.le_of_ble_eq_true rfl) dL_law_12 ⟨Nat.le_of_ble_eq_true rfl, Nat.le_of_ble_eq_true rfl⟩ (fun v Lm fm H2 locs2 hp hwM' hcf => ?_)
  obtain ⟨rfl, hM⟩ := hp
  obtain ⟨hwX, hdis2⟩ := jl_other hwX hdis hwM' hcf
  refine lv_astore_n (lv' := [(2, .ref y), (1, .ref x), (0, .ref b)]) hx hb dL_law_15 rfl hl (by decide) rfl (fun ls hl => ?_)
  refine lv_iconst (v := nI (5 * 0)) hx hb dL_law_16 (by decide) ?_
  refine lv_istore_n (lv' := [(3, .int (nI (5 * 0))), (2, .ref y), (1, .ref x), (0, .ref b)]) hx hb dL_law_17 rfl hl (by decide) rfl (fun ls hl => ?_)
  refine W.widen (k := 30 + 3 * 0) (n := 17000 + 15 * 0) (Nat.le_of_ble_eq_true rfl) (Nat.le_of_ble_eq_true rfl) ?_
  exact law_loop hL C0 hG (L + 1) 0 x y Lx Lm fx fm (fun _ => []) _ _ ls (by omega) (by omega) hX hM (fun q h1 h2 => hdis2 q h2 h1) hwX hwM' (lv_sub hl [3, 2, 1, 0] rfl)
