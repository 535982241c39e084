/-- the worlds' first cells -/
theorem JI.h1 {ca : Nat → ClassId} {F o m : Nat} {wc wm : va_W} (h : JI ca F o m wc wm) : (∃ (fs : List Value) (tl : va_W), wc = (o, .inr (3, fs)) :: tl) ∧ ∃ (fs : List Value) (tl : va_W), wm = (m, .inr (4, fs)) :: tl := by
  obtain ⟨pa, f, sa, sp, sz, q, g, tx, kd, wh, nu, a, f', hi, sn, be, ti, n, ln, rfl, rfl, rfl, hj⟩ := h
  exact ⟨⟨_, _, rfl⟩, ⟨_, _, rfl⟩⟩
theorem JI.mono {ca : Nat → ClassId} {F F' o m : Nat} {wc wm : va_W} (h : JI ca F o m wc wm) (hF : F ≤ F') : JI ca F' o m wc wm := by
  obtain ⟨pa, f, sa, sp, sz, q, g, tx, kd, wh, nu, a, f', hi, sn, be, ti, n, ln, e1, e2, e3, hj⟩ := h
  exact ⟨pa, f, sa, sp, _, q, g, tx, kd, wh, nu, a, f', hi, sn, be, ti, n, ln, e1, e2, e3, hj.mono hF⟩

theorem sw23 (x : Int32) : (x.toInt < (0 : Int32).toInt ∨ (22 : Int32).toInt < x.toInt) ∨ x = 0 ∨ x = 1 ∨ x = 2 ∨ x = 3 ∨ x = 4 ∨ x = 5 ∨ x = 6 ∨ x = 7 ∨ x = 8 ∨ x = 9 ∨ x = 10 ∨ x = 11 ∨ x = 12 ∨ x = 13 ∨ x = 14 ∨ x = 15 ∨ x = 16 ∨ x = 17 ∨ x = 18 ∨ x = 19 ∨ x = 20 ∨ x = 21 ∨ x = 22 := by
  by_cases h : inF x 0 22 = 0
  · exact Or.inl (inF_out h)
  · obtain ⟨k, hk, e⟩ := i32_nI (n := 22) (Or.inl rfl) rfl (by decide) (inF_ne h)
    subst e
    rcases (show k = 0 ∨ k = 1 ∨ k = 2 ∨ k = 3 ∨ k = 4 ∨ k = 5 ∨ k = 6 ∨ k = 7 ∨ k = 8 ∨ k = 9 ∨ k = 10 ∨ k = 11 ∨ k = 12 ∨ k = 13 ∨ k = 14 ∨ k = 15 ∨ k = 16 ∨ k = 17 ∨ k = 18 ∨ k = 19 ∨ k = 20 ∨ k = 21 ∨ k = 22 by omega) with rfl | rfl | rfl | rfl | rfl | rfl | rfl | rfl | rfl | rfl | rfl | rfl | rfl | rfl | rfl | rfl | rfl | rfl | rfl | rfl | rfl | rfl | rfl <;> decide
set_option maxHeartbeats 8000000 in
set_option maxRecDepth 100000 in
/-- THE LAW'S LOOP -/
theorem law_loop {p : Program} {l : Launch} {e : Env} {s : State} {m : MethodId} {below : List Frame} {meth : Method} {c : Code} {G : va_G} {ca : Nat → ClassId} {b L : Nat} {xs : Nat → Int32} (hL : L ≤ 2048) (C0 : lw_At p s m meth c b L xs) (o mo : Nat) :
    ∀ (n i : Nat), i ≤ L → L + 1 ≤ i + n → ∀ (wc wm : va_W), JI ca (6000 * i) o mo wc wm → ∀ (H : Heap) (locs : List Loc), zw G ca (fun q : Nat => s.heap.size ≤ q) s.heap s (wc ++ wm) H locs → ∀ (ls : Array Slot), lv_has ls 4 [(3, .int (nI i)), (2, .ref mo), (1, .ref o), (0, .ref b)] → W p l e room_1 s m #[Value.ref b] below meth c H locs 600000 7302250 (lw_Z below #[Value.ref b] s) (F0 m 18 ls []) := by
  obtain ⟨hx, hb, hr, hml, hown, hts9, hX, hbl, hlocks, hgv⟩ := id C0
  have hts : ∀ w ∈ wsL_law, w.before #[Value.ref b] s = true := fun w h => hts9 w (wsL_law_in w h)
  have hbA : ¬ (fun q : Nat => s.heap.size ≤ q) b := Nat.not_le.mpr hbl
  intro n
  induction n with
  | zero =>
    intro i h1 h2
    exact absurd h2 (by omega)
  | succ n ih =>
    intro i hi hin wc wm hJ H locs hz ls hl
    refine lv_iload_n (pc := 18) hx hb dL_law_18 rfl (lv_at hl 0 rfl) ?_
    refine lv_aload_n (pc := 19) hx hb dL_law_19 rfl (lv_at hl 3 rfl) ?_
    refine va_slen (pc := 20) hx hb hX hbl hbA hz.2.2.2.1 dL_law_20 ?_
    refine lv_iconst (pc := 21) (v := 4) hx hb dL_law_21 (by decide) ?_
    refine lv_isub (pc := 22) hx hb dL_law_22 ?_
    refine lv_icmp_gt (pc := 23) (tgt := 677) hx hb dL_law_23 (by decide) (fun c_23 => ?_) (fun c_23 => ?_)
    · refine lv_iconst (pc := 677) (v := 1) hx hb dL_law_677 (by decide) ?_
      refine va_forget (fun q hq => hz.2.2.2.1.2.2 q hq) ?_
      exact lw_ret hx hb hr hlocks dL_law_678
    have h4 : i + 4 ≤ L := by
      have c' : ¬ nI L - 4 < nI i := c_23
      by_cases q : 4 ≤ L
      · rw [show (4 : Int32) = nI 4 from rfl, nI_subI q, nI_ltI (by omega) (by omega)] at c'
        omega
      · exfalso
        refine c' (Int32.lt_of_lt_of_le (b := 0) ?_ (nI_pos' (by omega)))
        rcases (show L = 0 ∨ L = 1 ∨ L = 2 ∨ L = 3 by omega) with rfl | rfl | rfl | rfl <;> decide
    -- behind a case: the next one
    have hend : ∀ (k : Nat) (wc1 wm1 : va_W), k ≤ 6000 → JI ca (6000 * i + k) o mo wc1 wm1 → ∀ (H : Heap) (locs : List Loc), zw G ca (fun q : Nat => s.heap.size ≤ q) s.heap s (wc1 ++ wm1) H locs → ∀ (ls : Array Slot), lv_has ls 4 [(3, .int (nI i)), (2, .ref mo), (1, .ref o), (0, .ref b)] → W p l e room_1 s m #[Value.ref b] below meth c H locs 600000 7302250 (lw_Z below #[Value.ref b] s) (F0 m 671 ls []) := by
      intro k wc1 wm1 hk hJ1 H locs hz ls hl
      refine lv_iinc (v := nI (i + 4)) (lv' := [(3, .int (nI (i + 4))), (2, .ref mo), (1, .ref o), (0, .ref b)]) (pc := 671) hx hb dL_law_671 hl (k := 0) rfl (nI_add i 4) (by decide) rfl (fun ls hl => ?_)
      refine lv_goto (tgt := 18) (pc := 674) hx hb dL_law_674 (by decide) ?_
      exact ih (i + 4) h4 (by omega) wc1 wm1 (hJ1.mono (by omega)) H locs hz ls hl
    obtain ⟨⟨fs1, tl1, e1⟩, fs2, tl2, e2⟩ := hJ.h1
    refine lv_aload_n (pc := 26) hx hb dL_law_26 rfl (lv_at hl 3 rfl) ?_
    refine lv_iload_n (pc := 27) hx hb dL_law_27 rfl (lv_at hl 0 rfl) ?_
    refine va_sld (pc := 28) hx hb hX hbl hbA hz.2.2.2.1 (vp_in_nI (show i < L by omega) (by omega)) dL_law_28 ?_
    refine lv_bipush (pc := 29) (v := 31) hx hb dL_law_29 (by decide) ?_
    refine lv_iand (pc := 31) hx hb dL_law_31 ?_
    obtain ⟨x1, hx1⟩ : ∃ x : Int32, x = xs (nI (i + 1)).toNatClampNeg := ⟨_, rfl⟩
    obtain ⟨x2, hx2⟩ : ∃ x : Int32, x = xs (nI (i + 2)).toNatClampNeg := ⟨_, rfl⟩
    obtain ⟨x3, hx3⟩ : ∃ x : Int32, x = xs (nI (i + 3)).toNatClampNeg := ⟨_, rfl⟩
    generalize xs (nI i).toNatClampNeg &&& 31 = x0
    rcases sw23 x0 with hs | rfl | rfl | rfl | rfl | rfl | rfl | rfl | rfl | rfl | rfl | rfl | rfl | rfl | rfl | rfl | rfl | rfl | rfl | rfl | rfl | rfl | rfl | rfl
    · refine lv_tableOut (tgt := 671) (pc := 32) hx hb dL_law_32 hs (by decide) ?_
      exact hend 0 wc wm (by omega) hJ H locs hz ls hl
    · refine lv_tableIn (off := 108) (tgt := 140) (pc := 32) hx hb dL_law_32 (by decide) (by decide) (by decide) (by decide) ?_
      obtain ⟨v, wc1, wm1, k1, k2, hJ1⟩ := s_setCup (l := l) (G := G) (show 6000 * i < 2 ^ 25 by omega) hJ x1 x2 x3
      refine lv_aload_n (pc := 140) hx hb dL_law_140 rfl (lv_at hl 2 rfl) ?_
      refine lv_aload_n (pc := 141) hx hb dL_law_141 rfl (lv_at hl 3 rfl) ?_
      refine lv_iload_n (pc := 142) hx hb dL_law_142 rfl (lv_at hl 0 rfl) ?_
      refine lv_iconst (v := 1) (pc := 143) hx hb dL_law_143 (by decide) ?_
      refine lv_iadd (pc := 144) hx hb dL_law_144 ?_
      refine z_top (y := nI (i + 1)) (nI_add i 1) ?_
      refine va_sld (pc := 145) hx hb hX hbl hbA hz.2.2.2.1 (vp_in_nI (show i + 1 < L by omega) (by omega)) dL_law_145 ?_
      refine z_top (y := x1) hx1.symm ?_
      refine lv_aload_n (pc := 146) hx hb dL_law_146 rfl (lv_at hl 3 rfl) ?_
      refine lv_iload_n (pc := 147) hx hb dL_law_147 rfl (lv_at hl 0 rfl) ?_
      refine lv_iconst (v := 2) (pc := 148) hx hb dL_law_148 (by decide) ?_
      refine lv_iadd (pc := 149) hx hb dL_law_149 ?_
      refine z_top (y := nI (i + 2)) (nI_add i 2) ?_
      refine va_sld (pc := 150) hx hb hX hbl hbA hz.2.2.2.1 (vp_in_nI (show i + 2 < L by omega) (by omega)) dL_law_150 ?_
      refine z_top (y := x2) hx2.symm ?_
      refine lv_aload_n (pc := 151) hx hb dL_law_151 rfl (lv_at hl 3 rfl) ?_
      refine lv_iload_n (pc := 152) hx hb dL_law_152 rfl (lv_at hl 0 rfl) ?_
      refine lv_iconst (v := 3) (pc := 153) hx hb dL_law_153 (by decide) ?_
      refine lv_iadd (pc := 154) hx hb dL_law_154 ?_
      refine z_top (y := nI (i + 3)) (nI_add i 3) ?_
      refine va_sld (pc := 155) hx hb hX hbl hbA hz.2.2.2.1 (vp_in_nI (show i + 3 < L by omega) (by omega)) dL_law_155 ?_
      refine z_top (y := x3) hx3.symm ?_
      refine z_runV (pc := 156) (As := [.int x1, .int x2, .int x3]) (rest := []) (ws1 := wc1 ++ wm) ⟨hx, hb, hml, hown, hts⟩ k1 (cwV 3 hts (zgoodV (fun _ h => h) wq_4_17 wq_4_18 wq_4_19 wq_1_2 wq_4_20) rfl rfl rfl hdV_X3_setCup ⟨Nat.le_of_ble_eq_true rfl, Nat.le_of_ble_eq_true rfl⟩) hz wm (List.Perm.refl _) (List.Perm.refl _) e1 rfl rfl hl.1 (Nat.le_of_ble_eq_true rfl) (st1 := [.int v]) rfl dL_law_156 ⟨Nat.le_of_ble_eq_true rfl, Nat.le_of_ble_eq_true rfl⟩ (fun H locs hz => ?_)
      refine lv_aload_n (pc := 159) hx hb dL_law_159 rfl (lv_at hl 1 rfl) ?_
      refine lv_aload_n (pc := 160) hx hb dL_law_160 rfl (lv_at hl 3 rfl) ?_
      refine lv_iload_n (pc := 161) hx hb dL_law_161 rfl (lv_at hl 0 rfl) ?_
      refine lv_iconst (v := 1) (pc := 162) hx hb dL_law_162 (by decide) ?_
      refine lv_iadd (pc := 163) hx hb dL_law_163 ?_
      refine z_top (y := nI (i + 1)) (nI_add i 1) ?_
      refine va_sld (pc := 164) hx hb hX hbl hbA hz.2.2.2.1 (vp_in_nI (show i + 1 < L by omega) (by omega)) dL_law_164 ?_
      refine z_top (y := x1) hx1.symm ?_
      refine lv_aload_n (pc := 165) hx hb dL_law_165 rfl (lv_at hl 3 rfl) ?_
      refine lv_iload_n (pc := 166) hx hb dL_law_166 rfl (lv_at hl 0 rfl) ?_
      refine lv_iconst (v := 2) (pc := 167) hx hb dL_law_167 (by decide) ?_
      refine lv_iadd (pc := 168) hx hb dL_law_168 ?_
      refine z_top (y := nI (i + 2)) (nI_add i 2) ?_
      refine va_sld (pc := 169) hx hb hX hbl hbA hz.2.2.2.1 (vp_in_nI (show i + 2 < L by omega) (by omega)) dL_law_169 ?_
      refine z_top (y := x2) hx2.symm ?_
      refine lv_aload_n (pc := 170) hx hb dL_law_170 rfl (lv_at hl 3 rfl) ?_
      refine lv_iload_n (pc := 171) hx hb dL_law_171 rfl (lv_at hl 0 rfl) ?_
      refine lv_iconst (v := 3) (pc := 172) hx hb dL_law_172 (by decide) ?_
      refine lv_iadd (pc := 173) hx hb dL_law_173 ?_
      refine z_top (y := nI (i + 3)) (nI_add i 3) ?_
      refine va_sld (pc := 174) hx hb hX hbl hbA hz.2.2.2.1 (vp_in_nI (show i + 3 < L by omega) (by omega)) dL_law_174 ?_
      refine z_top (y := x3) hx3.symm ?_
      refine z_runV (pc := 175) (As := [.int x1, .int x2, .int x3]) (rest := [.int v]) (ws1 := wc1 ++ wm1) ⟨hx, hb, hml, hown, hts⟩ k2 (cwV 3 hts (zgoodV (fun _ h => h) wq_6_11 wq_6_12 wq_6_13 wq_1_5 wq_6_14) rfl rfl rfl hdV_X4_setCup ⟨Nat.le_of_ble_eq_true rfl, Nat.le_of_ble_eq_true rfl⟩) hz wc1 List.perm_append_comm List.perm_append_comm e2 rfl rfl hl.1 (Nat.le_of_ble_eq_true rfl) (st1 := [.int v, .int v]) rfl dL_law_175 ⟨Nat.le_of_ble_eq_true rfl, Nat.le_of_ble_eq_true rfl⟩ (fun H locs hz => ?_)
      refine lv_icmp_eq (pc := 178) (tgt := 671) hx hb dL_law_178 (by decide) (fun _ => ?_) (fun c9 => absurd rfl c9)
      exact hend 6000 wc1 wm1 (by omega) hJ1 H locs hz ls hl
    · refine lv_tableIn (off := 151) (tgt := 183) (pc := 32) hx hb dL_law_32 (by decide) (by decide) (by decide) (by decide) ?_
      obtain ⟨v, wc1, wm1, k1, k2, hJ1⟩ := s_turnLock (l := l) (G := G) (show 6000 * i < 2 ^ 25 by omega) hJ x1
      refine lv_aload_n (pc := 183) hx hb dL_law_183 rfl (lv_at hl 2 rfl) ?_
      refine lv_aload_n (pc := 184) hx hb dL_law_184 rfl (lv_at hl 3 rfl) ?_
      refine lv_iload_n (pc := 185) hx hb dL_law_185 rfl (lv_at hl 0 rfl) ?_
      refine lv_iconst (v := 1) (pc := 186) hx hb dL_law_186 (by decide) ?_
      refine lv_iadd (pc := 187) hx hb dL_law_187 ?_
      refine z_top (y := nI (i + 1)) (nI_add i 1) ?_
      refine va_sld (pc := 188) hx hb hX hbl hbA hz.2.2.2.1 (vp_in_nI (show i + 1 < L by omega) (by omega)) dL_law_188 ?_
      refine z_top (y := x1) hx1.symm ?_
      refine z_runV (pc := 189) (As := [.int x1]) (rest := []) (ws1 := wc1 ++ wm) ⟨hx, hb, hml, hown, hts⟩ k1 (cwV 1 hts (zgoodV (fun _ h => h) wq_8_0 wq_8_1 wq_8_2 wq_1_2 wq_8_3) rfl rfl rfl hdV_X3_turnLock ⟨Nat.le_of_ble_eq_true rfl, Nat.le_of_ble_eq_true rfl⟩) hz wm (List.Perm.refl _) (List.Perm.refl _) e1 rfl rfl hl.1 (Nat.le_of_ble_eq_true rfl) (st1 := [.int v]) rfl dL_law_189 ⟨Nat.le_of_ble_eq_true rfl, Nat.le_of_ble_eq_true rfl⟩ (fun H locs hz => ?_)
      refine lv_aload_n (pc := 192) hx hb dL_law_192 rfl (lv_at hl 1 rfl) ?_
      refine lv_aload_n (pc := 193) hx hb dL_law_193 rfl (lv_at hl 3 rfl) ?_
      refine lv_iload_n (pc := 194) hx hb dL_law_194 rfl (lv_at hl 0 rfl) ?_
      refine lv_iconst (v := 1) (pc := 195) hx hb dL_law_195 (by decide) ?_
      refine lv_iadd (pc := 196) hx hb dL_law_196 ?_
      refine z_top (y := nI (i + 1)) (nI_add i 1) ?_
      refine va_sld (pc := 197) hx hb hX hbl hbA hz.2.2.2.1 (vp_in_nI (show i + 1 < L by omega) (by omega)) dL_law_197 ?_
      refine z_top (y := x1) hx1.symm ?_
      refine z_runV (pc := 198) (As := [.int x1]) (rest := [.int v]) (ws1 := wc1 ++ wm1) ⟨hx, hb, hml, hown, hts⟩ k2 (cwV 1 hts (zgoodV (fun _ h => h) wq_8_10 wq_8_11 wq_8_12 wq_1_5 wq_8_13) rfl rfl rfl hdV_X4_turnLock ⟨Nat.le_of_ble_eq_true rfl, Nat.le_of_ble_eq_true rfl⟩) hz wc1 List.perm_append_comm List.perm_append_comm e2 rfl rfl hl.1 (Nat.le_of_ble_eq_true rfl) (st1 := [.int v, .int v]) rfl dL_law_198 ⟨Nat.le_of_ble_eq_true rfl, Nat.le_of_ble_eq_true rfl⟩ (fun H locs hz => ?_)
      refine lv_icmp_eq (pc := 201) (tgt := 671) hx hb dL_law_201 (by decide) (fun _ => ?_) (fun c9 => absurd rfl c9)
      exact hend 6000 wc1 wm1 (by omega) hJ1 H locs hz ls hl
    · refine lv_tableIn (off := 174) (tgt := 206) (pc := 32) hx hb dL_law_32 (by decide) (by decide) (by decide) (by decide) ?_
      obtain ⟨v, wc1, wm1, k1, k2, hJ1⟩ := s_setHour (l := l) (G := G) (show 6000 * i < 2 ^ 25 by omega) hJ x1 x2
      refine lv_aload_n (pc := 206) hx hb dL_law_206 rfl (lv_at hl 2 rfl) ?_
      refine lv_aload_n (pc := 207) hx hb dL_law_207 rfl (lv_at hl 3 rfl) ?_
      refine lv_iload_n (pc := 208) hx hb dL_law_208 rfl (lv_at hl 0 rfl) ?_
      refine lv_iconst (v := 1) (pc := 209) hx hb dL_law_209 (by decide) ?_
      refine lv_iadd (pc := 210) hx hb dL_law_210 ?_
      refine z_top (y := nI (i + 1)) (nI_add i 1) ?_
      refine va_sld (pc := 211) hx hb hX hbl hbA hz.2.2.2.1 (vp_in_nI (show i + 1 < L by omega) (by omega)) dL_law_211 ?_
      refine z_top (y := x1) hx1.symm ?_
      refine lv_aload_n (pc := 212) hx hb dL_law_212 rfl (lv_at hl 3 rfl) ?_
      refine lv_iload_n (pc := 213) hx hb dL_law_213 rfl (lv_at hl 0 rfl) ?_
      refine lv_iconst (v := 2) (pc := 214) hx hb dL_law_214 (by decide) ?_
      refine lv_iadd (pc := 215) hx hb dL_law_215 ?_
      refine z_top (y := nI (i + 2)) (nI_add i 2) ?_
      refine va_sld (pc := 216) hx hb hX hbl hbA hz.2.2.2.1 (vp_in_nI (show i + 2 < L by omega) (by omega)) dL_law_216 ?_
      refine z_top (y := x2) hx2.symm ?_
      refine z_runV (pc := 217) (As := [.int x1, .int x2]) (rest := []) (ws1 := wc1 ++ wm) ⟨hx, hb, hml, hown, hts⟩ k1 (cwV 2 hts (zgoodV (fun _ h => h) wq_8_18 wq_8_19 wq_8_20 wq_1_2 wq_8_21) rfl rfl rfl hdV_X3_setHour ⟨Nat.le_of_ble_eq_true rfl, Nat.le_of_ble_eq_true rfl⟩) hz wm (List.Perm.refl _) (List.Perm.refl _) e1 rfl rfl hl.1 (Nat.le_of_ble_eq_true rfl) (st1 := [.int v]) rfl dL_law_217 ⟨Nat.le_of_ble_eq_true rfl, Nat.le_of_ble_eq_true rfl⟩ (fun H locs hz => ?_)
      refine lv_aload_n (pc := 220) hx hb dL_law_220 rfl (lv_at hl 1 rfl) ?_
      refine lv_aload_n (pc := 221) hx hb dL_law_221 rfl (lv_at hl 3 rfl) ?_
      refine lv_iload_n (pc := 222) hx hb dL_law_222 rfl (lv_at hl 0 rfl) ?_
      refine lv_iconst (v := 1) (pc := 223) hx hb dL_law_223 (by decide) ?_
      refine lv_iadd (pc := 224) hx hb dL_law_224 ?_
      refine z_top (y := nI (i + 1)) (nI_add i 1) ?_
      refine va_sld (pc := 225) hx hb hX hbl hbA hz.2.2.2.1 (vp_in_nI (show i + 1 < L by omega) (by omega)) dL_law_225 ?_
      refine z_top (y := x1) hx1.symm ?_
      refine lv_aload_n (pc := 226) hx hb dL_law_226 rfl (lv_at hl 3 rfl) ?_
      refine lv_iload_n (pc := 227) hx hb dL_law_227 rfl (lv_at hl 0 rfl) ?_
      refine lv_iconst (v := 2) (pc := 228) hx hb dL_law_228 (by decide) ?_
      refine lv_iadd (pc := 229) hx hb dL_law_229 ?_
      refine z_top (y := nI (i + 2)) (nI_add i 2) ?_
      refine va_sld (pc := 230) hx hb hX hbl hbA hz.2.2.2.1 (vp_in_nI (show i + 2 < L by omega) (by omega)) dL_law_230 ?_
      refine z_top (y := x2) hx2.symm ?_
      refine z_runV (pc := 231) (As := [.int x1, .int x2]) (rest := [.int v]) (ws1 := wc1 ++ wm1) ⟨hx, hb, hml, hown, hts⟩ k2 (cwV 2 hts (zgoodV (fun _ h => h) wq_9_3 wq_9_4 wq_9_5 wq_1_5 wq_9_6) rfl rfl rfl hdV_X4_setHour ⟨Nat.le_of_ble_eq_true rfl, Nat.le_of_ble_eq_true rfl⟩) hz wc1 List.perm_append_comm List.perm_append_comm e2 rfl rfl hl.1 (Nat.le_of_ble_eq_true rfl) (st1 := [.int v, .int v]) rfl dL_law_231 ⟨Nat.le_of_ble_eq_true rfl, Nat.le_of_ble_eq_true rfl⟩ (fun H locs hz => ?_)
      refine lv_icmp_eq (pc := 234) (tgt := 671) hx hb dL_law_234 (by decide) (fun _ => ?_) (fun c9 => absurd rfl c9)
      exact hend 6000 wc1 wm1 (by omega) hJ1 H locs hz ls hl
    · refine lv_tableIn (off := 207) (tgt := 239) (pc := 32) hx hb dL_law_32 (by decide) (by decide) (by decide) (by decide) ?_
      obtain ⟨v, wc1, wm1, k1, k2, hJ1⟩ := s_guard (l := l) (G := G) (show 6000 * i < 2 ^ 25 by omega) hJ x1
      refine lv_aload_n (pc := 239) hx hb dL_law_239 rfl (lv_at hl 2 rfl) ?_
      refine lv_aload_n (pc := 240) hx hb dL_law_240 rfl (lv_at hl 3 rfl) ?_
      refine lv_iload_n (pc := 241) hx hb dL_law_241 rfl (lv_at hl 0 rfl) ?_
      refine lv_iconst (v := 1) (pc := 242) hx hb dL_law_242 (by decide) ?_
      refine lv_iadd (pc := 243) hx hb dL_law_243 ?_
      refine z_top (y := nI (i + 1)) (nI_add i 1) ?_
      refine va_sld (pc := 244) hx hb hX hbl hbA hz.2.2.2.1 (vp_in_nI (show i + 1 < L by omega) (by omega)) dL_law_244 ?_
      refine z_top (y := x1) hx1.symm ?_
      refine z_runV (pc := 245) (As := [.int x1]) (rest := []) (ws1 := wc1 ++ wm) ⟨hx, hb, hml, hown, hts⟩ k1 (cwV 1 hts (zgoodV (fun _ h => h) wq_9_11 wq_9_12 wq_9_13 wq_1_2 wq_9_14) rfl rfl rfl hdV_X3_guard ⟨Nat.le_of_ble_eq_true rfl, Nat.le_of_ble_eq_true rfl⟩) hz wm (List.Perm.refl _) (List.Perm.refl _) e1 rfl rfl hl.1 (Nat.le_of_ble_eq_true rfl) (st1 := [.int v]) rfl dL_law_245 ⟨Nat.le_of_ble_eq_true rfl, Nat.le_of_ble_eq_true rfl⟩ (fun H locs hz => ?_)
      refine lv_aload_n (pc := 248) hx hb dL_law_248 rfl (lv_at hl 1 rfl) ?_
      refine lv_aload_n (pc := 249) hx hb dL_law_249 rfl (lv_at hl 3 rfl) ?_
      refine lv_iload_n (pc := 250) hx hb dL_law_250 rfl (lv_at hl 0 rfl) ?_
      refine lv_iconst (v := 1) (pc := 251) hx hb dL_law_251 (by decide) ?_
      refine lv_iadd (pc := 252) hx hb dL_law_252 ?_
      refine z_top (y := nI (i + 1)) (nI_add i 1) ?_
      refine va_sld (pc := 253) hx hb hX hbl hbA hz.2.2.2.1 (vp_in_nI (show i + 1 < L by omega) (by omega)) dL_law_253 ?_
      refine z_top (y := x1) hx1.symm ?_
      refine z_runV (pc := 254) (As := [.int x1]) (rest := [.int v]) (ws1 := wc1 ++ wm1) ⟨hx, hb, hml, hown, hts⟩ k2 (cwV 1 hts (zgoodV (fun _ h => h) wq_9_19 wq_9_20 wq_9_21 wq_1_5 wq_9_22) rfl rfl rfl hdV_X4_guard ⟨Nat.le_of_ble_eq_true rfl, Nat.le_of_ble_eq_true rfl⟩) hz wc1 List.perm_append_comm List.perm_append_comm e2 rfl rfl hl.1 (Nat.le_of_ble_eq_true rfl) (st1 := [.int v, .int v]) rfl dL_law_254 ⟨Nat.le_of_ble_eq_true rfl, Nat.le_of_ble_eq_true rfl⟩ (fun H locs hz => ?_)
      refine lv_icmp_eq (pc := 257) (tgt := 671) hx hb dL_law_257 (by decide) (fun _ => ?_) (fun c9 => absurd rfl c9)
      exact hend 6000 wc1 wm1 (by omega) hJ1 H locs hz ls hl
    · refine lv_tableIn (off := 230) (tgt := 262) (pc := 32) hx hb dL_law_32 (by decide) (by decide) (by decide) (by decide) ?_
      obtain ⟨v, wc1, wm1, k1, k2, hJ1⟩ := s_fill (l := l) (G := G) (show 6000 * i < 2 ^ 25 by omega) hJ x1 x2
      refine lv_aload_n (pc := 262) hx hb dL_law_262 rfl (lv_at hl 2 rfl) ?_
      refine lv_aload_n (pc := 263) hx hb dL_law_263 rfl (lv_at hl 3 rfl) ?_
      refine lv_iload_n (pc := 264) hx hb dL_law_264 rfl (lv_at hl 0 rfl) ?_
      refine lv_iconst (v := 1) (pc := 265) hx hb dL_law_265 (by decide) ?_
      refine lv_iadd (pc := 266) hx hb dL_law_266 ?_
      refine z_top (y := nI (i + 1)) (nI_add i 1) ?_
      refine va_sld (pc := 267) hx hb hX hbl hbA hz.2.2.2.1 (vp_in_nI (show i + 1 < L by omega) (by omega)) dL_law_267 ?_
      refine z_top (y := x1) hx1.symm ?_
      refine lv_aload_n (pc := 268) hx hb dL_law_268 rfl (lv_at hl 3 rfl) ?_
      refine lv_iload_n (pc := 269) hx hb dL_law_269 rfl (lv_at hl 0 rfl) ?_
      refine lv_iconst (v := 2) (pc := 270) hx hb dL_law_270 (by decide) ?_
      refine lv_iadd (pc := 271) hx hb dL_law_271 ?_
      refine z_top (y := nI (i + 2)) (nI_add i 2) ?_
      refine va_sld (pc := 272) hx hb hX hbl hbA hz.2.2.2.1 (vp_in_nI (show i + 2 < L by omega) (by omega)) dL_law_272 ?_
      refine z_top (y := x2) hx2.symm ?_
      refine z_runV (pc := 273) (As := [.int x1, .int x2]) (rest := []) (ws1 := wc1 ++ wm) ⟨hx, hb, hml, hown, hts⟩ k1 (cwV 2 hts (zgoodV (fun _ h => h) wq_10_3 wq_10_4 wq_10_5 wq_1_2 wq_10_6) rfl rfl rfl hdV_X3_fill ⟨Nat.le_of_ble_eq_true rfl, Nat.le_of_ble_eq_true rfl⟩) hz wm (List.Perm.refl _) (List.Perm.refl _) e1 rfl rfl hl.1 (Nat.le_of_ble_eq_true rfl) (st1 := [.int v]) rfl dL_law_273 ⟨Nat.le_of_ble_eq_true rfl, Nat.le_of_ble_eq_true rfl⟩ (fun H locs hz => ?_)
      refine lv_aload_n (pc := 276) hx hb dL_law_276 rfl (lv_at hl 1 rfl) ?_
      refine lv_aload_n (pc := 277) hx hb dL_law_277 rfl (lv_at hl 3 rfl) ?_
      refine lv_iload_n (pc := 278) hx hb dL_law_278 rfl (lv_at hl 0 rfl) ?_
      refine lv_iconst (v := 1) (pc := 279) hx hb dL_law_279 (by decide) ?_
      refine lv_iadd (pc := 280) hx hb dL_law_280 ?_
      refine z_top (y := nI (i + 1)) (nI_add i 1) ?_
      refine va_sld (pc := 281) hx hb hX hbl hbA hz.2.2.2.1 (vp_in_nI (show i + 1 < L by omega) (by omega)) dL_law_281 ?_
      refine z_top (y := x1) hx1.symm ?_
      refine lv_aload_n (pc := 282) hx hb dL_law_282 rfl (lv_at hl 3 rfl) ?_
      refine lv_iload_n (pc := 283) hx hb dL_law_283 rfl (lv_at hl 0 rfl) ?_
      refine lv_iconst (v := 2) (pc := 284) hx hb dL_law_284 (by decide) ?_
      refine lv_iadd (pc := 285) hx hb dL_law_285 ?_
      refine z_top (y := nI (i + 2)) (nI_add i 2) ?_
      refine va_sld (pc := 286) hx hb hX hbl hbA hz.2.2.2.1 (vp_in_nI (show i + 2 < L by omega) (by omega)) dL_law_286 ?_
      refine z_top (y := x2) hx2.symm ?_
      refine z_runV (pc := 287) (As := [.int x1, .int x2]) (rest := [.int v]) (ws1 := wc1 ++ wm1) ⟨hx, hb, hml, hown, hts⟩ k2 (cwV 2 hts (zgoodV (fun _ h => h) wq_10_12 wq_10_13 wq_10_14 wq_1_5 wq_10_15) rfl rfl rfl hdV_X4_fill ⟨Nat.le_of_ble_eq_true rfl, Nat.le_of_ble_eq_true rfl⟩) hz wc1 List.perm_append_comm List.perm_append_comm e2 rfl rfl hl.1 (Nat.le_of_ble_eq_true rfl) (st1 := [.int v, .int v]) rfl dL_law_287 ⟨Nat.le_of_ble_eq_true rfl, Nat.le_of_ble_eq_true rfl⟩ (fun H locs hz => ?_)
      refine lv_icmp_eq (pc := 290) (tgt := 671) hx hb dL_law_290 (by decide) (fun _ => ?_) (fun c9 => absurd rfl c9)
      exact hend 6000 wc1 wm1 (by omega) hJ1 H locs hz ls hl
    · refine lv_tableIn (off := 263) (tgt := 295) (pc := 32) hx hb dL_law_32 (by decide) (by decide) (by decide) (by decide) ?_
      obtain ⟨v, wc1, wm1, k1, k2, hJ1⟩ := s_set (l := l) (G := G) (show 6000 * i < 2 ^ 25 by omega) hJ x1 x2
      refine lv_aload_n (pc := 295) hx hb dL_law_295 rfl (lv_at hl 2 rfl) ?_
      refine lv_aload_n (pc := 296) hx hb dL_law_296 rfl (lv_at hl 3 rfl) ?_
      refine lv_iload_n (pc := 297) hx hb dL_law_297 rfl (lv_at hl 0 rfl) ?_
      refine lv_iconst (v := 1) (pc := 298) hx hb dL_law_298 (by decide) ?_
      refine lv_iadd (pc := 299) hx hb dL_law_299 ?_
      refine z_top (y := nI (i + 1)) (nI_add i 1) ?_
      refine va_sld (pc := 300) hx hb hX hbl hbA hz.2.2.2.1 (vp_in_nI (show i + 1 < L by omega) (by omega)) dL_law_300 ?_
      refine z_top (y := x1) hx1.symm ?_
      refine lv_aload_n (pc := 301) hx hb dL_law_301 rfl (lv_at hl 3 rfl) ?_
      refine lv_iload_n (pc := 302) hx hb dL_law_302 rfl (lv_at hl 0 rfl) ?_
      refine lv_iconst (v := 2) (pc := 303) hx hb dL_law_303 (by decide) ?_
      refine lv_iadd (pc := 304) hx hb dL_law_304 ?_
      refine z_top (y := nI (i + 2)) (nI_add i 2) ?_
      refine va_sld (pc := 305) hx hb hX hbl hbA hz.2.2.2.1 (vp_in_nI (show i + 2 < L by omega) (by omega)) dL_law_305 ?_
      refine z_top (y := x2) hx2.symm ?_
      refine z_runV (pc := 306) (As := [.int x1, .int x2]) (rest := []) (ws1 := wc1 ++ wm) ⟨hx, hb, hml, hown, hts⟩ k1 (cwV 2 hts (zgoodV (fun _ h => h) wq_10_20 wq_10_21 wq_10_22 wq_1_2 wq_10_23) rfl rfl rfl hdV_X3_set ⟨Nat.le_of_ble_eq_true rfl, Nat.le_of_ble_eq_true rfl⟩) hz wm (List.Perm.refl _) (List.Perm.refl _) e1 rfl rfl hl.1 (Nat.le_of_ble_eq_true rfl) (st1 := [.int v]) rfl dL_law_306 ⟨Nat.le_of_ble_eq_true rfl, Nat.le_of_ble_eq_true rfl⟩ (fun H locs hz => ?_)
      refine lv_aload_n (pc := 309) hx hb dL_law_309 rfl (lv_at hl 1 rfl) ?_
      refine lv_aload_n (pc := 310) hx hb dL_law_310 rfl (lv_at hl 3 rfl) ?_
      refine lv_iload_n (pc := 311) hx hb dL_law_311 rfl (lv_at hl 0 rfl) ?_
      refine lv_iconst (v := 1) (pc := 312) hx hb dL_law_312 (by decide) ?_
      refine lv_iadd (pc := 313) hx hb dL_law_313 ?_
      refine z_top (y := nI (i + 1)) (nI_add i 1) ?_
      refine va_sld (pc := 314) hx hb hX hbl hbA hz.2.2.2.1 (vp_in_nI (show i + 1 < L by omega) (by omega)) dL_law_314 ?_
      refine z_top (y := x1) hx1.symm ?_
      refine lv_aload_n (pc := 315) hx hb dL_law_315 rfl (lv_at hl 3 rfl) ?_
      refine lv_iload_n (pc := 316) hx hb dL_law_316 rfl (lv_at hl 0 rfl) ?_
      refine lv_iconst (v := 2) (pc := 317) hx hb dL_law_317 (by decide) ?_
      refine lv_iadd (pc := 318) hx hb dL_law_318 ?_
      refine z_top (y := nI (i + 2)) (nI_add i 2) ?_
      refine va_sld (pc := 319) hx hb hX hbl hbA hz.2.2.2.1 (vp_in_nI (show i + 2 < L by omega) (by omega)) dL_law_319 ?_
      refine z_top (y := x2) hx2.symm ?_
      refine z_runV (pc := 320) (As := [.int x1, .int x2]) (rest := [.int v]) (ws1 := wc1 ++ wm1) ⟨hx, hb, hml, hown, hts⟩ k2 (cwV 2 hts (zgoodV (fun _ h => h) wq_11_8 wq_11_9 wq_11_10 wq_1_5 wq_11_11) rfl rfl rfl hdV_X4_set ⟨Nat.le_of_ble_eq_true rfl, Nat.le_of_ble_eq_true rfl⟩) hz wc1 List.perm_append_comm List.perm_append_comm e2 rfl rfl hl.1 (Nat.le_of_ble_eq_true rfl) (st1 := [.int v, .int v]) rfl dL_law_320 ⟨Nat.le_of_ble_eq_true rfl, Nat.le_of_ble_eq_true rfl⟩ (fun H locs hz => ?_)
      refine lv_icmp_eq (pc := 323) (tgt := 671) hx hb dL_law_323 (by decide) (fun _ => ?_) (fun c9 => absurd rfl c9)
      exact hend 6000 wc1 wm1 (by omega) hJ1 H locs hz ls hl
    · refine lv_tableIn (off := 296) (tgt := 328) (pc := 32) hx hb dL_law_32 (by decide) (by decide) (by decide) (by decide) ?_
      obtain ⟨v, wc1, wm1, k1, k2, hJ1⟩ := s_pass (l := l) (G := G) (show 6000 * i < 2 ^ 25 by omega) hJ x1
      refine lv_aload_n (pc := 328) hx hb dL_law_328 rfl (lv_at hl 2 rfl) ?_
      refine lv_aload_n (pc := 329) hx hb dL_law_329 rfl (lv_at hl 3 rfl) ?_
      refine lv_iload_n (pc := 330) hx hb dL_law_330 rfl (lv_at hl 0 rfl) ?_
      refine lv_iconst (v := 1) (pc := 331) hx hb dL_law_331 (by decide) ?_
      refine lv_iadd (pc := 332) hx hb dL_law_332 ?_
      refine z_top (y := nI (i + 1)) (nI_add i 1) ?_
      refine va_sld (pc := 333) hx hb hX hbl hbA hz.2.2.2.1 (vp_in_nI (show i + 1 < L by omega) (by omega)) dL_law_333 ?_
      refine z_top (y := x1) hx1.symm ?_
      refine z_runV (pc := 334) (As := [.int x1]) (rest := []) (ws1 := wc1 ++ wm) ⟨hx, hb, hml, hown, hts⟩ k1 (cwV 1 hts (zgoodV (fun _ h => h) wq_11_16 wq_11_17 wq_11_18 wq_1_2 wq_11_19) rfl rfl rfl hdV_X3_pass ⟨Nat.le_of_ble_eq_true rfl, Nat.le_of_ble_eq_true rfl⟩) hz wm (List.Perm.refl _) (List.Perm.refl _) e1 rfl rfl hl.1 (Nat.le_of_ble_eq_true rfl) (st1 := [.int v]) rfl dL_law_334 ⟨Nat.le_of_ble_eq_true rfl, Nat.le_of_ble_eq_true rfl⟩ (fun H locs hz => ?_)
      refine lv_aload_n (pc := 337) hx hb dL_law_337 rfl (lv_at hl 1 rfl) ?_
      refine lv_aload_n (pc := 338) hx hb dL_law_338 rfl (lv_at hl 3 rfl) ?_
      refine lv_iload_n (pc := 339) hx hb dL_law_339 rfl (lv_at hl 0 rfl) ?_
      refine lv_iconst (v := 1) (pc := 340) hx hb dL_law_340 (by decide) ?_
      refine lv_iadd (pc := 341) hx hb dL_law_341 ?_
      refine z_top (y := nI (i + 1)) (nI_add i 1) ?_
      refine va_sld (pc := 342) hx hb hX hbl hbA hz.2.2.2.1 (vp_in_nI (show i + 1 < L by omega) (by omega)) dL_law_342 ?_
      refine z_top (y := x1) hx1.symm ?_
      refine z_runV (pc := 343) (As := [.int x1]) (rest := [.int v]) (ws1 := wc1 ++ wm1) ⟨hx, hb, hml, hown, hts⟩ k2 (cwV 1 hts (zgoodV (fun _ h => h) wq_14_0 wq_14_1 wq_14_2 wq_1_5 wq_14_3) rfl rfl rfl hdV_X4_pass ⟨Nat.le_of_ble_eq_true rfl, Nat.le_of_ble_eq_true rfl⟩) hz wc1 List.perm_append_comm List.perm_append_comm e2 rfl rfl hl.1 (Nat.le_of_ble_eq_true rfl) (st1 := [.int v, .int v]) rfl dL_law_343 ⟨Nat.le_of_ble_eq_true rfl, Nat.le_of_ble_eq_true rfl⟩ (fun H locs hz => ?_)
      refine lv_icmp_eq (pc := 346) (tgt := 671) hx hb dL_law_346 (by decide) (fun _ => ?_) (fun c9 => absurd rfl c9)
      exact hend 6000 wc1 wm1 (by omega) hJ1 H locs hz ls hl
    · refine lv_tableIn (off := 319) (tgt := 351) (pc := 32) hx hb dL_law_32 (by decide) (by decide) (by decide) (by decide) ?_
      obtain ⟨v, wc1, wm1, k1, k2, hJ1⟩ := s_type (l := l) (G := G) (show 6000 * i < 2 ^ 25 by omega) hJ x1
      refine lv_aload_n (pc := 351) hx hb dL_law_351 rfl (lv_at hl 2 rfl) ?_
      refine lv_aload_n (pc := 352) hx hb dL_law_352 rfl (lv_at hl 3 rfl) ?_
      refine lv_iload_n (pc := 353) hx hb dL_law_353 rfl (lv_at hl 0 rfl) ?_
      refine lv_iconst (v := 1) (pc := 354) hx hb dL_law_354 (by decide) ?_
      refine lv_iadd (pc := 355) hx hb dL_law_355 ?_
      refine z_top (y := nI (i + 1)) (nI_add i 1) ?_
      refine va_sld (pc := 356) hx hb hX hbl hbA hz.2.2.2.1 (vp_in_nI (show i + 1 < L by omega) (by omega)) dL_law_356 ?_
      refine z_top (y := x1) hx1.symm ?_
      refine lv_i2c (pc := 357) hx hb dL_law_357 rfl ?_
      refine z_runV (pc := 358) (As := [.int ((x1.toUInt32 % 65536).toInt32)]) (rest := []) (ws1 := wc1 ++ wm) ⟨hx, hb, hml, hown, hts⟩ k1 (cwV 1 hts (zgoodV (fun _ h => h) wq_15_13 wq_15_14 wq_15_15 wq_1_2 wq_15_16) rfl rfl rfl hdV_X3_type ⟨Nat.le_of_ble_eq_true rfl, Nat.le_of_ble_eq_true rfl⟩) hz wm (List.Perm.refl _) (List.Perm.refl _) e1 rfl rfl hl.1 (Nat.le_of_ble_eq_true rfl) (st1 := [.int v]) rfl dL_law_358 ⟨Nat.le_of_ble_eq_true rfl, Nat.le_of_ble_eq_true rfl⟩ (fun H locs hz => ?_)
      refine lv_aload_n (pc := 361) hx hb dL_law_361 rfl (lv_at hl 1 rfl) ?_
      refine lv_aload_n (pc := 362) hx hb dL_law_362 rfl (lv_at hl 3 rfl) ?_
      refine lv_iload_n (pc := 363) hx hb dL_law_363 rfl (lv_at hl 0 rfl) ?_
      refine lv_iconst (v := 1) (pc := 364) hx hb dL_law_364 (by decide) ?_
      refine lv_iadd (pc := 365) hx hb dL_law_365 ?_
      refine z_top (y := nI (i + 1)) (nI_add i 1) ?_
      refine va_sld (pc := 366) hx hb hX hbl hbA hz.2.2.2.1 (vp_in_nI (show i + 1 < L by omega) (by omega)) dL_law_366 ?_
      refine z_top (y := x1) hx1.symm ?_
      refine lv_i2c (pc := 367) hx hb dL_law_367 rfl ?_
      refine z_runV (pc := 368) (As := [.int ((x1.toUInt32 % 65536).toInt32)]) (rest := [.int v]) (ws1 := wc1 ++ wm1) ⟨hx, hb, hml, hown, hts⟩ k2 (cwV 1 hts (zgoodV (fun _ h => h) wq_15_21 wq_15_22 wq_15_23 wq_1_5 wq_16_0) rfl rfl rfl hdV_X4_type ⟨Nat.le_of_ble_eq_true rfl, Nat.le_of_ble_eq_true rfl⟩) hz wc1 List.perm_append_comm List.perm_append_comm e2 rfl rfl hl.1 (Nat.le_of_ble_eq_true rfl) (st1 := [.int v, .int v]) rfl dL_law_368 ⟨Nat.le_of_ble_eq_true rfl, Nat.le_of_ble_eq_true rfl⟩ (fun H locs hz => ?_)
      refine lv_icmp_eq (pc := 371) (tgt := 671) hx hb dL_law_371 (by decide) (fun _ => ?_) (fun c9 => absurd rfl c9)
      exact hend 6000 wc1 wm1 (by omega) hJ1 H locs hz ls hl
    · refine lv_tableIn (off := 344) (tgt := 376) (pc := 32) hx hb dL_law_32 (by decide) (by decide) (by decide) (by decide) ?_
      obtain ⟨v, wc1, wm1, k1, k2, hJ1⟩ := s_clearText (l := l) (G := G) (show 6000 * i < 2 ^ 25 by omega) hJ 
      refine lv_aload_n (pc := 376) hx hb dL_law_376 rfl (lv_at hl 2 rfl) ?_
      refine z_runV (pc := 377) (As := []) (rest := []) (ws1 := wc1 ++ wm) ⟨hx, hb, hml, hown, hts⟩ k1 (cwV 0 hts (zgoodV (fun _ h => h) wq_16_2 wq_16_3 wq_16_4 wq_1_2 wq_16_5) rfl rfl rfl hdV_X3_clearText ⟨Nat.le_of_ble_eq_true rfl, Nat.le_of_ble_eq_true rfl⟩) hz wm (List.Perm.refl _) (List.Perm.refl _) e1 rfl rfl hl.1 (Nat.le_of_ble_eq_true rfl) (st1 := [.int v]) rfl dL_law_377 ⟨Nat.le_of_ble_eq_true rfl, Nat.le_of_ble_eq_true rfl⟩ (fun H locs hz => ?_)
      refine lv_aload_n (pc := 380) hx hb dL_law_380 rfl (lv_at hl 1 rfl) ?_
      refine z_runV (pc := 381) (As := []) (rest := [.int v]) (ws1 := wc1 ++ wm1) ⟨hx, hb, hml, hown, hts⟩ k2 (cwV 0 hts (zgoodV (fun _ h => h) wq_16_10 wq_16_11 wq_16_12 wq_1_5 wq_16_13) rfl rfl rfl hdV_X4_clearText ⟨Nat.le_of_ble_eq_true rfl, Nat.le_of_ble_eq_true rfl⟩) hz wc1 List.perm_append_comm List.perm_append_comm e2 rfl rfl hl.1 (Nat.le_of_ble_eq_true rfl) (st1 := [.int v, .int v]) rfl dL_law_381 ⟨Nat.le_of_ble_eq_true rfl, Nat.le_of_ble_eq_true rfl⟩ (fun H locs hz => ?_)
      refine lv_icmp_eq (pc := 384) (tgt := 671) hx hb dL_law_384 (by decide) (fun _ => ?_) (fun c9 => absurd rfl c9)
      exact hend 6000 wc1 wm1 (by omega) hJ1 H locs hz ls hl
    · refine lv_tableIn (off := 357) (tgt := 389) (pc := 32) hx hb dL_law_32 (by decide) (by decide) (by decide) (by decide) ?_
      obtain ⟨v, wc1, wm1, k1, k2, hJ1⟩ := s_perform (l := l) (G := G) (show 6000 * i < 2 ^ 25 by omega) hJ 
      refine lv_aload_n (pc := 389) hx hb dL_law_389 rfl (lv_at hl 2 rfl) ?_
      refine z_runV (pc := 390) (As := []) (rest := []) (ws1 := wc1 ++ wm) ⟨hx, hb, hml, hown, hts⟩ k1 (cwV 0 hts (zgoodV (fun _ h => h) wq_16_14 wq_16_15 wq_16_16 wq_1_2 wq_16_17) rfl rfl rfl hdV_X3_perform ⟨Nat.le_of_ble_eq_true rfl, Nat.le_of_ble_eq_true rfl⟩) hz wm (List.Perm.refl _) (List.Perm.refl _) e1 rfl rfl hl.1 (Nat.le_of_ble_eq_true rfl) (st1 := [.int v]) rfl dL_law_390 ⟨Nat.le_of_ble_eq_true rfl, Nat.le_of_ble_eq_true rfl⟩ (fun H locs hz => ?_)
      refine lv_aload_n (pc := 393) hx hb dL_law_393 rfl (lv_at hl 1 rfl) ?_
      refine z_runV (pc := 394) (As := []) (rest := [.int v]) (ws1 := wc1 ++ wm1) ⟨hx, hb, hml, hown, hts⟩ k2 (cwV 0 hts (zgoodV (fun _ h => h) wq_18_15 wq_18_16 wq_18_17 wq_1_5 wq_18_18) rfl rfl rfl hdV_X4_perform ⟨Nat.le_of_ble_eq_true rfl, Nat.le_of_ble_eq_true rfl⟩) hz wc1 List.perm_append_comm List.perm_append_comm e2 rfl rfl hl.1 (Nat.le_of_ble_eq_true rfl) (st1 := [.int v, .int v]) rfl dL_law_394 ⟨Nat.le_of_ble_eq_true rfl, Nat.le_of_ble_eq_true rfl⟩ (fun H locs hz => ?_)
      refine lv_icmp_eq (pc := 397) (tgt := 671) hx hb dL_law_397 (by decide) (fun _ => ?_) (fun c9 => absurd rfl c9)
      exact hend 6000 wc1 wm1 (by omega) hJ1 H locs hz ls hl
    · refine lv_tableIn (off := 370) (tgt := 402) (pc := 32) hx hb dL_law_32 (by decide) (by decide) (by decide) (by decide) ?_
      obtain ⟨v, wc1, wm1, k1, k2, hJ1⟩ := s_stopped (l := l) (G := G) (show 6000 * i < 2 ^ 25 by omega) hJ x1
      refine lv_aload_n (pc := 402) hx hb dL_law_402 rfl (lv_at hl 2 rfl) ?_
      refine lv_aload_n (pc := 403) hx hb dL_law_403 rfl (lv_at hl 3 rfl) ?_
      refine lv_iload_n (pc := 404) hx hb dL_law_404 rfl (lv_at hl 0 rfl) ?_
      refine lv_iconst (v := 1) (pc := 405) hx hb dL_law_405 (by decide) ?_
      refine lv_iadd (pc := 406) hx hb dL_law_406 ?_
      refine z_top (y := nI (i + 1)) (nI_add i 1) ?_
      refine va_sld (pc := 407) hx hb hX hbl hbA hz.2.2.2.1 (vp_in_nI (show i + 1 < L by omega) (by omega)) dL_law_407 ?_
      refine z_top (y := x1) hx1.symm ?_
      refine z_runV (pc := 408) (As := [.int x1]) (rest := []) (ws1 := wc1 ++ wm) ⟨hx, hb, hml, hown, hts⟩ k1 (cwV 1 hts (zgoodV (fun _ h => h) wq_20_6 wq_20_7 wq_20_8 wq_1_2 wq_20_9) rfl rfl rfl hdV_X3_stopped ⟨Nat.le_of_ble_eq_true rfl, Nat.le_of_ble_eq_true rfl⟩) hz wm (List.Perm.refl _) (List.Perm.refl _) e1 rfl rfl hl.1 (Nat.le_of_ble_eq_true rfl) (st1 := [.int v]) rfl dL_law_408 ⟨Nat.le_of_ble_eq_true rfl, Nat.le_of_ble_eq_true rfl⟩ (fun H locs hz => ?_)
      refine lv_aload_n (pc := 411) hx hb dL_law_411 rfl (lv_at hl 1 rfl) ?_
      refine lv_aload_n (pc := 412) hx hb dL_law_412 rfl (lv_at hl 3 rfl) ?_
      refine lv_iload_n (pc := 413) hx hb dL_law_413 rfl (lv_at hl 0 rfl) ?_
      refine lv_iconst (v := 1) (pc := 414) hx hb dL_law_414 (by decide) ?_
      refine lv_iadd (pc := 415) hx hb dL_law_415 ?_
      refine z_top (y := nI (i + 1)) (nI_add i 1) ?_
      refine va_sld (pc := 416) hx hb hX hbl hbA hz.2.2.2.1 (vp_in_nI (show i + 1 < L by omega) (by omega)) dL_law_416 ?_
      refine z_top (y := x1) hx1.symm ?_
      refine z_runV (pc := 417) (As := [.int x1]) (rest := [.int v]) (ws1 := wc1 ++ wm1) ⟨hx, hb, hml, hown, hts⟩ k2 (cwV 1 hts (zgoodV (fun _ h => h) wq_20_11 wq_20_12 wq_20_13 wq_1_5 wq_20_14) rfl rfl rfl hdV_X4_stopped ⟨Nat.le_of_ble_eq_true rfl, Nat.le_of_ble_eq_true rfl⟩) hz wc1 List.perm_append_comm List.perm_append_comm e2 rfl rfl hl.1 (Nat.le_of_ble_eq_true rfl) (st1 := [.int v, .int v]) rfl dL_law_417 ⟨Nat.le_of_ble_eq_true rfl, Nat.le_of_ble_eq_true rfl⟩ (fun H locs hz => ?_)
      refine lv_icmp_eq (pc := 420) (tgt := 671) hx hb dL_law_420 (by decide) (fun _ => ?_) (fun c9 => absurd rfl c9)
      exact hend 6000 wc1 wm1 (by omega) hJ1 H locs hz ls hl
    · refine lv_tableIn (off := 393) (tgt := 425) (pc := 32) hx hb dL_law_32 (by decide) (by decide) (by decide) (by decide) ?_
      obtain ⟨v, wc1, wm1, k1, k2, hJ1⟩ := s_undo (l := l) (G := G) (show 6000 * i < 2 ^ 25 by omega) hJ 
      refine lv_aload_n (pc := 425) hx hb dL_law_425 rfl (lv_at hl 2 rfl) ?_
      refine z_runV (pc := 426) (As := []) (rest := []) (ws1 := wc1 ++ wm) ⟨hx, hb, hml, hown, hts⟩ k1 (cwV 0 hts (zgoodV (fun _ h => h) wq_20_15 wq_20_16 wq_20_17 wq_1_2 wq_20_18) rfl rfl rfl hdV_X3_undo ⟨Nat.le_of_ble_eq_true rfl, Nat.le_of_ble_eq_true rfl⟩) hz wm (List.Perm.refl _) (List.Perm.refl _) e1 rfl rfl hl.1 (Nat.le_of_ble_eq_true rfl) (st1 := [.int v]) rfl dL_law_426 ⟨Nat.le_of_ble_eq_true rfl, Nat.le_of_ble_eq_true rfl⟩ (fun H locs hz => ?_)
      refine lv_aload_n (pc := 429) hx hb dL_law_429 rfl (lv_at hl 1 rfl) ?_
      refine z_runV (pc := 430) (As := []) (rest := [.int v]) (ws1 := wc1 ++ wm1) ⟨hx, hb, hml, hown, hts⟩ k2 (cwV 0 hts (zgoodV (fun _ h => h) wq_20_19 wq_20_20 wq_20_21 wq_1_5 wq_20_22) rfl rfl rfl hdV_X4_undo ⟨Nat.le_of_ble_eq_true rfl, Nat.le_of_ble_eq_true rfl⟩) hz wc1 List.perm_append_comm List.perm_append_comm e2 rfl rfl hl.1 (Nat.le_of_ble_eq_true rfl) (st1 := [.int v, .int v]) rfl dL_law_430 ⟨Nat.le_of_ble_eq_true rfl, Nat.le_of_ble_eq_true rfl⟩ (fun H locs hz => ?_)
      refine lv_icmp_eq (pc := 433) (tgt := 671) hx hb dL_law_433 (by decide) (fun _ => ?_) (fun c9 => absurd rfl c9)
      exact hend 6000 wc1 wm1 (by omega) hJ1 H locs hz ls hl
    · refine lv_tableIn (off := 406) (tgt := 438) (pc := 32) hx hb dL_law_32 (by decide) (by decide) (by decide) (by decide) ?_
      obtain ⟨v, wc1, wm1, k1, k2, hJ1⟩ := s_keep (l := l) (G := G) (show 6000 * i < 2 ^ 25 by omega) hJ 
      refine lv_aload_n (pc := 438) hx hb dL_law_438 rfl (lv_at hl 2 rfl) ?_
      refine z_runV (pc := 439) (As := []) (rest := []) (ws1 := wc1 ++ wm) ⟨hx, hb, hml, hown, hts⟩ k1 (cwV 0 hts (zgoodV (fun _ h => h) wq_20_23 wq_21_0 wq_21_1 wq_1_2 wq_21_2) rfl rfl rfl hdV_X3_keep ⟨Nat.le_of_ble_eq_true rfl, Nat.le_of_ble_eq_true rfl⟩) hz wm (List.Perm.refl _) (List.Perm.refl _) e1 rfl rfl hl.1 (Nat.le_of_ble_eq_true rfl) (st1 := [.int v]) rfl dL_law_439 ⟨Nat.le_of_ble_eq_true rfl, Nat.le_of_ble_eq_true rfl⟩ (fun H locs hz => ?_)
      refine lv_aload_n (pc := 442) hx hb dL_law_442 rfl (lv_at hl 1 rfl) ?_
      refine z_runV (pc := 443) (As := []) (rest := [.int v]) (ws1 := wc1 ++ wm1) ⟨hx, hb, hml, hown, hts⟩ k2 (cwV 0 hts (zgoodV (fun _ h => h) wq_21_4 wq_21_5 wq_21_6 wq_1_5 wq_21_7) rfl rfl rfl hdV_X4_keep ⟨Nat.le_of_ble_eq_true rfl, Nat.le_of_ble_eq_true rfl⟩) hz wc1 List.perm_append_comm List.perm_append_comm e2 rfl rfl hl.1 (Nat.le_of_ble_eq_true rfl) (st1 := [.int v, .int v]) rfl dL_law_443 ⟨Nat.le_of_ble_eq_true rfl, Nat.le_of_ble_eq_true rfl⟩ (fun H locs hz => ?_)
      refine lv_icmp_eq (pc := 446) (tgt := 671) hx hb dL_law_446 (by decide) (fun _ => ?_) (fun c9 => absurd rfl c9)
      exact hend 6000 wc1 wm1 (by omega) hJ1 H locs hz ls hl
    · refine lv_tableIn (off := 419) (tgt := 451) (pc := 32) hx hb dL_law_32 (by decide) (by decide) (by decide) (by decide) ?_
      obtain ⟨v, wc1, wm1, k1, k2, hJ1⟩ := s_restore (l := l) (G := G) (show 6000 * i < 2 ^ 25 by omega) hJ 
      refine lv_aload_n (pc := 451) hx hb dL_law_451 rfl (lv_at hl 2 rfl) ?_
      refine z_runV (pc := 452) (As := []) (rest := []) (ws1 := wc1 ++ wm) ⟨hx, hb, hml, hown, hts⟩ k1 (cwV 0 hts (zgoodV (fun _ h => h) wq_21_9 wq_21_10 wq_21_11 wq_1_2 wq_21_12) rfl rfl rfl hdV_X3_restore ⟨Nat.le_of_ble_eq_true rfl, Nat.le_of_ble_eq_true rfl⟩) hz wm (List.Perm.refl _) (List.Perm.refl _) e1 rfl rfl hl.1 (Nat.le_of_ble_eq_true rfl) (st1 := [.int v]) rfl dL_law_452 ⟨Nat.le_of_ble_eq_true rfl, Nat.le_of_ble_eq_true rfl⟩ (fun H locs hz => ?_)
      refine lv_aload_n (pc := 455) hx hb dL_law_455 rfl (lv_at hl 1 rfl) ?_
      refine z_runV (pc := 456) (As := []) (rest := [.int v]) (ws1 := wc1 ++ wm1) ⟨hx, hb, hml, hown, hts⟩ k2 (cwV 0 hts (zgoodV (fun _ h => h) wq_21_13 wq_21_14 wq_21_15 wq_1_5 wq_21_16) rfl rfl rfl hdV_X4_restore ⟨Nat.le_of_ble_eq_true rfl, Nat.le_of_ble_eq_true rfl⟩) hz wc1 List.perm_append_comm List.perm_append_comm e2 rfl rfl hl.1 (Nat.le_of_ble_eq_true rfl) (st1 := [.int v, .int v]) rfl dL_law_456 ⟨Nat.le_of_ble_eq_true rfl, Nat.le_of_ble_eq_true rfl⟩ (fun H locs hz => ?_)
      refine lv_icmp_eq (pc := 459) (tgt := 671) hx hb dL_law_459 (by decide) (fun _ => ?_) (fun c9 => absurd rfl c9)
      exact hend 6000 wc1 wm1 (by omega) hJ1 H locs hz ls hl
    · refine lv_tableIn (off := 432) (tgt := 464) (pc := 32) hx hb dL_law_32 (by decide) (by decide) (by decide) (by decide) ?_
      obtain ⟨v, wc1, wm1, k1, k2, hJ1⟩ := s_cup (l := l) (G := G) (show 6000 * i < 2 ^ 25 by omega) hJ x1 x2
      refine lv_aload_n (pc := 464) hx hb dL_law_464 rfl (lv_at hl 2 rfl) ?_
      refine lv_aload_n (pc := 465) hx hb dL_law_465 rfl (lv_at hl 3 rfl) ?_
      refine lv_iload_n (pc := 466) hx hb dL_law_466 rfl (lv_at hl 0 rfl) ?_
      refine lv_iconst (v := 1) (pc := 467) hx hb dL_law_467 (by decide) ?_
      refine lv_iadd (pc := 468) hx hb dL_law_468 ?_
      refine z_top (y := nI (i + 1)) (nI_add i 1) ?_
      refine va_sld (pc := 469) hx hb hX hbl hbA hz.2.2.2.1 (vp_in_nI (show i + 1 < L by omega) (by omega)) dL_law_469 ?_
      refine z_top (y := x1) hx1.symm ?_
      refine lv_aload_n (pc := 470) hx hb dL_law_470 rfl (lv_at hl 3 rfl) ?_
      refine lv_iload_n (pc := 471) hx hb dL_law_471 rfl (lv_at hl 0 rfl) ?_
      refine lv_iconst (v := 2) (pc := 472) hx hb dL_law_472 (by decide) ?_
      refine lv_iadd (pc := 473) hx hb dL_law_473 ?_
      refine z_top (y := nI (i + 2)) (nI_add i 2) ?_
      refine va_sld (pc := 474) hx hb hX hbl hbA hz.2.2.2.1 (vp_in_nI (show i + 2 < L by omega) (by omega)) dL_law_474 ?_
      refine z_top (y := x2) hx2.symm ?_
      refine z_runV (pc := 475) (As := [.int x1, .int x2]) (rest := []) (ws1 := wc1 ++ wm) ⟨hx, hb, hml, hown, hts⟩ k1 (cwV 2 hts (zgoodV (fun _ h => h) wq_21_17 wq_21_18 wq_21_19 wq_1_2 wq_21_20) rfl rfl rfl hdV_X3_cup ⟨Nat.le_of_ble_eq_true rfl, Nat.le_of_ble_eq_true rfl⟩) hz wm (List.Perm.refl _) (List.Perm.refl _) e1 rfl rfl hl.1 (Nat.le_of_ble_eq_true rfl) (st1 := [.int v]) rfl dL_law_475 ⟨Nat.le_of_ble_eq_true rfl, Nat.le_of_ble_eq_true rfl⟩ (fun H locs hz => ?_)
      refine lv_aload_n (pc := 478) hx hb dL_law_478 rfl (lv_at hl 1 rfl) ?_
      refine lv_aload_n (pc := 479) hx hb dL_law_479 rfl (lv_at hl 3 rfl) ?_
      refine lv_iload_n (pc := 480) hx hb dL_law_480 rfl (lv_at hl 0 rfl) ?_
      refine lv_iconst (v := 1) (pc := 481) hx hb dL_law_481 (by decide) ?_
      refine lv_iadd (pc := 482) hx hb dL_law_482 ?_
      refine z_top (y := nI (i + 1)) (nI_add i 1) ?_
      refine va_sld (pc := 483) hx hb hX hbl hbA hz.2.2.2.1 (vp_in_nI (show i + 1 < L by omega) (by omega)) dL_law_483 ?_
      refine z_top (y := x1) hx1.symm ?_
      refine lv_aload_n (pc := 484) hx hb dL_law_484 rfl (lv_at hl 3 rfl) ?_
      refine lv_iload_n (pc := 485) hx hb dL_law_485 rfl (lv_at hl 0 rfl) ?_
      refine lv_iconst (v := 2) (pc := 486) hx hb dL_law_486 (by decide) ?_
      refine lv_iadd (pc := 487) hx hb dL_law_487 ?_
      refine z_top (y := nI (i + 2)) (nI_add i 2) ?_
      refine va_sld (pc := 488) hx hb hX hbl hbA hz.2.2.2.1 (vp_in_nI (show i + 2 < L by omega) (by omega)) dL_law_488 ?_
      refine z_top (y := x2) hx2.symm ?_
      refine z_runV (pc := 489) (As := [.int x1, .int x2]) (rest := [.int v]) (ws1 := wc1 ++ wm1) ⟨hx, hb, hml, hown, hts⟩ k2 (cwV 2 hts (zgoodV (fun _ h => h) wq_21_23 wq_22_0 wq_22_1 wq_1_5 wq_22_2) rfl rfl rfl hdV_X4_cup ⟨Nat.le_of_ble_eq_true rfl, Nat.le_of_ble_eq_true rfl⟩) hz wc1 List.perm_append_comm List.perm_append_comm e2 rfl rfl hl.1 (Nat.le_of_ble_eq_true rfl) (st1 := [.int v, .int v]) rfl dL_law_489 ⟨Nat.le_of_ble_eq_true rfl, Nat.le_of_ble_eq_true rfl⟩ (fun H locs hz => ?_)
      refine lv_icmp_eq (pc := 492) (tgt := 671) hx hb dL_law_492 (by decide) (fun _ => ?_) (fun c9 => absurd rfl c9)
      exact hend 6000 wc1 wm1 (by omega) hJ1 H locs hz ls hl
    · refine lv_tableIn (off := 465) (tgt := 497) (pc := 32) hx hb dL_law_32 (by decide) (by decide) (by decide) (by decide) ?_
      obtain ⟨v, wc1, wm1, k1, k2, hJ1⟩ := s_reason (l := l) (G := G) (show 6000 * i < 2 ^ 25 by omega) hJ x1
      refine lv_aload_n (pc := 497) hx hb dL_law_497 rfl (lv_at hl 2 rfl) ?_
      refine lv_aload_n (pc := 498) hx hb dL_law_498 rfl (lv_at hl 3 rfl) ?_
      refine lv_iload_n (pc := 499) hx hb dL_law_499 rfl (lv_at hl 0 rfl) ?_
      refine lv_iconst (v := 1) (pc := 500) hx hb dL_law_500 (by decide) ?_
      refine lv_iadd (pc := 501) hx hb dL_law_501 ?_
      refine z_top (y := nI (i + 1)) (nI_add i 1) ?_
      refine va_sld (pc := 502) hx hb hX hbl hbA hz.2.2.2.1 (vp_in_nI (show i + 1 < L by omega) (by omega)) dL_law_502 ?_
      refine z_top (y := x1) hx1.symm ?_
      refine z_runV (pc := 503) (As := [.int x1]) (rest := []) (ws1 := wc1 ++ wm) ⟨hx, hb, hml, hown, hts⟩ k1 (cwV 1 hts (zgoodV (fun _ h => h) wq_22_3 wq_22_4 wq_22_5 wq_1_2 wq_22_6) rfl rfl rfl hdV_X3_reason ⟨Nat.le_of_ble_eq_true rfl, Nat.le_of_ble_eq_true rfl⟩) hz wm (List.Perm.refl _) (List.Perm.refl _) e1 rfl rfl hl.1 (Nat.le_of_ble_eq_true rfl) (st1 := [.int v]) rfl dL_law_503 ⟨Nat.le_of_ble_eq_true rfl, Nat.le_of_ble_eq_true rfl⟩ (fun H locs hz => ?_)
      refine lv_aload_n (pc := 506) hx hb dL_law_506 rfl (lv_at hl 1 rfl) ?_
      refine lv_aload_n (pc := 507) hx hb dL_law_507 rfl (lv_at hl 3 rfl) ?_
      refine lv_iload_n (pc := 508) hx hb dL_law_508 rfl (lv_at hl 0 rfl) ?_
      refine lv_iconst (v := 1) (pc := 509) hx hb dL_law_509 (by decide) ?_
      refine lv_iadd (pc := 510) hx hb dL_law_510 ?_
      refine z_top (y := nI (i + 1)) (nI_add i 1) ?_
      refine va_sld (pc := 511) hx hb hX hbl hbA hz.2.2.2.1 (vp_in_nI (show i + 1 < L by omega) (by omega)) dL_law_511 ?_
      refine z_top (y := x1) hx1.symm ?_
      refine z_runV (pc := 512) (As := [.int x1]) (rest := [.int v]) (ws1 := wc1 ++ wm1) ⟨hx, hb, hml, hown, hts⟩ k2 (cwV 1 hts (zgoodV (fun _ h => h) wq_22_13 wq_22_14 wq_22_15 wq_1_5 wq_22_16) rfl rfl rfl hdV_X4_reason ⟨Nat.le_of_ble_eq_true rfl, Nat.le_of_ble_eq_true rfl⟩) hz wc1 List.perm_append_comm List.perm_append_comm e2 rfl rfl hl.1 (Nat.le_of_ble_eq_true rfl) (st1 := [.int v, .int v]) rfl dL_law_512 ⟨Nat.le_of_ble_eq_true rfl, Nat.le_of_ble_eq_true rfl⟩ (fun H locs hz => ?_)
      refine lv_icmp_eq (pc := 515) (tgt := 671) hx hb dL_law_515 (by decide) (fun _ => ?_) (fun c9 => absurd rfl c9)
      exact hend 6000 wc1 wm1 (by omega) hJ1 H locs hz ls hl
    · refine lv_tableIn (off := 488) (tgt := 520) (pc := 32) hx hb dL_law_32 (by decide) (by decide) (by decide) (by decide) ?_
      obtain ⟨v, wc1, wm1, k1, k2, hJ1⟩ := s_tipsIn (l := l) (G := G) (show 6000 * i < 2 ^ 25 by omega) hJ x1
      refine lv_aload_n (pc := 520) hx hb dL_law_520 rfl (lv_at hl 2 rfl) ?_
      refine lv_aload_n (pc := 521) hx hb dL_law_521 rfl (lv_at hl 3 rfl) ?_
      refine lv_iload_n (pc := 522) hx hb dL_law_522 rfl (lv_at hl 0 rfl) ?_
      refine lv_iconst (v := 1) (pc := 523) hx hb dL_law_523 (by decide) ?_
      refine lv_iadd (pc := 524) hx hb dL_law_524 ?_
      refine z_top (y := nI (i + 1)) (nI_add i 1) ?_
      refine va_sld (pc := 525) hx hb hX hbl hbA hz.2.2.2.1 (vp_in_nI (show i + 1 < L by omega) (by omega)) dL_law_525 ?_
      refine z_top (y := x1) hx1.symm ?_
      refine z_runV (pc := 526) (As := [.int x1]) (rest := []) (ws1 := wc1 ++ wm) ⟨hx, hb, hml, hown, hts⟩ k1 (cwV 1 hts (zgoodV (fun _ h => h) wq_22_21 wq_22_22 wq_22_23 wq_1_2 wq_23_0) rfl rfl rfl hdV_X3_tipsIn ⟨Nat.le_of_ble_eq_true rfl, Nat.le_of_ble_eq_true rfl⟩) hz wm (List.Perm.refl _) (List.Perm.refl _) e1 rfl rfl hl.1 (Nat.le_of_ble_eq_true rfl) (st1 := [.int v]) rfl dL_law_526 ⟨Nat.le_of_ble_eq_true rfl, Nat.le_of_ble_eq_true rfl⟩ (fun H locs hz => ?_)
      refine lv_aload_n (pc := 529) hx hb dL_law_529 rfl (lv_at hl 1 rfl) ?_
      refine lv_aload_n (pc := 530) hx hb dL_law_530 rfl (lv_at hl 3 rfl) ?_
      refine lv_iload_n (pc := 531) hx hb dL_law_531 rfl (lv_at hl 0 rfl) ?_
      refine lv_iconst (v := 1) (pc := 532) hx hb dL_law_532 (by decide) ?_
      refine lv_iadd (pc := 533) hx hb dL_law_533 ?_
      refine z_top (y := nI (i + 1)) (nI_add i 1) ?_
      refine va_sld (pc := 534) hx hb hX hbl hbA hz.2.2.2.1 (vp_in_nI (show i + 1 < L by omega) (by omega)) dL_law_534 ?_
      refine z_top (y := x1) hx1.symm ?_
      refine z_runV (pc := 535) (As := [.int x1]) (rest := [.int v]) (ws1 := wc1 ++ wm1) ⟨hx, hb, hml, hown, hts⟩ k2 (cwV 1 hts (zgoodV (fun _ h => h) wq_23_5 wq_23_6 wq_23_7 wq_1_5 wq_23_8) rfl rfl rfl hdV_X4_tipsIn ⟨Nat.le_of_ble_eq_true rfl, Nat.le_of_ble_eq_true rfl⟩) hz wc1 List.perm_append_comm List.perm_append_comm e2 rfl rfl hl.1 (Nat.le_of_ble_eq_true rfl) (st1 := [.int v, .int v]) rfl dL_law_535 ⟨Nat.le_of_ble_eq_true rfl, Nat.le_of_ble_eq_true rfl⟩ (fun H locs hz => ?_)
      refine lv_icmp_eq (pc := 538) (tgt := 671) hx hb dL_law_538 (by decide) (fun _ => ?_) (fun c9 => absurd rfl c9)
      exact hend 6000 wc1 wm1 (by omega) hJ1 H locs hz ls hl
    · refine lv_tableIn (off := 511) (tgt := 543) (pc := 32) hx hb dL_law_32 (by decide) (by decide) (by decide) (by decide) ?_
      obtain ⟨v, wc1, wm1, k1, k2, hJ1⟩ := s_tipsAt (l := l) (G := G) (show 6000 * i < 2 ^ 25 by omega) hJ x1
      refine lv_aload_n (pc := 543) hx hb dL_law_543 rfl (lv_at hl 2 rfl) ?_
      refine lv_aload_n (pc := 544) hx hb dL_law_544 rfl (lv_at hl 3 rfl) ?_
      refine lv_iload_n (pc := 545) hx hb dL_law_545 rfl (lv_at hl 0 rfl) ?_
      refine lv_iconst (v := 1) (pc := 546) hx hb dL_law_546 (by decide) ?_
      refine lv_iadd (pc := 547) hx hb dL_law_547 ?_
      refine z_top (y := nI (i + 1)) (nI_add i 1) ?_
      refine va_sld (pc := 548) hx hb hX hbl hbA hz.2.2.2.1 (vp_in_nI (show i + 1 < L by omega) (by omega)) dL_law_548 ?_
      refine z_top (y := x1) hx1.symm ?_
      refine z_runV (pc := 549) (As := [.int x1]) (rest := []) (ws1 := wc1 ++ wm) ⟨hx, hb, hml, hown, hts⟩ k1 (cwV 1 hts (zgoodV (fun _ h => h) wq_23_9 wq_23_10 wq_23_11 wq_1_2 wq_23_12) rfl rfl rfl hdV_X3_tipsAt ⟨Nat.le_of_ble_eq_true rfl, Nat.le_of_ble_eq_true rfl⟩) hz wm (List.Perm.refl _) (List.Perm.refl _) e1 rfl rfl hl.1 (Nat.le_of_ble_eq_true rfl) (st1 := [.int v]) rfl dL_law_549 ⟨Nat.le_of_ble_eq_true rfl, Nat.le_of_ble_eq_true rfl⟩ (fun H locs hz => ?_)
      refine lv_aload_n (pc := 552) hx hb dL_law_552 rfl (lv_at hl 1 rfl) ?_
      refine lv_aload_n (pc := 553) hx hb dL_law_553 rfl (lv_at hl 3 rfl) ?_
      refine lv_iload_n (pc := 554) hx hb dL_law_554 rfl (lv_at hl 0 rfl) ?_
      refine lv_iconst (v := 1) (pc := 555) hx hb dL_law_555 (by decide) ?_
      refine lv_iadd (pc := 556) hx hb dL_law_556 ?_
      refine z_top (y := nI (i + 1)) (nI_add i 1) ?_
      refine va_sld (pc := 557) hx hb hX hbl hbA hz.2.2.2.1 (vp_in_nI (show i + 1 < L by omega) (by omega)) dL_law_557 ?_
      refine z_top (y := x1) hx1.symm ?_
      refine z_runV (pc := 558) (As := [.int x1]) (rest := [.int v]) (ws1 := wc1 ++ wm1) ⟨hx, hb, hml, hown, hts⟩ k2 (cwV 1 hts (zgoodV (fun _ h => h) wq_23_17 wq_23_18 wq_23_19 wq_1_5 wq_23_20) rfl rfl rfl hdV_X4_tipsAt ⟨Nat.le_of_ble_eq_true rfl, Nat.le_of_ble_eq_true rfl⟩) hz wc1 List.perm_append_comm List.perm_append_comm e2 rfl rfl hl.1 (Nat.le_of_ble_eq_true rfl) (st1 := [.int v, .int v]) rfl dL_law_558 ⟨Nat.le_of_ble_eq_true rfl, Nat.le_of_ble_eq_true rfl⟩ (fun H locs hz => ?_)
      refine lv_icmp_eq (pc := 561) (tgt := 671) hx hb dL_law_561 (by decide) (fun _ => ?_) (fun c9 => absurd rfl c9)
      exact hend 6000 wc1 wm1 (by omega) hJ1 H locs hz ls hl
    · refine lv_tableIn (off := 534) (tgt := 566) (pc := 32) hx hb dL_law_32 (by decide) (by decide) (by decide) (by decide) ?_
      obtain ⟨v, wc1, wm1, k1, k2, hJ1⟩ := s_starving (l := l) (G := G) (show 6000 * i < 2 ^ 25 by omega) hJ 
      refine lv_aload_n (pc := 566) hx hb dL_law_566 rfl (lv_at hl 2 rfl) ?_
      refine z_runV (pc := 567) (As := []) (rest := []) (ws1 := wc1 ++ wm) ⟨hx, hb, hml, hown, hts⟩ k1 (cwV 0 hts (zgoodV (fun _ h => h) wq_24_1 wq_24_2 wq_24_3 wq_1_2 wq_24_4) rfl rfl rfl hdV_X3_starving ⟨Nat.le_of_ble_eq_true rfl, Nat.le_of_ble_eq_true rfl⟩) hz wm (List.Perm.refl _) (List.Perm.refl _) e1 rfl rfl hl.1 (Nat.le_of_ble_eq_true rfl) (st1 := [.int v]) rfl dL_law_567 ⟨Nat.le_of_ble_eq_true rfl, Nat.le_of_ble_eq_true rfl⟩ (fun H locs hz => ?_)
      refine lv_aload_n (pc := 570) hx hb dL_law_570 rfl (lv_at hl 1 rfl) ?_
      refine z_runV (pc := 571) (As := []) (rest := [.int v]) (ws1 := wc1 ++ wm1) ⟨hx, hb, hml, hown, hts⟩ k2 (cwV 0 hts (zgoodV (fun _ h => h) wq_24_7 wq_24_8 wq_24_9 wq_1_5 wq_24_10) rfl rfl rfl hdV_X4_starving ⟨Nat.le_of_ble_eq_true rfl, Nat.le_of_ble_eq_true rfl⟩) hz wc1 List.perm_append_comm List.perm_append_comm e2 rfl rfl hl.1 (Nat.le_of_ble_eq_true rfl) (st1 := [.int v, .int v]) rfl dL_law_571 ⟨Nat.le_of_ble_eq_true rfl, Nat.le_of_ble_eq_true rfl⟩ (fun H locs hz => ?_)
      refine lv_icmp_eq (pc := 574) (tgt := 671) hx hb dL_law_574 (by decide) (fun _ => ?_) (fun c9 => absurd rfl c9)
      exact hend 6000 wc1 wm1 (by omega) hJ1 H locs hz ls hl
    · refine lv_tableIn (off := 547) (tgt := 579) (pc := 32) hx hb dL_law_32 (by decide) (by decide) (by decide) (by decide) ?_
      obtain ⟨v, wc1, wm1, k1, k2, hJ1⟩ := s_bestSize (l := l) (G := G) (show 6000 * i < 2 ^ 25 by omega) hJ x1
      refine lv_aload_n (pc := 579) hx hb dL_law_579 rfl (lv_at hl 2 rfl) ?_
      refine lv_aload_n (pc := 580) hx hb dL_law_580 rfl (lv_at hl 3 rfl) ?_
      refine lv_iload_n (pc := 581) hx hb dL_law_581 rfl (lv_at hl 0 rfl) ?_
      refine lv_iconst (v := 1) (pc := 582) hx hb dL_law_582 (by decide) ?_
      refine lv_iadd (pc := 583) hx hb dL_law_583 ?_
      refine z_top (y := nI (i + 1)) (nI_add i 1) ?_
      refine va_sld (pc := 584) hx hb hX hbl hbA hz.2.2.2.1 (vp_in_nI (show i + 1 < L by omega) (by omega)) dL_law_584 ?_
      refine z_top (y := x1) hx1.symm ?_
      refine z_runV (pc := 585) (As := [.int x1]) (rest := []) (ws1 := wc1 ++ wm) ⟨hx, hb, hml, hown, hts⟩ k1 (cwV 1 hts (zgoodV (fun _ h => h) wq_24_11 wq_24_12 wq_24_13 wq_1_2 wq_24_14) rfl rfl rfl hdV_X3_bestSize ⟨Nat.le_of_ble_eq_true rfl, Nat.le_of_ble_eq_true rfl⟩) hz wm (List.Perm.refl _) (List.Perm.refl _) e1 rfl rfl hl.1 (Nat.le_of_ble_eq_true rfl) (st1 := [.int v]) rfl dL_law_585 ⟨Nat.le_of_ble_eq_true rfl, Nat.le_of_ble_eq_true rfl⟩ (fun H locs hz => ?_)
      refine lv_aload_n (pc := 588) hx hb dL_law_588 rfl (lv_at hl 1 rfl) ?_
      refine lv_aload_n (pc := 589) hx hb dL_law_589 rfl (lv_at hl 3 rfl) ?_
      refine lv_iload_n (pc := 590) hx hb dL_law_590 rfl (lv_at hl 0 rfl) ?_
      refine lv_iconst (v := 1) (pc := 591) hx hb dL_law_591 (by decide) ?_
      refine lv_iadd (pc := 592) hx hb dL_law_592 ?_
      refine z_top (y := nI (i + 1)) (nI_add i 1) ?_
      refine va_sld (pc := 593) hx hb hX hbl hbA hz.2.2.2.1 (vp_in_nI (show i + 1 < L by omega) (by omega)) dL_law_593 ?_
      refine z_top (y := x1) hx1.symm ?_
      refine z_runV (pc := 594) (As := [.int x1]) (rest := [.int v]) (ws1 := wc1 ++ wm1) ⟨hx, hb, hml, hown, hts⟩ k2 (cwV 1 hts (zgoodV (fun _ h => h) wq_24_20 wq_24_21 wq_24_22 wq_1_5 wq_24_23) rfl rfl rfl hdV_X4_bestSize ⟨Nat.le_of_ble_eq_true rfl, Nat.le_of_ble_eq_true rfl⟩) hz wc1 List.perm_append_comm List.perm_append_comm e2 rfl rfl hl.1 (Nat.le_of_ble_eq_true rfl) (st1 := [.int v, .int v]) rfl dL_law_594 ⟨Nat.le_of_ble_eq_true rfl, Nat.le_of_ble_eq_true rfl⟩ (fun H locs hz => ?_)
      refine lv_icmp_eq (pc := 597) (tgt := 671) hx hb dL_law_597 (by decide) (fun _ => ?_) (fun c9 => absurd rfl c9)
      exact hend 6000 wc1 wm1 (by omega) hJ1 H locs hz ls hl
    · refine lv_tableIn (off := 570) (tgt := 602) (pc := 32) hx hb dL_law_32 (by decide) (by decide) (by decide) (by decide) ?_
      obtain ⟨v, wc1, wm1, k1, k2, hJ1⟩ := s_ifTicks (l := l) (G := G) (show 6000 * i < 2 ^ 25 by omega) hJ x1 x2
      refine lv_aload_n (pc := 602) hx hb dL_law_602 rfl (lv_at hl 2 rfl) ?_
      refine lv_aload_n (pc := 603) hx hb dL_law_603 rfl (lv_at hl 3 rfl) ?_
      refine lv_iload_n (pc := 604) hx hb dL_law_604 rfl (lv_at hl 0 rfl) ?_
      refine lv_iconst (v := 1) (pc := 605) hx hb dL_law_605 (by decide) ?_
      refine lv_iadd (pc := 606) hx hb dL_law_606 ?_
      refine z_top (y := nI (i + 1)) (nI_add i 1) ?_
      refine va_sld (pc := 607) hx hb hX hbl hbA hz.2.2.2.1 (vp_in_nI (show i + 1 < L by omega) (by omega)) dL_law_607 ?_
      refine z_top (y := x1) hx1.symm ?_
      refine lv_aload_n (pc := 608) hx hb dL_law_608 rfl (lv_at hl 3 rfl) ?_
      refine lv_iload_n (pc := 609) hx hb dL_law_609 rfl (lv_at hl 0 rfl) ?_
      refine lv_iconst (v := 2) (pc := 610) hx hb dL_law_610 (by decide) ?_
      refine lv_iadd (pc := 611) hx hb dL_law_611 ?_
      refine z_top (y := nI (i + 2)) (nI_add i 2) ?_
      refine va_sld (pc := 612) hx hb hX hbl hbA hz.2.2.2.1 (vp_in_nI (show i + 2 < L by omega) (by omega)) dL_law_612 ?_
      refine z_top (y := x2) hx2.symm ?_
      refine z_runV (pc := 613) (As := [.int x1, .int x2]) (rest := []) (ws1 := wc1 ++ wm) ⟨hx, hb, hml, hown, hts⟩ k1 (cwV 2 hts (zgoodV (fun _ h => h) wq_25_0 wq_25_1 wq_25_2 wq_1_2 wq_25_3) rfl rfl rfl hdV_X3_ifTicks ⟨Nat.le_of_ble_eq_true rfl, Nat.le_of_ble_eq_true rfl⟩) hz wm (List.Perm.refl _) (List.Perm.refl _) e1 rfl rfl hl.1 (Nat.le_of_ble_eq_true rfl) (st1 := [.int v]) rfl dL_law_613 ⟨Nat.le_of_ble_eq_true rfl, Nat.le_of_ble_eq_true rfl⟩ (fun H locs hz => ?_)
      refine lv_aload_n (pc := 616) hx hb dL_law_616 rfl (lv_at hl 1 rfl) ?_
      refine lv_aload_n (pc := 617) hx hb dL_law_617 rfl (lv_at hl 3 rfl) ?_
      refine lv_iload_n (pc := 618) hx hb dL_law_618 rfl (lv_at hl 0 rfl) ?_
      refine lv_iconst (v := 1) (pc := 619) hx hb dL_law_619 (by decide) ?_
      refine lv_iadd (pc := 620) hx hb dL_law_620 ?_
      refine z_top (y := nI (i + 1)) (nI_add i 1) ?_
      refine va_sld (pc := 621) hx hb hX hbl hbA hz.2.2.2.1 (vp_in_nI (show i + 1 < L by omega) (by omega)) dL_law_621 ?_
      refine z_top (y := x1) hx1.symm ?_
      refine lv_aload_n (pc := 622) hx hb dL_law_622 rfl (lv_at hl 3 rfl) ?_
      refine lv_iload_n (pc := 623) hx hb dL_law_623 rfl (lv_at hl 0 rfl) ?_
      refine lv_iconst (v := 2) (pc := 624) hx hb dL_law_624 (by decide) ?_
      refine lv_iadd (pc := 625) hx hb dL_law_625 ?_
      refine z_top (y := nI (i + 2)) (nI_add i 2) ?_
      refine va_sld (pc := 626) hx hb hX hbl hbA hz.2.2.2.1 (vp_in_nI (show i + 2 < L by omega) (by omega)) dL_law_626 ?_
      refine z_top (y := x2) hx2.symm ?_
      refine z_runV (pc := 627) (As := [.int x1, .int x2]) (rest := [.int v]) (ws1 := wc1 ++ wm1) ⟨hx, hb, hml, hown, hts⟩ k2 (cwV 2 hts (zgoodV (fun _ h => h) wq_25_8 wq_25_9 wq_25_10 wq_1_5 wq_25_11) rfl rfl rfl hdV_X4_ifTicks ⟨Nat.le_of_ble_eq_true rfl, Nat.le_of_ble_eq_true rfl⟩) hz wc1 List.perm_append_comm List.perm_append_comm e2 rfl rfl hl.1 (Nat.le_of_ble_eq_true rfl) (st1 := [.int v, .int v]) rfl dL_law_627 ⟨Nat.le_of_ble_eq_true rfl, Nat.le_of_ble_eq_true rfl⟩ (fun H locs hz => ?_)
      refine lv_icmp_eq (pc := 630) (tgt := 671) hx hb dL_law_630 (by decide) (fun _ => ?_) (fun c9 => absurd rfl c9)
      exact hend 6000 wc1 wm1 (by omega) hJ1 H locs hz ls hl
    · refine lv_tableIn (off := 603) (tgt := 635) (pc := 32) hx hb dL_law_32 (by decide) (by decide) (by decide) (by decide) ?_
      obtain ⟨v, wc1, wm1, k1, k2, hJ1⟩ := s_highest (l := l) (G := G) (show 6000 * i < 2 ^ 25 by omega) hJ 
      refine lv_aload_n (pc := 635) hx hb dL_law_635 rfl (lv_at hl 2 rfl) ?_
      refine z_runV (pc := 636) (As := []) (rest := []) (ws1 := wc1 ++ wm) ⟨hx, hb, hml, hown, hts⟩ k1 (cwV 0 hts (zgoodV (fun _ h => h) wq_25_12 wq_25_13 wq_25_14 wq_1_2 wq_25_15) rfl rfl rfl hdV_X3_highest ⟨Nat.le_of_ble_eq_true rfl, Nat.le_of_ble_eq_true rfl⟩) hz wm (List.Perm.refl _) (List.Perm.refl _) e1 rfl rfl hl.1 (Nat.le_of_ble_eq_true rfl) (st1 := [.int v]) rfl dL_law_636 ⟨Nat.le_of_ble_eq_true rfl, Nat.le_of_ble_eq_true rfl⟩ (fun H locs hz => ?_)
      refine lv_aload_n (pc := 639) hx hb dL_law_639 rfl (lv_at hl 1 rfl) ?_
      refine z_runV (pc := 640) (As := []) (rest := [.int v]) (ws1 := wc1 ++ wm1) ⟨hx, hb, hml, hown, hts⟩ k2 (cwV 0 hts (zgoodV (fun _ h => h) wq_25_17 wq_25_18 wq_25_19 wq_1_5 wq_25_20) rfl rfl rfl hdV_X4_highest ⟨Nat.le_of_ble_eq_true rfl, Nat.le_of_ble_eq_true rfl⟩) hz wc1 List.perm_append_comm List.perm_append_comm e2 rfl rfl hl.1 (Nat.le_of_ble_eq_true rfl) (st1 := [.int v, .int v]) rfl dL_law_640 ⟨Nat.le_of_ble_eq_true rfl, Nat.le_of_ble_eq_true rfl⟩ (fun H locs hz => ?_)
      refine lv_icmp_eq (pc := 643) (tgt := 671) hx hb dL_law_643 (by decide) (fun _ => ?_) (fun c9 => absurd rfl c9)
      exact hend 6000 wc1 wm1 (by omega) hJ1 H locs hz ls hl
    · refine lv_tableIn (off := 616) (tgt := 648) (pc := 32) hx hb dL_law_32 (by decide) (by decide) (by decide) (by decide) ?_
      obtain ⟨v, wc1, wm1, k1, k2, hJ1⟩ := s_count (l := l) (G := G) (show 6000 * i < 2 ^ 25 by omega) hJ x1
      refine lv_aload_n (pc := 648) hx hb dL_law_648 rfl (lv_at hl 2 rfl) ?_
      refine lv_aload_n (pc := 649) hx hb dL_law_649 rfl (lv_at hl 3 rfl) ?_
      refine lv_iload_n (pc := 650) hx hb dL_law_650 rfl (lv_at hl 0 rfl) ?_
      refine lv_iconst (v := 1) (pc := 651) hx hb dL_law_651 (by decide) ?_
      refine lv_iadd (pc := 652) hx hb dL_law_652 ?_
      refine z_top (y := nI (i + 1)) (nI_add i 1) ?_
      refine va_sld (pc := 653) hx hb hX hbl hbA hz.2.2.2.1 (vp_in_nI (show i + 1 < L by omega) (by omega)) dL_law_653 ?_
      refine z_top (y := x1) hx1.symm ?_
      refine z_runV (pc := 654) (As := [.int x1]) (rest := []) (ws1 := wc1 ++ wm) ⟨hx, hb, hml, hown, hts⟩ k1 (cwV 1 hts (zgoodV (fun _ h => h) wq_25_21 wq_25_22 wq_25_23 wq_1_2 wq_26_0) rfl rfl rfl hdV_X3_count ⟨Nat.le_of_ble_eq_true rfl, Nat.le_of_ble_eq_true rfl⟩) hz wm (List.Perm.refl _) (List.Perm.refl _) e1 rfl rfl hl.1 (Nat.le_of_ble_eq_true rfl) (st1 := [.int v]) rfl dL_law_654 ⟨Nat.le_of_ble_eq_true rfl, Nat.le_of_ble_eq_true rfl⟩ (fun H locs hz => ?_)
      refine lv_aload_n (pc := 657) hx hb dL_law_657 rfl (lv_at hl 1 rfl) ?_
      refine lv_aload_n (pc := 658) hx hb dL_law_658 rfl (lv_at hl 3 rfl) ?_
      refine lv_iload_n (pc := 659) hx hb dL_law_659 rfl (lv_at hl 0 rfl) ?_
      refine lv_iconst (v := 1) (pc := 660) hx hb dL_law_660 (by decide) ?_
      refine lv_iadd (pc := 661) hx hb dL_law_661 ?_
      refine z_top (y := nI (i + 1)) (nI_add i 1) ?_
      refine va_sld (pc := 662) hx hb hX hbl hbA hz.2.2.2.1 (vp_in_nI (show i + 1 < L by omega) (by omega)) dL_law_662 ?_
      refine z_top (y := x1) hx1.symm ?_
      refine z_runV (pc := 663) (As := [.int x1]) (rest := [.int v]) (ws1 := wc1 ++ wm1) ⟨hx, hb, hml, hown, hts⟩ k2 (cwV 1 hts (zgoodV (fun _ h => h) wq_26_15 wq_26_16 wq_26_17 wq_1_5 wq_26_18) rfl rfl rfl hdV_X4_count ⟨Nat.le_of_ble_eq_true rfl, Nat.le_of_ble_eq_true rfl⟩) hz wc1 List.perm_append_comm List.perm_append_comm e2 rfl rfl hl.1 (Nat.le_of_ble_eq_true rfl) (st1 := [.int v, .int v]) rfl dL_law_663 ⟨Nat.le_of_ble_eq_true rfl, Nat.le_of_ble_eq_true rfl⟩ (fun H locs hz => ?_)
      refine lv_icmp_eq (pc := 666) (tgt := 671) hx hb dL_law_666 (by decide) (fun _ => ?_) (fun c9 => absurd rfl c9)
      exact hend 6000 wc1 wm1 (by omega) hJ1 H locs hz ls hl
