def rm_L_ifs : Room := { frames := 6, cells := 2, slots := 8, locals := 135 }
set_option maxRecDepth 20000 in
theorem hdV_L_ifs : yL_ifs.cls = RL ∧ yL_ifs.cls ≠ "java/lang/invoke/MethodHandle" ∧ yL_ifs.cls ≠ "java/lang/invoke/VarHandle" ∧ (parseMethodDescriptor yL_ifs.desc).map (fun d => d.parameters.length) = some 2 := by decide +kernel
set_option maxHeartbeats 4000000 in
set_option maxRecDepth 100000 in
theorem k_L_ifs (l : Launch) (G : va_G) (ca : Nat → ClassId) (o : Nat) (w : va_W) (p : HC) (K : Option HC) (hF : FW ca o p K w) {F : Nat} (hP : PI F p) (v : Int32) {t0 : Nat} (hF26 : F < 2 ^ 26) (ht0 : p.1 0 = nI t0) (ht9 : t0 + 99 ≤ 99999) : Zw l G ca yL_ifs (zws yL_ifs cL_ifs 9 (some .boolean)) rm_L_ifs [.ref o, .int v] w ((some (.int 1))) (fun w1 => ∃ n : Nat, n ≤ 99 ∧ FW ca o (tkN p n) K w1) 2 8 := by
  refine Zw.of (cc := cL_ifs) (maxL := 9) (ret := (some .boolean)) (by decide) rfl (Nat.le_of_ble_eq_true rfl) ?_
  intro pg ev s0 mt below meth cd A args Q ls hx hb hr hml hown hts hlk hQ hl hz
  have hl : lv_has ls 9 [(0, .ref o), (1, .int v)] := hl
  obtain ⟨fs0, tl0, ew⟩ := hF.h1
  have hci := hP.1.1
  obtain ⟨n, hn1, hn2, en⟩ : ∃ n : Nat, 1 ≤ n ∧ n ≤ 99 ∧ 1 + lowF v 99 = nI n := by obtain ⟨j9, h9, e9⟩ := low_nat v (n := 99) (by decide) (by decide); exact ⟨1 + j9, by omega, by omega, by rw [show (99 : Int32) = nI 99 from rfl, e9]; exact nI_add 1 j9⟩
  have hpa := pass_n hP ht0 (n := n) (by omega) hn1 hn2
  have hcn : CI (tkN p n) := hci.ticks n
  refine lv_iconst (v := 1) (pc := 0) hx hb dL_ifs_0 (by decide) ?_
  refine lv_iload_n (pc := 1) hx hb dL_ifs_1 rfl (lv_at hl 1 rfl) ?_
  refine lv_bipush (v := 99) (pc := 2) hx hb dL_ifs_2 (by decide) ?_
  refine z_runS (pc := 4) (As := [.int v, .int 99]) (rest := [.int 1]) (ws1 := w) ⟨hx, hb, hml, hown, hts⟩ (k_L_low l G ca v 99 (by decide)) (cwS 2 hts (zgoodS zsub wq_17_0 wq_17_1 wq_7_0 wq_35_0) rfl rfl rfl hdV_L_low ⟨Nat.le_of_ble_eq_true rfl, Nat.le_of_ble_eq_true rfl⟩) hz w zp_no (List.Perm.refl _) rfl hl.1 (Nat.le_of_ble_eq_true rfl) (st1 := [.int (lowF v 99), .int 1]) rfl dL_ifs_4 ⟨Nat.le_of_ble_eq_true rfl, Nat.le_of_ble_eq_true rfl⟩ (fun H locs hz => ?_)
  refine lv_iadd (pc := 7) hx hb dL_ifs_7 ?_
  refine z_top (y := nI n) en ?_
  refine lv_istore_n (lv' := [(2, .int (nI n)), (0, .ref o), (1, .int v)]) (pc := 8) hx hb dL_ifs_8 rfl hl (by decide) rfl (fun ls hl => ?_)
  refine lv_iconst (v := 4) (pc := 9) hx hb dL_ifs_9 (by decide) ?_
  refine z_newa (pc := 10) (atype := .int) hx hb (hts _ (zsub _ wq_6_4)) rfl hz 1 rfl (N' := 4) (a0 := (4, .inl (fun _ => 0))) (fun _ => rfl) (by decide) (by decide) (Nat.le_of_ble_eq_true rfl) (Nat.le_of_ble_eq_true rfl) (Nat.le_of_ble_eq_true rfl) dL_ifs_10 (fun q1 H hz => ?_)
  have hz := hz.perm List.perm_append_comm
  have hz := hz.as (show _ = [(q1, .inl (ca 1, 4, .inl (fun _ => 0)))] ++ w from rfl)
  refine lv_astore_n (lv' := [(3, .ref q1), (2, .int (nI n)), (0, .ref o), (1, .int v)]) (pc := 12) hx hb dL_ifs_12 rfl hl (by decide) rfl (fun ls hl => ?_)
  refine lv_iconst (v := 4) (pc := 13) hx hb dL_ifs_13 (by decide) ?_
  refine z_newa (pc := 14) (atype := .int) hx hb (hts _ (zsub _ wq_6_4)) rfl hz 1 rfl (N' := 4) (a0 := (4, .inl (fun _ => 0))) (fun _ => rfl) (by decide) (by decide) (Nat.le_of_ble_eq_true rfl) (Nat.le_of_ble_eq_true rfl) (Nat.le_of_ble_eq_true rfl) dL_ifs_14 (fun q2 H hz => ?_)
  have hz := hz.perm (z_mid (a := [(q1, .inl (ca 1, 4, .inl (fun _ => 0)))]) (b := w) (c := [(q2, .inl (ca 1, 4, .inl (fun _ => 0)))]))
  have hz := hz.as (show _ = [(q1, .inl (ca 1, 4, .inl (fun _ => 0))), (q2, .inl (ca 1, 4, .inl (fun _ => 0)))] ++ w from rfl)
  refine lv_astore (lv' := [(4, .ref q2), (3, .ref q1), (2, .int (nI n)), (0, .ref o), (1, .int v)]) (pc := 16) hx hb dL_ifs_16 hl (by decide) rfl (fun ls hl => ?_)
  refine lv_iconst (v := 0) (pc := 18) hx hb dL_ifs_18 (by decide) ?_
  refine lv_istore (lv' := [(5, .int 0), (4, .ref q2), (3, .ref q1), (2, .int (nI n)), (0, .ref o), (1, .int v)]) (pc := 19) hx hb dL_ifs_19 hl (by decide) rfl (fun ls hl => ?_)
  have loop1 : ∀ cnt i : Nat, i + cnt = 4 → ∀ (w : va_W) , FW ca o p K w → ∀ (H : Heap) (locs : List Loc) (ls : Array Slot), zw G ca A s0.heap s0 ([(q1, .inl (ca 1, 4, .inl (dUp p n i))), (q2, .inl (ca 1, 4, .inl (hUp p i)))] ++ w) H locs → lv_has ls 9 [(5, .int (nI i)), (2, .int (nI n)), (3, .ref q1), (4, .ref q2), (0, .ref o), (1, .int v)] → W pg l ev rm_L_ifs s0 mt args below meth cd H locs 2 8 Q (F0 mt 21 ls []) := by
    intro cnt
    induction cnt with
    | zero =>
      intro i hk9 w  hF  H locs ls hz hl
      obtain rfl : 4 = i := by omega
      obtain ⟨fs0, tl0, ew⟩ := hF.h1
      refine lv_iload (pc := 21) hx hb dL_ifs_21 (lv_at hl 0 rfl) ?_
      refine lv_iconst (v := 4) (pc := 23) hx hb dL_ifs_23 (by decide) ?_
      refine lv_icmp_ge (pc := 24) (tgt := 83) hx hb dL_ifs_24 (by decide) (fun c_24 => ?_) (fun c9 => absurd (by decide) c9)
      refine lv_aload_n (pc := 83) hx hb dL_ifs_83 rfl (lv_at hl 4 rfl) ?_
      refine lv_iload_n (pc := 84) hx hb dL_ifs_84 rfl (lv_at hl 1 rfl) ?_
      obtain ⟨w1, z1, hF1⟩ := f_pass (l := l) (G := G) hF hci (nI n)
      obtain ⟨fsw1, tlw1, ew1⟩ := hF1.h1
      refine z_runV (pc := 85) (As := [.int (nI n)]) (rest := []) (ws1 := [(q1, .inl (ca 1, 4, .inl (dUp p n 4))), (q2, .inl (ca 1, 4, .inl (hUp p 4)))] ++ w1) ⟨hx, hb, hml, hown, hts⟩ (z1) (cwV 1 hts (zgoodV zsub wq_18_0 wq_18_1 wq_18_2 wq_1_2 wq_18_3) rfl rfl rfl hdV_X3_pass ⟨Nat.le_of_ble_eq_true rfl, Nat.le_of_ble_eq_true rfl⟩) hz [(q1, .inl (ca 1, 4, .inl (dUp p n 4))), (q2, .inl (ca 1, 4, .inl (hUp p 4)))] List.perm_append_comm List.perm_append_comm ew rfl rfl hl.1 (Nat.le_of_ble_eq_true rfl) (st1 := [.int (kpassR p (nI n))]) rfl dL_ifs_85 ⟨Nat.le_of_ble_eq_true rfl, Nat.le_of_ble_eq_true rfl⟩ (fun H locs hz => ?_)
      rw [hpa.1] at hF1
      refine z_top (y := kS p n) hpa.2 ?_
      refine lv_istore (lv' := [(5, .int (kS p n)), (2, .int (nI n)), (3, .ref q1), (4, .ref q2), (0, .ref o), (1, .int v)]) (pc := 88) hx hb dL_ifs_88 hl (by decide) rfl (fun ls hl => ?_)
      refine lv_iconst (v := 0) (pc := 90) hx hb dL_ifs_90 (by decide) ?_
      refine lv_istore (lv' := [(6, .int 0), (5, .int (kS p n)), (2, .int (nI n)), (3, .ref q1), (4, .ref q2), (0, .ref o), (1, .int v)]) (pc := 91) hx hb dL_ifs_91 hl (by decide) rfl (fun ls hl => ?_)
      have loop2 : ∀ cnt i : Nat, i + cnt = 4 → ∀ (H : Heap) (locs : List Loc) (ls : Array Slot), zw G ca A s0.heap s0 ([(q1, .inl (ca 1, 4, .inl (dUp p n 4))), (q2, .inl (ca 1, 4, .inl (hUp p 4)))] ++ w1) H locs → lv_has ls 9 [(6, .int (nI i)), (5, .int (kS p n)), (3, .ref q1), (4, .ref q2), (0, .ref o)] → W pg l ev rm_L_ifs s0 mt args below meth cd H locs 2 8 Q (F0 mt 93 ls []) := by
        intro cnt
        induction cnt with
        | zero =>
          intro i hk9 H locs ls hz hl
          obtain rfl : 4 = i := by omega
          refine lv_iload (pc := 93) hx hb dL_ifs_93 (lv_at hl 0 rfl) ?_
          refine lv_iconst (v := 4) (pc := 95) hx hb dL_ifs_95 (by decide) ?_
          refine lv_icmp_ge (pc := 96) (tgt := 161) hx hb dL_ifs_96 (by decide) (fun c_96 => ?_) (fun c9 => absurd (by decide) c9)
          refine lv_iload (pc := 161) hx hb dL_ifs_161 (lv_at hl 1 rfl) ?_
          refine lv_aload_n (pc := 163) hx hb dL_ifs_163 rfl (lv_at hl 2 rfl) ?_
          refine lv_iconst (v := 3) (pc := 164) hx hb dL_ifs_164 (by decide) ?_
          refine z_iald (x := (dUp p n 4) 3) (pc := 165) hx hb hz 0 rfl 3 rfl (by decide) (by decide) rfl dL_ifs_165 ?_
          refine lv_icmp_ne (pc := 166) (tgt := 173) hx hb dL_ifs_166 (by decide) (fun c9 => absurd (ifs_all hci hn1 hn2) c9) (fun c_166 => ?_)
          refine lv_iconst (v := 1) (pc := 169) hx hb dL_ifs_169 (by decide) ?_
          refine lv_goto (tgt := 174) (pc := 170) hx hb dL_ifs_170 (by decide) ?_
          have hz := hz.drop
          exact z_zretW (pc := 174) hx hb hr hlk hQ hz (Nat.le_of_ble_eq_true rfl) (Nat.le_of_ble_eq_true rfl) rfl dL_ifs_174 (by rfl) (⟨n, hn2, hF1⟩)
        | succ cnt ih =>
          intro i hk9 H locs ls hz hl
          have hk : i < 4 := by omega
          have hi4 : i < 4 := hk
          refine lv_iload (pc := 93) hx hb dL_ifs_93 (lv_at hl 0 rfl) ?_
          refine lv_iconst (v := 4) (pc := 95) hx hb dL_ifs_95 (by decide) ?_
          refine lv_icmp_ge (pc := 96) (tgt := 161) hx hb dL_ifs_96 (by decide) (fun c9 => absurd c9 (nI_ge hk (by decide))) (fun c_96 => ?_)
          refine lv_iconst (v := 0) (pc := 99) hx hb dL_ifs_99 (by decide) ?_
          refine lv_istore (lv' := [(7, .int 0), (6, .int (nI i)), (5, .int (kS p n)), (3, .ref q1), (4, .ref q2), (0, .ref o)]) (pc := 100) hx hb dL_ifs_100 hl (by decide) rfl (fun ls hl => ?_)
          refine lv_iconst (v := 0) (pc := 102) hx hb dL_ifs_102 (by decide) ?_
          refine lv_istore (lv' := [(8, .int 0), (7, .int 0), (6, .int (nI i)), (5, .int (kS p n)), (3, .ref q1), (4, .ref q2), (0, .ref o)]) (pc := 103) hx hb dL_ifs_103 hl (by decide) rfl (fun ls hl => ?_)
          have loop3 : ∀ cnt k : Nat, k + cnt = 8 → ∀ (H : Heap) (locs : List Loc) (ls : Array Slot), zw G ca A s0.heap s0 ([(q1, .inl (ca 1, 4, .inl (dUp p n 4))), (q2, .inl (ca 1, 4, .inl (hUp p 4)))] ++ w1) H locs → lv_has ls 9 [(8, .int (nI k)), (7, .int (sumF (tkN p n).2 (fwF i) k)), (6, .int (nI i)), (5, .int (kS p n)), (3, .ref q1), (4, .ref q2), (0, .ref o)] → W pg l ev rm_L_ifs s0 mt args below meth cd H locs 2 8 Q (F0 mt 105 ls []) := by
            intro cnt
            induction cnt with
            | zero =>
              intro k hk9 H locs ls hz hl
              obtain rfl : 8 = k := by omega
              refine lv_iload (pc := 105) hx hb dL_ifs_105 (lv_at hl 0 rfl) ?_
              refine lv_bipush (v := 8) (pc := 107) hx hb dL_ifs_107 (by decide) ?_
              refine lv_icmp_ge (pc := 109) (tgt := 138) hx hb dL_ifs_109 (by decide) (fun c_109 => ?_) (fun c9 => absurd (by decide) c9)
              refine lv_iload (pc := 138) hx hb dL_ifs_138 (lv_at hl 1 rfl) ?_
              refine lv_aload (pc := 140) hx hb dL_ifs_140 (lv_at hl 5 rfl) ?_
              refine lv_iload (pc := 142) hx hb dL_ifs_142 (lv_at hl 2 rfl) ?_
              refine z_iald (x := (hUp p 4) i) (pc := 144) hx hb hz 1 rfl i rfl (by omega) (by decide) rfl dL_ifs_144 ?_
              refine lv_isub (pc := 145) hx hb dL_ifs_145 ?_
              refine lv_aload_n (pc := 146) hx hb dL_ifs_146 rfl (lv_at hl 4 rfl) ?_
              refine lv_iload (pc := 147) hx hb dL_ifs_147 (lv_at hl 2 rfl) ?_
              refine z_iald (x := (dUp p n 4) i) (pc := 149) hx hb hz 0 rfl i rfl (by omega) (by decide) rfl dL_ifs_149 ?_
              refine lv_icmp_eq (pc := 150) (tgt := 155) hx hb dL_ifs_150 (by decide) (fun c_150 => ?_) (fun c9 => absurd (ifs_eq hci hn1 hn2 hi4) c9)
              refine lv_iinc (v := nI (i + 1)) (lv' := [(6, .int (nI (i + 1))), (8, .int (nI 8)), (7, .int (sumF (tkN p n).2 (fwF i) 8)), (5, .int (kS p n)), (3, .ref q1), (4, .ref q2), (0, .ref o)]) (pc := 155) hx hb dL_ifs_155 hl (k := 2) rfl (nI_add i 1) (by decide) rfl (fun ls hl => ?_)
              refine lv_goto (tgt := 93) (pc := 158) hx hb dL_ifs_158 (by decide) ?_
              exact ih (i + 1) (by omega) _ _ _ hz (lv_sub hl [0, 3, 4, 5, 6] rfl)
            | succ cnt ih =>
              intro k hk9 H locs ls hz hl
              have hk : k < 8 := by omega
              refine lv_iload (pc := 105) hx hb dL_ifs_105 (lv_at hl 0 rfl) ?_
              refine lv_bipush (v := 8) (pc := 107) hx hb dL_ifs_107 (by decide) ?_
              refine lv_icmp_ge (pc := 109) (tgt := 138) hx hb dL_ifs_109 (by decide) (fun c9 => absurd c9 (nI_ge hk (by decide))) (fun c_109 => ?_)
              refine lv_iload (pc := 112) hx hb dL_ifs_112 (lv_at hl 1 rfl) ?_
              refine lv_aload_n (pc := 114) hx hb dL_ifs_114 rfl (lv_at hl 6 rfl) ?_
              refine lv_iload (pc := 115) hx hb dL_ifs_115 (lv_at hl 0 rfl) ?_
              refine lv_bipush (v := 8) (pc := 117) hx hb dL_ifs_117 (by decide) ?_
              refine lv_iload (pc := 119) hx hb dL_ifs_119 (lv_at hl 2 rfl) ?_
              refine lv_iconst (v := 1) (pc := 121) hx hb dL_ifs_121 (by decide) ?_
              refine lv_iadd (pc := 122) hx hb dL_ifs_122 ?_
              refine lv_iconst (v := 4) (pc := 123) hx hb dL_ifs_123 (by decide) ?_
              refine lv_irem (pc := 124) hx hb dL_ifs_124 (by decide) ?_
              refine lv_iadd (pc := 125) hx hb dL_ifs_125 ?_
              refine z_top (y := nI (fwF i)) (fw_i hi4) ?_
              refine z_runV (pc := 126) (As := [.int (nI k), .int (nI (fwF i))]) (rest := [.int (sumF (tkN p n).2 (fwF i) k)]) (ws1 := [(q1, .inl (ca 1, 4, .inl (dUp p n 4))), (q2, .inl (ca 1, 4, .inl (hUp p 4)))] ++ w1) ⟨hx, hb, hml, hown, hts⟩ (f_cw (l := l) (G := G) hF1 hcn hk (w9 := fwF i) (fwF_lt hi4).1 (fwF_lt hi4).2) (cwV 2 hts (zgoodV zsub wq_7_7 wq_7_8 wq_7_9 wq_1_2 wq_7_10) rfl rfl rfl hdV_X3_cup ⟨Nat.le_of_ble_eq_true rfl, Nat.le_of_ble_eq_true rfl⟩) hz [(q1, .inl (ca 1, 4, .inl (dUp p n 4))), (q2, .inl (ca 1, 4, .inl (hUp p 4)))] List.perm_append_comm List.perm_append_comm ew1 rfl rfl hl.1 (Nat.le_of_ble_eq_true rfl) (st1 := [.int ((tkN p n).2 k (fwF i)), .int (sumF (tkN p n).2 (fwF i) k)]) rfl dL_ifs_126 ⟨Nat.le_of_ble_eq_true rfl, Nat.le_of_ble_eq_true rfl⟩ (fun H locs hz => ?_)
              refine lv_iadd (pc := 129) hx hb dL_ifs_129 ?_
              refine lv_istore (lv' := [(7, .int ((sumF (tkN p n).2 (fwF i) k) + ((tkN p n).2 k (fwF i)))), (8, .int (nI k)), (6, .int (nI i)), (5, .int (kS p n)), (3, .ref q1), (4, .ref q2), (0, .ref o)]) (pc := 130) hx hb dL_ifs_130 hl (by decide) rfl (fun ls hl => ?_)
              refine lv_iinc (v := nI (k + 1)) (lv' := [(8, .int (nI (k + 1))), (7, .int ((sumF (tkN p n).2 (fwF i) k) + ((tkN p n).2 k (fwF i)))), (6, .int (nI i)), (5, .int (kS p n)), (3, .ref q1), (4, .ref q2), (0, .ref o)]) (pc := 132) hx hb dL_ifs_132 hl (k := 1) rfl (nI_add k 1) (by decide) rfl (fun ls hl => ?_)
              refine lv_goto (tgt := 105) (pc := 135) hx hb dL_ifs_135 (by decide) ?_
              exact ih (k + 1) (by omega) _ _ _ hz (lv_sub hl [0, 1, 2, 3, 4, 5, 6] rfl)
          exact loop3 8 0 (by omega) _ _ _ hz (lv_sub hl [0, 1, 2, 3, 4, 5, 6] rfl)
      exact loop2 4 0 (by omega) _ _ _ hz (lv_sub hl [0, 1, 3, 4, 5] rfl)
    | succ cnt ih =>
      intro i hk9 w  hF  H locs ls hz hl
      have hi4 : i < 4 := by omega
      obtain ⟨fs0, tl0, ew⟩ := hF.h1
      refine lv_iload (pc := 21) hx hb dL_ifs_21 (lv_at hl 0 rfl) ?_
      refine lv_iconst (v := 4) (pc := 23) hx hb dL_ifs_23 (by decide) ?_
      refine lv_icmp_ge (pc := 24) (tgt := 83) hx hb dL_ifs_24 (by decide) (fun c9 => absurd c9 (nI_ge hi4 (by decide))) (fun c_24 => ?_)
      refine lv_aload_n (pc := 27) hx hb dL_ifs_27 rfl (lv_at hl 2 rfl) ?_
      refine lv_iload (pc := 28) hx hb dL_ifs_28 (lv_at hl 0 rfl) ?_
      refine lv_aload_n (pc := 30) hx hb dL_ifs_30 rfl (lv_at hl 4 rfl) ?_
      refine lv_iload_n (pc := 31) hx hb dL_ifs_31 rfl (lv_at hl 1 rfl) ?_
      refine lv_iload (pc := 32) hx hb dL_ifs_32 (lv_at hl 0 rfl) ?_
      obtain ⟨w2, z2, hF2⟩ := f_ifTicks (l := l) (G := G) hF hci (nI n) (nI i)
      obtain ⟨fsw2, tlw2, ew2⟩ := hF2.h1
      refine z_runV (pc := 34) (As := [.int (nI n), .int (nI i)]) (rest := [.int (nI i), .ref q1]) (ws1 := [(q1, .inl (ca 1, 4, .inl (dUp p n i))), (q2, .inl (ca 1, 4, .inl (hUp p i)))] ++ w2) ⟨hx, hb, hml, hown, hts⟩ (z2) (cwV 2 hts (zgoodV zsub wq_17_4 wq_17_5 wq_17_6 wq_1_2 wq_17_7) rfl rfl rfl hdV_X3_ifTicks ⟨Nat.le_of_ble_eq_true rfl, Nat.le_of_ble_eq_true rfl⟩) hz [(q1, .inl (ca 1, 4, .inl (dUp p n i))), (q2, .inl (ca 1, 4, .inl (hUp p i)))] List.perm_append_comm List.perm_append_comm ew rfl rfl hl.1 (Nat.le_of_ble_eq_true rfl) (st1 := [.int (kifR p (nI n) (nI i)), .int (nI i), .ref q1]) rfl dL_ifs_34 ⟨Nat.le_of_ble_eq_true rfl, Nat.le_of_ble_eq_true rfl⟩ (fun H locs hz => ?_)
      refine z_iast (ws1 := [(q1, .inl (ca 1, 4, .inl (upd (dUp p n i) i (kifR p (nI n) (nI i))))), (q2, .inl (ca 1, 4, .inl (hUp p i)))] ++ w2) (pc := 37) hx hb hz 0 rfl i rfl (by omega) (by decide) rfl dL_ifs_37 (fun H locs hz => ?_)
      refine lv_iconst (v := 0) (pc := 38) hx hb dL_ifs_38 (by decide) ?_
      refine lv_istore (lv' := [(6, .int 0), (5, .int (nI i)), (2, .int (nI n)), (3, .ref q1), (4, .ref q2), (0, .ref o), (1, .int v)]) (pc := 39) hx hb dL_ifs_39 hl (by decide) rfl (fun ls hl => ?_)
      have loop4 : ∀ cnt k : Nat, k + cnt = 8 → ∀ (H : Heap) (locs : List Loc) (ls : Array Slot), zw G ca A s0.heap s0 ([(q1, .inl (ca 1, 4, .inl (upd (dUp p n i) i (kifR p (nI n) (nI i))))), (q2, .inl (ca 1, 4, .inl (upd (hUp p i) i (sumF p.2 (fwF i) k))))] ++ w2) H locs → lv_has ls 9 [(6, .int (nI k)), (5, .int (nI i)), (2, .int (nI n)), (3, .ref q1), (4, .ref q2), (0, .ref o), (1, .int v)] → W pg l ev rm_L_ifs s0 mt args below meth cd H locs 2 8 Q (F0 mt 41 ls []) := by
        intro cnt
        induction cnt with
        | zero =>
          intro k hk9 H locs ls hz hl
          obtain rfl : 8 = k := by omega
          refine lv_iload (pc := 41) hx hb dL_ifs_41 (lv_at hl 0 rfl) ?_
          refine lv_bipush (v := 8) (pc := 43) hx hb dL_ifs_43 (by decide) ?_
          refine lv_icmp_ge (pc := 45) (tgt := 77) hx hb dL_ifs_45 (by decide) (fun c_45 => ?_) (fun c9 => absurd (by decide) c9)
          refine lv_iinc (v := nI (i + 1)) (lv' := [(5, .int (nI (i + 1))), (6, .int (nI 8)), (2, .int (nI n)), (3, .ref q1), (4, .ref q2), (0, .ref o), (1, .int v)]) (pc := 77) hx hb dL_ifs_77 hl (k := 1) rfl (nI_add i 1) (by decide) rfl (fun ls hl => ?_)
          refine lv_goto (tgt := 21) (pc := 80) hx hb dL_ifs_80 (by decide) ?_
          exact ih (i + 1) (by omega) w2  hF2  _ _ _ (hz.as (by rfl)) (lv_sub hl [0, 2, 3, 4, 5, 6] rfl)
        | succ cnt ih =>
          intro k hk9 H locs ls hz hl
          have hk : k < 8 := by omega
          refine lv_iload (pc := 41) hx hb dL_ifs_41 (lv_at hl 0 rfl) ?_
          refine lv_bipush (v := 8) (pc := 43) hx hb dL_ifs_43 (by decide) ?_
          refine lv_icmp_ge (pc := 45) (tgt := 77) hx hb dL_ifs_45 (by decide) (fun c9 => absurd c9 (nI_ge hk (by decide))) (fun c_45 => ?_)
          refine lv_aload (pc := 48) hx hb dL_ifs_48 (lv_at hl 4 rfl) ?_
          refine lv_iload (pc := 50) hx hb dL_ifs_50 (lv_at hl 1 rfl) ?_
          refine lv_dup2_11 (pc := 52) hx hb dL_ifs_52 rfl rfl ?_
          refine z_iald (x := (upd (hUp p i) i (sumF p.2 (fwF i) k)) i) (pc := 53) hx hb hz 1 rfl i rfl (by omega) (by decide) rfl dL_ifs_53 ?_
          refine z_top (y := sumF p.2 (fwF i) k) pk_us ?_
          refine lv_aload_n (pc := 54) hx hb dL_ifs_54 rfl (lv_at hl 5 rfl) ?_
          refine lv_iload (pc := 55) hx hb dL_ifs_55 (lv_at hl 0 rfl) ?_
          refine lv_bipush (v := 8) (pc := 57) hx hb dL_ifs_57 (by decide) ?_
          refine lv_iload (pc := 59) hx hb dL_ifs_59 (lv_at hl 1 rfl) ?_
          refine lv_iconst (v := 1) (pc := 61) hx hb dL_ifs_61 (by decide) ?_
          refine lv_iadd (pc := 62) hx hb dL_ifs_62 ?_
          refine lv_iconst (v := 4) (pc := 63) hx hb dL_ifs_63 (by decide) ?_
          refine lv_irem (pc := 64) hx hb dL_ifs_64 (by decide) ?_
          refine lv_iadd (pc := 65) hx hb dL_ifs_65 ?_
          refine z_top (y := nI (fwF i)) (fw_i hi4) ?_
          refine z_runV (pc := 66) (As := [.int (nI k), .int (nI (fwF i))]) (rest := [.int (sumF p.2 (fwF i) k), .int (nI i), .ref q2]) (ws1 := [(q1, .inl (ca 1, 4, .inl (upd (dUp p n i) i (kifR p (nI n) (nI i))))), (q2, .inl (ca 1, 4, .inl (upd (hUp p i) i (sumF p.2 (fwF i) k))))] ++ w2) ⟨hx, hb, hml, hown, hts⟩ (f_cw (l := l) (G := G) hF2 hci hk (w9 := fwF i) (fwF_lt hi4).1 (fwF_lt hi4).2) (cwV 2 hts (zgoodV zsub wq_7_7 wq_7_8 wq_7_9 wq_1_2 wq_7_10) rfl rfl rfl hdV_X3_cup ⟨Nat.le_of_ble_eq_true rfl, Nat.le_of_ble_eq_true rfl⟩) hz [(q1, .inl (ca 1, 4, .inl (upd (dUp p n i) i (kifR p (nI n) (nI i))))), (q2, .inl (ca 1, 4, .inl (upd (hUp p i) i (sumF p.2 (fwF i) k))))] List.perm_append_comm List.perm_append_comm ew2 rfl rfl hl.1 (Nat.le_of_ble_eq_true rfl) (st1 := [.int (p.2 k (fwF i)), .int (sumF p.2 (fwF i) k), .int (nI i), .ref q2]) rfl dL_ifs_66 ⟨Nat.le_of_ble_eq_true rfl, Nat.le_of_ble_eq_true rfl⟩ (fun H locs hz => ?_)
          refine lv_iadd (pc := 69) hx hb dL_ifs_69 ?_
          refine z_iast (ws1 := [(q1, .inl (ca 1, 4, .inl (upd (dUp p n i) i (kifR p (nI n) (nI i))))), (q2, .inl (ca 1, 4, .inl (upd (upd (hUp p i) i (sumF p.2 (fwF i) k)) i ((sumF p.2 (fwF i) k) + (p.2 k (fwF i))))))] ++ w2) (pc := 70) hx hb hz 1 rfl i rfl (by omega) (by decide) rfl dL_ifs_70 (fun H locs hz => ?_)
          refine lv_iinc (v := nI (k + 1)) (lv' := [(6, .int (nI (k + 1))), (5, .int (nI i)), (2, .int (nI n)), (3, .ref q1), (4, .ref q2), (0, .ref o), (1, .int v)]) (pc := 71) hx hb dL_ifs_71 hl (k := 0) rfl (nI_add k 1) (by decide) rfl (fun ls hl => ?_)
          refine lv_goto (tgt := 41) (pc := 74) hx hb dL_ifs_74 (by decide) ?_
          exact ih (k + 1) (by omega) _ _ _ (hz.as (show _ = [(q1, .inl (ca 1, 4, .inl (upd (dUp p n i) i (kifR p (nI n) (nI i))))), (q2, .inl (ca 1, 4, .inl (upd (hUp p i) i (sumF p.2 (fwF i) (k + 1)))))] ++ w2 from by first | (rw [upd_upd9]; done) | (rw [upd_upd9]; rfl))) (lv_sub hl [0, 1, 2, 3, 4, 5, 6] rfl)
      exact loop4 8 0 (by omega) _ _ _ (hz.as (show _ = [(q1, .inl (ca 1, 4, .inl (upd (dUp p n i) i (kifR p (nI n) (nI i))))), (q2, .inl (ca 1, 4, .inl (upd (hUp p i) i (sumF p.2 (fwF i) 0))))] ++ w2 from by rw [show upd (hUp p i) i (sumF p.2 (fwF i) 0) = hUp p i from hUp_z])) (lv_sub hl [0, 1, 2, 3, 4, 5, 6] rfl)
  exact loop1 4 0 (by omega) w  hF  _ _ _ (hz.as (by rfl)) (lv_sub hl [0, 3, 2, 1, 4, 5] rfl)

def rm_L_bestSo : Room := { frames := 6, cells := 0, slots := 0, locals := 137 }
set_option maxRecDepth 20000 in
theorem hdV_L_bestSo : yL_bestSo.cls = RL ∧ yL_bestSo.cls ≠ "java/lang/invoke/MethodHandle" ∧ yL_bestSo.cls ≠ "java/lang/invoke/VarHandle" ∧ (parseMethodDescriptor yL_bestSo.desc).map (fun d => d.parameters.length) = some 2 := by decide +kernel
set_option maxHeartbeats 4000000 in
set_option maxRecDepth 100000 in
theorem k_L_bestSo (l : Launch) (G : va_G) (ca : Nat → ClassId) (o : Nat) (w : va_W) (p : HC) (K : Option HC) (hF : FW ca o p K w) {F : Nat} (hP : PI F p) {k : Nat} (hk : k < 8) : Zw l G ca yL_bestSo (zws yL_bestSo cL_bestSo 9 (some .boolean)) rm_L_bestSo [.ref o, .int (nI k)] w ((some (.int 1))) (fun w1 => FW ca o p none w1) 0 0 := by
  refine Zw.of (cc := cL_bestSo) (maxL := 9) (ret := (some .boolean)) (by decide) rfl (Nat.le_of_ble_eq_true rfl) ?_
  intro pg ev s0 mt below meth cd A args Q ls hx hb hr hml hown hts hlk hQ hl hz
  have hl : lv_has ls 9 [(0, .ref o), (1, .int (nI k))] := hl
  obtain ⟨fs0, tl0, ew⟩ := hF.h1
  have hci := hP.1.1
  refine lv_aload_n (pc := 0) hx hb dL_bestSo_0 rfl (lv_at hl 0 rfl) ?_
  refine lv_iload_n (pc := 1) hx hb dL_bestSo_1 rfl (lv_at hl 1 rfl) ?_
  obtain ⟨w1, z1, hF1⟩ := f_bestSize (l := l) (G := G) hF hci (nI k)
  obtain ⟨fsw1, tlw1, ew1⟩ := hF1.h1
  refine z_runV (pc := 2) (As := [.int (nI k)]) (rest := []) (ws1 := w1) ⟨hx, hb, hml, hown, hts⟩ (z1) (cwV 1 hts (zgoodV zsub wq_22_10 wq_22_11 wq_23_0 wq_1_2 wq_23_1) rfl rfl rfl hdV_X3_bestSize ⟨Nat.le_of_ble_eq_true rfl, Nat.le_of_ble_eq_true rfl⟩) hz [] zp_all zp_all' ew rfl rfl hl.1 (Nat.le_of_ble_eq_true rfl) (st1 := [.int (kbeR p (nI k))]) rfl dL_bestSo_2 ⟨Nat.le_of_ble_eq_true rfl, Nat.le_of_ble_eq_true rfl⟩ (fun H locs hz => ?_)
  refine z_top (y := if p.2 k 4 = -1 then (-4 : Int32) else bsF p k 99 0) (hP.best hk) ?_
  refine lv_istore_n (lv' := [(2, .int (if p.2 k 4 = -1 then (-4 : Int32) else bsF p k 99 0)), (0, .ref o), (1, .int (nI k))]) (pc := 5) hx hb dL_bestSo_5 rfl hl (by decide) rfl (fun ls hl => ?_)
  refine lv_aload_n (pc := 6) hx hb dL_bestSo_6 rfl (lv_at hl 1 rfl) ?_
  refine lv_iload_n (pc := 7) hx hb dL_bestSo_7 rfl (lv_at hl 2 rfl) ?_
  refine lv_iconst (v := 4) (pc := 8) hx hb dL_bestSo_8 (by decide) ?_
  refine z_runV (pc := 9) (As := [.int (nI k), .int 4]) (rest := []) (ws1 := w1) ⟨hx, hb, hml, hown, hts⟩ (f_c4 (l := l) (G := G) hF1 hci hk) (cwV 2 hts (zgoodV zsub wq_7_7 wq_7_8 wq_7_9 wq_1_2 wq_7_10) rfl rfl rfl hdV_X3_cup ⟨Nat.le_of_ble_eq_true rfl, Nat.le_of_ble_eq_true rfl⟩) hz [] zp_all zp_all' ew1 rfl rfl hl.1 (Nat.le_of_ble_eq_true rfl) (st1 := [.int (hr5 (p.2 k 4))]) rfl dL_bestSo_9 ⟨Nat.le_of_ble_eq_true rfl, Nat.le_of_ble_eq_true rfl⟩ (fun H locs hz => ?_)
  refine lv_istore_n (lv' := [(3, .int (hr5 (p.2 k 4))), (2, .int (if p.2 k 4 = -1 then (-4 : Int32) else bsF p k 99 0)), (0, .ref o), (1, .int (nI k))]) (pc := 12) hx hb dL_bestSo_12 rfl hl (by decide) rfl (fun ls hl => ?_)
  refine lv_iload_n (pc := 13) hx hb dL_bestSo_13 rfl (lv_at hl 0 rfl) ?_
  refine lv_if_ge (pc := 14) (tgt := 29) hx hb dL_bestSo_14 (by decide) (fun c_14 => ?_) (fun c_14 => ?_)
  · have hne := hr5_eq hP hk c_14
    rcases bs_cases p k 99 0 with ⟨eb, hno⟩ | ⟨b, -, hb9, eb, hit, hno⟩
    · have e9 : (if p.2 k 4 = -1 then (-4 : Int32) else bsF p k 99 0) = -5 := by rw [if_neg hne.2]; exact eb
      have hl : lv_has ls 9 [(3, .int (p.2 k 4)), (2, .int (-5)), (0, .ref o), (1, .int (nI k))] := by rw [e9, hne.1] at hl; exact hl
      refine lv_aload_n (pc := 29) hx hb dL_bestSo_29 rfl (lv_at hl 2 rfl) ?_
      refine lv_iload_n (pc := 30) hx hb dL_bestSo_30 rfl (lv_at hl 3 rfl) ?_
      refine lv_iconst (v := 0) (pc := 31) hx hb dL_bestSo_31 (by decide) ?_
      refine z_runV (pc := 32) (As := [.int (nI k), .int 0]) (rest := []) (ws1 := w1) ⟨hx, hb, hml, hown, hts⟩ (f_cw (l := l) (G := G) hF1 hci hk (w9 := 0) (by decide) (by decide)) (cwV 2 hts (zgoodV zsub wq_7_7 wq_7_8 wq_7_9 wq_1_2 wq_7_10) rfl rfl rfl hdV_X3_cup ⟨Nat.le_of_ble_eq_true rfl, Nat.le_of_ble_eq_true rfl⟩) hz [] zp_all zp_all' ew1 rfl rfl hl.1 (Nat.le_of_ble_eq_true rfl) (st1 := [.int (p.2 k 0)]) rfl dL_bestSo_32 ⟨Nat.le_of_ble_eq_true rfl, Nat.le_of_ble_eq_true rfl⟩ (fun H locs hz => ?_)
      refine lv_istore (lv' := [(4, .int (p.2 k 0)), (3, .int (p.2 k 4)), (2, .int (-5)), (0, .ref o), (1, .int (nI k))]) (pc := 35) hx hb dL_bestSo_35 hl (by decide) rfl (fun ls hl => ?_)
      refine lv_aload_n (pc := 37) hx hb dL_bestSo_37 rfl (lv_at hl 3 rfl) ?_
      obtain ⟨w2, z2, hF2⟩ := f_keep (l := l) (G := G) hF1 hci 
      obtain ⟨fsw2, tlw2, ew2⟩ := hF2.h1
      refine z_runV (pc := 38) (As := []) (rest := []) (ws1 := w2) ⟨hx, hb, hml, hown, hts⟩ (z2) (cwV 0 hts (zgoodV zsub wq_22_0 wq_22_1 wq_22_2 wq_1_2 wq_22_3) rfl rfl rfl hdV_X3_keep ⟨Nat.le_of_ble_eq_true rfl, Nat.le_of_ble_eq_true rfl⟩) hz [] zp_all zp_all' ew1 rfl rfl hl.1 (Nat.le_of_ble_eq_true rfl) (st1 := [.int (p.1 0)]) rfl dL_bestSo_38 ⟨Nat.le_of_ble_eq_true rfl, Nat.le_of_ble_eq_true rfl⟩ (fun H locs hz => ?_)
      refine lv_istore (lv' := [(5, .int (p.1 0)), (4, .int (p.2 k 0)), (3, .int (p.2 k 4)), (2, .int (-5)), (0, .ref o), (1, .int (nI k))]) (pc := 41) hx hb dL_bestSo_41 hl (by decide) rfl (fun ls hl => ?_)
      refine lv_iload_n (pc := 43) hx hb dL_bestSo_43 rfl (lv_at hl 3 rfl) ?_
      refine lv_bipush (v := -5) (pc := 44) hx hb dL_bestSo_44 (by decide) ?_
      refine lv_icmp_eq (pc := 46) (tgt := 60) hx hb dL_bestSo_46 (by decide) (fun c_46 => ?_) (fun c9 => absurd rfl c9)
      refine lv_iconst (v := 1) (pc := 60) hx hb dL_bestSo_60 (by decide) ?_
      refine lv_goto (tgt := 65) (pc := 61) hx hb dL_bestSo_61 (by decide) ?_
      refine lv_istore (lv' := [(6, .int 1), (5, .int (p.1 0)), (4, .int (p.2 k 0)), (3, .int (p.2 k 4)), (2, .int (-5)), (0, .ref o), (1, .int (nI k))]) (pc := 65) hx hb dL_bestSo_65 hl (by decide) rfl (fun ls hl => ?_)
      refine lv_iconst (v := 1) (pc := 67) hx hb dL_bestSo_67 (by decide) ?_
      refine lv_istore (lv' := [(7, .int 1), (6, .int 1), (5, .int (p.1 0)), (4, .int (p.2 k 0)), (3, .int (p.2 k 4)), (2, .int (-5)), (0, .ref o), (1, .int (nI k))]) (pc := 68) hx hb dL_bestSo_68 hl (by decide) rfl (fun ls hl => ?_)
      have loop1 : ∀ cnt i : Nat, i + cnt = 99 → ∀ (w : va_W) , FW ca o (szP p k i) (some p) w → ∀ (H : Heap) (locs : List Loc) (ls : Array Slot), zw G ca A s0.heap s0 w H locs → lv_has ls 9 [(7, .int (nI (i + 1))), (6, .int 1), (5, .int (p.1 0)), (4, .int (p.2 k 0)), (3, .int (p.2 k 4)), (2, .int (-5)), (0, .ref o), (1, .int (nI k))] → W pg l ev rm_L_bestSo s0 mt args below meth cd H locs 0 0 Q (F0 mt 70 ls []) := by
        intro cnt
        induction cnt with
        | zero =>
          intro i hk9 w  hF  H locs ls hz hl
          obtain rfl : 99 = i := by omega
          obtain ⟨fs0, tl0, ew⟩ := hF.h1
          refine lv_iload (pc := 70) hx hb dL_bestSo_70 (lv_at hl 0 rfl) ?_
          refine lv_iload_n (pc := 72) hx hb dL_bestSo_72 rfl (lv_at hl 5 rfl) ?_
          refine lv_if_ge (pc := 73) (tgt := 81) hx hb dL_bestSo_73 (by decide) (fun c9 => absurd c9 (by decide)) (fun c_73 => ?_)
          refine lv_bipush (v := 100) (pc := 76) hx hb dL_bestSo_76 (by decide) ?_
          refine lv_goto (tgt := 84) (pc := 78) hx hb dL_bestSo_78 (by decide) ?_
          refine lv_icmp_ge (pc := 84) (tgt := 143) hx hb dL_bestSo_84 (by decide) (fun c_84 => ?_) (fun c9 => absurd (by decide) c9)
          refine lv_iload (pc := 143) hx hb dL_bestSo_143 (lv_at hl 1 rfl) ?_
          refine lv_if_eq (pc := 145) (tgt := 172) hx hb dL_bestSo_145 (by decide) (fun c9 => absurd c9 i10) (fun c_145 => ?_)
          refine lv_aload_n (pc := 148) hx hb dL_bestSo_148 rfl (lv_at hl 6 rfl) ?_
          obtain ⟨w3, z3, hF3⟩ := f_restore (l := l) (G := G) hF (hP.sz hk 99 (by omega)).1.1 hci 
          obtain ⟨fsw3, tlw3, ew3⟩ := hF3.h1
          refine z_runV (pc := 149) (As := []) (rest := []) (ws1 := w3) ⟨hx, hb, hml, hown, hts⟩ (z3) (cwV 0 hts (zgoodV zsub wq_22_4 wq_22_5 wq_22_6 wq_1_2 wq_22_7) rfl rfl rfl hdV_X3_restore ⟨Nat.le_of_ble_eq_true rfl, Nat.le_of_ble_eq_true rfl⟩) hz [] zp_all zp_all' ew rfl rfl hl.1 (Nat.le_of_ble_eq_true rfl) (st1 := [.int (p.1 0)]) rfl dL_bestSo_149 ⟨Nat.le_of_ble_eq_true rfl, Nat.le_of_ble_eq_true rfl⟩ (fun H locs hz => ?_)
          refine lv_iload (pc := 152) hx hb dL_bestSo_152 (lv_at hl 2 rfl) ?_
          refine lv_icmp_ne (pc := 154) (tgt := 172) hx hb dL_bestSo_154 (by decide) (fun c9 => absurd rfl c9) (fun c_154 => ?_)
          refine lv_aload_n (pc := 157) hx hb dL_bestSo_157 rfl (lv_at hl 6 rfl) ?_
          refine lv_iload_n (pc := 158) hx hb dL_bestSo_158 rfl (lv_at hl 7 rfl) ?_
          refine lv_iconst (v := 0) (pc := 159) hx hb dL_bestSo_159 (by decide) ?_
          refine z_runV (pc := 160) (As := [.int (nI k), .int 0]) (rest := []) (ws1 := w3) ⟨hx, hb, hml, hown, hts⟩ (f_cw (l := l) (G := G) hF3 hci hk (w9 := 0) (by decide) (by decide)) (cwV 2 hts (zgoodV zsub wq_7_7 wq_7_8 wq_7_9 wq_1_2 wq_7_10) rfl rfl rfl hdV_X3_cup ⟨Nat.le_of_ble_eq_true rfl, Nat.le_of_ble_eq_true rfl⟩) hz [] zp_all zp_all' ew3 rfl rfl hl.1 (Nat.le_of_ble_eq_true rfl) (st1 := [.int (p.2 k 0)]) rfl dL_bestSo_160 ⟨Nat.le_of_ble_eq_true rfl, Nat.le_of_ble_eq_true rfl⟩ (fun H locs hz => ?_)
          refine lv_iload (pc := 163) hx hb dL_bestSo_163 (lv_at hl 3 rfl) ?_
          refine lv_icmp_ne (pc := 165) (tgt := 172) hx hb dL_bestSo_165 (by decide) (fun c9 => absurd rfl c9) (fun c_165 => ?_)
          refine lv_iconst (v := 1) (pc := 168) hx hb dL_bestSo_168 (by decide) ?_
          refine lv_goto (tgt := 173) (pc := 169) hx hb dL_bestSo_169 (by decide) ?_
          exact z_zretW (pc := 173) hx hb hr hlk hQ hz (Nat.le_of_ble_eq_true rfl) (Nat.le_of_ble_eq_true rfl) rfl dL_bestSo_173 (by rfl) (hF3.any)
        | succ cnt ih =>
          intro i hk9 w  hF  H locs ls hz hl
          have hi9 : i < 99 := by omega
          obtain ⟨fs0, tl0, ew⟩ := hF.h1
          refine lv_iload (pc := 70) hx hb dL_bestSo_70 (lv_at hl 0 rfl) ?_
          refine lv_iload_n (pc := 72) hx hb dL_bestSo_72 rfl (lv_at hl 5 rfl) ?_
          refine lv_if_ge (pc := 73) (tgt := 81) hx hb dL_bestSo_73 (by decide) (fun c9 => absurd c9 (by decide)) (fun c_73 => ?_)
          refine lv_bipush (v := 100) (pc := 76) hx hb dL_bestSo_76 (by decide) ?_
          refine lv_goto (tgt := 84) (pc := 78) hx hb dL_bestSo_78 (by decide) ?_
          refine lv_icmp_ge (pc := 84) (tgt := 143) hx hb dL_bestSo_84 (by decide) (fun c9 => absurd c9 (nI_ge (b := 100) (by omega) (by decide))) (fun c_84 => ?_)
          refine lv_iload (pc := 87) hx hb dL_bestSo_87 (lv_at hl 1 rfl) ?_
          refine lv_if_eq (pc := 89) (tgt := 143) hx hb dL_bestSo_89 (by decide) (fun c9 => absurd c9 i10) (fun c_89 => ?_)
          refine lv_aload_n (pc := 92) hx hb dL_bestSo_92 rfl (lv_at hl 6 rfl) ?_
          refine lv_iload_n (pc := 93) hx hb dL_bestSo_93 rfl (lv_at hl 7 rfl) ?_
          refine lv_iconst (v := 0) (pc := 94) hx hb dL_bestSo_94 (by decide) ?_
          refine lv_iload (pc := 95) hx hb dL_bestSo_95 (lv_at hl 0 rfl) ?_
          obtain ⟨w4, z4, hF4⟩ := f_setCup (l := l) (G := G) hF (hP.sz hk i (by omega)).1.1 (nI k) 0 (nI (i + 1))
          obtain ⟨fsw4, tlw4, ew4⟩ := hF4.h1
          refine z_runV (pc := 97) (As := [.int (nI k), .int 0, .int (nI (i + 1))]) (rest := []) (ws1 := w4) ⟨hx, hb, hml, hown, hts⟩ (z4) (cwV 3 hts (zgoodV zsub wq_23_7 wq_23_8 wq_23_9 wq_1_2 wq_23_10) rfl rfl rfl hdV_X3_setCup ⟨Nat.le_of_ble_eq_true rfl, Nat.le_of_ble_eq_true rfl⟩) hz [] zp_all zp_all' ew rfl rfl hl.1 (Nat.le_of_ble_eq_true rfl) (st1 := [.int (setR (szP p k i).2 (nI k) 0 (nI (i + 1)))]) rfl dL_bestSo_97 ⟨Nat.le_of_ble_eq_true rfl, Nat.le_of_ble_eq_true rfl⟩ (fun H locs hz => ?_)
          rw [sz_setc hk (by omega)] at hF4
          refine lv_istore (lv' := [(8, .int (setR (szP p k i).2 (nI k) 0 (nI (i + 1)))), (7, .int (nI (i + 1))), (6, .int 1), (5, .int (p.1 0)), (4, .int (p.2 k 0)), (3, .int (p.2 k 4)), (2, .int (-5)), (0, .ref o), (1, .int (nI k))]) (pc := 100) hx hb dL_bestSo_100 hl (by decide) rfl (fun ls hl => ?_)
          refine lv_aload_n (pc := 102) hx hb dL_bestSo_102 rfl (lv_at hl 7 rfl) ?_
          refine lv_iload_n (pc := 103) hx hb dL_bestSo_103 rfl (lv_at hl 8 rfl) ?_
          obtain ⟨w5, z5, hF5⟩ := f_tipsAt (l := l) (G := G) hF4 (hP.sz hk (i + 1) (by omega)).1.1 (nI k)
          obtain ⟨fsw5, tlw5, ew5⟩ := hF5.h1
          refine z_runV (pc := 104) (As := [.int (nI k)]) (rest := []) (ws1 := w5) ⟨hx, hb, hml, hown, hts⟩ (z5) (cwV 1 hts (zgoodV zsub wq_21_4 wq_21_5 wq_21_6 wq_1_2 wq_21_7) rfl rfl rfl hdV_X3_tipsAt ⟨Nat.le_of_ble_eq_true rfl, Nat.le_of_ble_eq_true rfl⟩) hz [] zp_all zp_all' ew4 rfl rfl hl.1 (Nat.le_of_ble_eq_true rfl) (st1 := [.int (khoR (szP p k (i + 1)) (nI k))]) rfl dL_bestSo_104 ⟨Nat.le_of_ble_eq_true rfl, Nat.le_of_ble_eq_true rfl⟩ (fun H locs hz => ?_)
          refine z_top (y := hotF (szP p k (i + 1)) k) (ho_k (hP.sz hk (i + 1) (by omega)) hk) ?_
          refine lv_iload_n (pc := 107) hx hb dL_bestSo_107 rfl (lv_at hl 5 rfl) ?_
          refine lv_icmp_ne (pc := 108) (tgt := 115) hx hb dL_bestSo_108 (by decide) (fun c_108 => ?_) (fun c9 => absurd c9 (hno i (by omega) (by omega)))
          refine lv_iconst (v := 0) (pc := 115) hx hb dL_bestSo_115 (by decide) ?_
          refine lv_iload (pc := 116) hx hb dL_bestSo_116 (lv_at hl 1 rfl) ?_
          refine lv_iload_n (pc := 118) hx hb dL_bestSo_118 rfl (lv_at hl 6 rfl) ?_
          refine lv_icmp_ne (pc := 119) (tgt := 126) hx hb dL_bestSo_119 (by decide) (fun c_119 => ?_) (fun c9 => absurd c9 (nI_n5 (by omega)))
          refine lv_iconst (v := 0) (pc := 126) hx hb dL_bestSo_126 (by decide) ?_
          refine lv_icmp_ne (pc := 127) (tgt := 134) hx hb dL_bestSo_127 (by decide) (fun c9 => absurd rfl c9) (fun c_127 => ?_)
          refine lv_iconst (v := 1) (pc := 130) hx hb dL_bestSo_130 (by decide) ?_
          refine lv_goto (tgt := 135) (pc := 131) hx hb dL_bestSo_131 (by decide) ?_
          refine lv_istore (lv' := [(6, .int 1), (8, .int (setR (szP p k i).2 (nI k) 0 (nI (i + 1)))), (7, .int (nI (i + 1))), (5, .int (p.1 0)), (4, .int (p.2 k 0)), (3, .int (p.2 k 4)), (2, .int (-5)), (0, .ref o), (1, .int (nI k))]) (pc := 135) hx hb dL_bestSo_135 hl (by decide) rfl (fun ls hl => ?_)
          refine lv_iinc (v := nI (i + 1 + 1)) (lv' := [(7, .int (nI (i + 1 + 1))), (6, .int 1), (8, .int (setR (szP p k i).2 (nI k) 0 (nI (i + 1)))), (5, .int (p.1 0)), (4, .int (p.2 k 0)), (3, .int (p.2 k 4)), (2, .int (-5)), (0, .ref o), (1, .int (nI k))]) (pc := 137) hx hb dL_bestSo_137 hl (k := 2) rfl (nI_add (i + 1) 1) (by decide) rfl (fun ls hl => ?_)
          refine lv_goto (tgt := 70) (pc := 140) hx hb dL_bestSo_140 (by decide) ?_
          exact ih (i + 1) (by omega) w5  hF5  _ _ _ hz (lv_sub hl [0, 1, 3, 4, 5, 6, 7, 8] rfl)
      exact loop1 99 0 (by omega) w2  hF2  _ _ _ hz (lv_sub hl [0, 1, 2, 3, 4, 5, 6, 7] rfl)
    · have e9 : (if p.2 k 4 = -1 then (-4 : Int32) else bsF p k 99 0) = nI (b + 1) := by rw [if_neg hne.2]; exact eb
      have hl : lv_has ls 9 [(3, .int (p.2 k 4)), (2, .int (nI (b + 1))), (0, .ref o), (1, .int (nI k))] := by rw [e9, hne.1] at hl; exact hl
      refine lv_aload_n (pc := 29) hx hb dL_bestSo_29 rfl (lv_at hl 2 rfl) ?_
      refine lv_iload_n (pc := 30) hx hb dL_bestSo_30 rfl (lv_at hl 3 rfl) ?_
      refine lv_iconst (v := 0) (pc := 31) hx hb dL_bestSo_31 (by decide) ?_
      refine z_runV (pc := 32) (As := [.int (nI k), .int 0]) (rest := []) (ws1 := w1) ⟨hx, hb, hml, hown, hts⟩ (f_cw (l := l) (G := G) hF1 hci hk (w9 := 0) (by decide) (by decide)) (cwV 2 hts (zgoodV zsub wq_7_7 wq_7_8 wq_7_9 wq_1_2 wq_7_10) rfl rfl rfl hdV_X3_cup ⟨Nat.le_of_ble_eq_true rfl, Nat.le_of_ble_eq_true rfl⟩) hz [] zp_all zp_all' ew1 rfl rfl hl.1 (Nat.le_of_ble_eq_true rfl) (st1 := [.int (p.2 k 0)]) rfl dL_bestSo_32 ⟨Nat.le_of_ble_eq_true rfl, Nat.le_of_ble_eq_true rfl⟩ (fun H locs hz => ?_)
      refine lv_istore (lv' := [(4, .int (p.2 k 0)), (3, .int (p.2 k 4)), (2, .int (nI (b + 1))), (0, .ref o), (1, .int (nI k))]) (pc := 35) hx hb dL_bestSo_35 hl (by decide) rfl (fun ls hl => ?_)
      refine lv_aload_n (pc := 37) hx hb dL_bestSo_37 rfl (lv_at hl 3 rfl) ?_
      obtain ⟨w6, z6, hF6⟩ := f_keep (l := l) (G := G) hF1 hci 
      obtain ⟨fsw6, tlw6, ew6⟩ := hF6.h1
      refine z_runV (pc := 38) (As := []) (rest := []) (ws1 := w6) ⟨hx, hb, hml, hown, hts⟩ (z6) (cwV 0 hts (zgoodV zsub wq_22_0 wq_22_1 wq_22_2 wq_1_2 wq_22_3) rfl rfl rfl hdV_X3_keep ⟨Nat.le_of_ble_eq_true rfl, Nat.le_of_ble_eq_true rfl⟩) hz [] zp_all zp_all' ew1 rfl rfl hl.1 (Nat.le_of_ble_eq_true rfl) (st1 := [.int (p.1 0)]) rfl dL_bestSo_38 ⟨Nat.le_of_ble_eq_true rfl, Nat.le_of_ble_eq_true rfl⟩ (fun H locs hz => ?_)
      refine lv_istore (lv' := [(5, .int (p.1 0)), (4, .int (p.2 k 0)), (3, .int (p.2 k 4)), (2, .int (nI (b + 1))), (0, .ref o), (1, .int (nI k))]) (pc := 41) hx hb dL_bestSo_41 hl (by decide) rfl (fun ls hl => ?_)
      refine lv_iload_n (pc := 43) hx hb dL_bestSo_43 rfl (lv_at hl 3 rfl) ?_
      refine lv_bipush (v := -5) (pc := 44) hx hb dL_bestSo_44 (by decide) ?_
      refine lv_icmp_eq (pc := 46) (tgt := 60) hx hb dL_bestSo_46 (by decide) (fun c9 => absurd c9 (nI_n5 (by omega))) (fun c_46 => ?_)
      refine lv_iload_n (pc := 49) hx hb dL_bestSo_49 rfl (lv_at hl 3 rfl) ?_
      refine lv_iconst (v := 1) (pc := 50) hx hb dL_bestSo_50 (by decide) ?_
      refine lv_icmp_lt (pc := 51) (tgt := 64) hx hb dL_bestSo_51 (by decide) (fun c9 => absurd c9 (nI_nlt (b := 1) (by omega) (by omega))) (fun c_51 => ?_)
      refine lv_iload_n (pc := 54) hx hb dL_bestSo_54 rfl (lv_at hl 3 rfl) ?_
      refine lv_bipush (v := 99) (pc := 55) hx hb dL_bestSo_55 (by decide) ?_
      refine lv_icmp_gt (pc := 57) (tgt := 64) hx hb dL_bestSo_57 (by decide) (fun c9 => absurd c9 (nI_nlt (a := 99) (by omega) (by decide))) (fun c_57 => ?_)
      refine lv_iconst (v := 1) (pc := 60) hx hb dL_bestSo_60 (by decide) ?_
      refine lv_goto (tgt := 65) (pc := 61) hx hb dL_bestSo_61 (by decide) ?_
      refine lv_istore (lv' := [(6, .int 1), (5, .int (p.1 0)), (4, .int (p.2 k 0)), (3, .int (p.2 k 4)), (2, .int (nI (b + 1))), (0, .ref o), (1, .int (nI k))]) (pc := 65) hx hb dL_bestSo_65 hl (by decide) rfl (fun ls hl => ?_)
      refine lv_iconst (v := 1) (pc := 67) hx hb dL_bestSo_67 (by decide) ?_
      refine lv_istore (lv' := [(7, .int 1), (6, .int 1), (5, .int (p.1 0)), (4, .int (p.2 k 0)), (3, .int (p.2 k 4)), (2, .int (nI (b + 1))), (0, .ref o), (1, .int (nI k))]) (pc := 68) hx hb dL_bestSo_68 hl (by decide) rfl (fun ls hl => ?_)
      have loop2 : ∀ cnt i : Nat, i + cnt = (b + 1) → ∀ (w : va_W) , FW ca o (szP p k i) (some p) w → ∀ (H : Heap) (locs : List Loc) (ls : Array Slot), zw G ca A s0.heap s0 w H locs → lv_has ls 9 [(7, .int (nI (i + 1))), (6, .int 1), (5, .int (p.1 0)), (4, .int (p.2 k 0)), (3, .int (p.2 k 4)), (2, .int (nI (b + 1))), (0, .ref o), (1, .int (nI k))] → W pg l ev rm_L_bestSo s0 mt args below meth cd H locs 0 0 Q (F0 mt 70 ls []) := by
        intro cnt
        induction cnt with
        | zero =>
          intro i hk9 w  hF  H locs ls hz hl
          obtain rfl : (b + 1) = i := by omega
          obtain ⟨fs0, tl0, ew⟩ := hF.h1
          refine lv_iload (pc := 70) hx hb dL_bestSo_70 (lv_at hl 0 rfl) ?_
          refine lv_iload_n (pc := 72) hx hb dL_bestSo_72 rfl (lv_at hl 5 rfl) ?_
          refine lv_if_ge (pc := 73) (tgt := 81) hx hb dL_bestSo_73 (by decide) (fun c_73 => ?_) (fun c9 => absurd (nI_0le (by omega)) c9)
          refine lv_iload_n (pc := 81) hx hb dL_bestSo_81 rfl (lv_at hl 5 rfl) ?_
          refine lv_iconst (v := 1) (pc := 82) hx hb dL_bestSo_82 (by decide) ?_
          refine lv_iadd (pc := 83) hx hb dL_bestSo_83 ?_
          refine z_top (y := nI (b + 2)) (nI_1 (b + 1)) ?_
          refine lv_icmp_ge (pc := 84) (tgt := 143) hx hb dL_bestSo_84 (by decide) (fun c_84 => ?_) (fun c9 => absurd (Int32.le_refl _) c9)
          refine lv_iload (pc := 143) hx hb dL_bestSo_143 (lv_at hl 1 rfl) ?_
          refine lv_if_eq (pc := 145) (tgt := 172) hx hb dL_bestSo_145 (by decide) (fun c9 => absurd c9 i10) (fun c_145 => ?_)
          refine lv_aload_n (pc := 148) hx hb dL_bestSo_148 rfl (lv_at hl 6 rfl) ?_
          obtain ⟨w7, z7, hF7⟩ := f_restore (l := l) (G := G) hF (hP.sz hk (b + 1) (by omega)).1.1 hci 
          obtain ⟨fsw7, tlw7, ew7⟩ := hF7.h1
          refine z_runV (pc := 149) (As := []) (rest := []) (ws1 := w7) ⟨hx, hb, hml, hown, hts⟩ (z7) (cwV 0 hts (zgoodV zsub wq_22_4 wq_22_5 wq_22_6 wq_1_2 wq_22_7) rfl rfl rfl hdV_X3_restore ⟨Nat.le_of_ble_eq_true rfl, Nat.le_of_ble_eq_true rfl⟩) hz [] zp_all zp_all' ew rfl rfl hl.1 (Nat.le_of_ble_eq_true rfl) (st1 := [.int (p.1 0)]) rfl dL_bestSo_149 ⟨Nat.le_of_ble_eq_true rfl, Nat.le_of_ble_eq_true rfl⟩ (fun H locs hz => ?_)
          refine lv_iload (pc := 152) hx hb dL_bestSo_152 (lv_at hl 2 rfl) ?_
          refine lv_icmp_ne (pc := 154) (tgt := 172) hx hb dL_bestSo_154 (by decide) (fun c9 => absurd rfl c9) (fun c_154 => ?_)
          refine lv_aload_n (pc := 157) hx hb dL_bestSo_157 rfl (lv_at hl 6 rfl) ?_
          refine lv_iload_n (pc := 158) hx hb dL_bestSo_158 rfl (lv_at hl 7 rfl) ?_
          refine lv_iconst (v := 0) (pc := 159) hx hb dL_bestSo_159 (by decide) ?_
          refine z_runV (pc := 160) (As := [.int (nI k), .int 0]) (rest := []) (ws1 := w7) ⟨hx, hb, hml, hown, hts⟩ (f_cw (l := l) (G := G) hF7 hci hk (w9 := 0) (by decide) (by decide)) (cwV 2 hts (zgoodV zsub wq_7_7 wq_7_8 wq_7_9 wq_1_2 wq_7_10) rfl rfl rfl hdV_X3_cup ⟨Nat.le_of_ble_eq_true rfl, Nat.le_of_ble_eq_true rfl⟩) hz [] zp_all zp_all' ew7 rfl rfl hl.1 (Nat.le_of_ble_eq_true rfl) (st1 := [.int (p.2 k 0)]) rfl dL_bestSo_160 ⟨Nat.le_of_ble_eq_true rfl, Nat.le_of_ble_eq_true rfl⟩ (fun H locs hz => ?_)
          refine lv_iload (pc := 163) hx hb dL_bestSo_163 (lv_at hl 3 rfl) ?_
          refine lv_icmp_ne (pc := 165) (tgt := 172) hx hb dL_bestSo_165 (by decide) (fun c9 => absurd rfl c9) (fun c_165 => ?_)
          refine lv_iconst (v := 1) (pc := 168) hx hb dL_bestSo_168 (by decide) ?_
          refine lv_goto (tgt := 173) (pc := 169) hx hb dL_bestSo_169 (by decide) ?_
          exact z_zretW (pc := 173) hx hb hr hlk hQ hz (Nat.le_of_ble_eq_true rfl) (Nat.le_of_ble_eq_true rfl) rfl dL_bestSo_173 (by rfl) (hF7.any)
        | succ cnt ih =>
          intro i hk9 w  hF  H locs ls hz hl
          have hi9 : i < (b + 1) := by omega
          obtain ⟨fs0, tl0, ew⟩ := hF.h1
          refine lv_iload (pc := 70) hx hb dL_bestSo_70 (lv_at hl 0 rfl) ?_
          refine lv_iload_n (pc := 72) hx hb dL_bestSo_72 rfl (lv_at hl 5 rfl) ?_
          refine lv_if_ge (pc := 73) (tgt := 81) hx hb dL_bestSo_73 (by decide) (fun c_73 => ?_) (fun c9 => absurd (nI_0le (by omega)) c9)
          refine lv_iload_n (pc := 81) hx hb dL_bestSo_81 rfl (lv_at hl 5 rfl) ?_
          refine lv_iconst (v := 1) (pc := 82) hx hb dL_bestSo_82 (by decide) ?_
          refine lv_iadd (pc := 83) hx hb dL_bestSo_83 ?_
          refine z_top (y := nI (b + 2)) (nI_1 (b + 1)) ?_
          refine lv_icmp_ge (pc := 84) (tgt := 143) hx hb dL_bestSo_84 (by decide) (fun c9 => absurd c9 (nI_ge (by omega) (by omega))) (fun c_84 => ?_)
          refine lv_iload (pc := 87) hx hb dL_bestSo_87 (lv_at hl 1 rfl) ?_
          refine lv_if_eq (pc := 89) (tgt := 143) hx hb dL_bestSo_89 (by decide) (fun c9 => absurd c9 i10) (fun c_89 => ?_)
          refine lv_aload_n (pc := 92) hx hb dL_bestSo_92 rfl (lv_at hl 6 rfl) ?_
          refine lv_iload_n (pc := 93) hx hb dL_bestSo_93 rfl (lv_at hl 7 rfl) ?_
          refine lv_iconst (v := 0) (pc := 94) hx hb dL_bestSo_94 (by decide) ?_
          refine lv_iload (pc := 95) hx hb dL_bestSo_95 (lv_at hl 0 rfl) ?_
          obtain ⟨w8, z8, hF8⟩ := f_setCup (l := l) (G := G) hF (hP.sz hk i (by omega)).1.1 (nI k) 0 (nI (i + 1))
          obtain ⟨fsw8, tlw8, ew8⟩ := hF8.h1
          refine z_runV (pc := 97) (As := [.int (nI k), .int 0, .int (nI (i + 1))]) (rest := []) (ws1 := w8) ⟨hx, hb, hml, hown, hts⟩ (z8) (cwV 3 hts (zgoodV zsub wq_23_7 wq_23_8 wq_23_9 wq_1_2 wq_23_10) rfl rfl rfl hdV_X3_setCup ⟨Nat.le_of_ble_eq_true rfl, Nat.le_of_ble_eq_true rfl⟩) hz [] zp_all zp_all' ew rfl rfl hl.1 (Nat.le_of_ble_eq_true rfl) (st1 := [.int (setR (szP p k i).2 (nI k) 0 (nI (i + 1)))]) rfl dL_bestSo_97 ⟨Nat.le_of_ble_eq_true rfl, Nat.le_of_ble_eq_true rfl⟩ (fun H locs hz => ?_)
          rw [sz_setc hk (by omega)] at hF8
          refine lv_istore (lv' := [(8, .int (setR (szP p k i).2 (nI k) 0 (nI (i + 1)))), (7, .int (nI (i + 1))), (6, .int 1), (5, .int (p.1 0)), (4, .int (p.2 k 0)), (3, .int (p.2 k 4)), (2, .int (nI (b + 1))), (0, .ref o), (1, .int (nI k))]) (pc := 100) hx hb dL_bestSo_100 hl (by decide) rfl (fun ls hl => ?_)
          rcases Nat.lt_or_ge i b with hib | hib
          · have hnb : ¬ nI (i + 1) = nI (b + 1) := fun q => by have := nI_inj9 (by omega) (by omega) q; omega
            refine lv_aload_n (pc := 102) hx hb dL_bestSo_102 rfl (lv_at hl 7 rfl) ?_
            refine lv_iload_n (pc := 103) hx hb dL_bestSo_103 rfl (lv_at hl 8 rfl) ?_
            obtain ⟨w9, z9, hF9⟩ := f_tipsAt (l := l) (G := G) hF8 (hP.sz hk (i + 1) (by omega)).1.1 (nI k)
            obtain ⟨fsw9, tlw9, ew9⟩ := hF9.h1
            refine z_runV (pc := 104) (As := [.int (nI k)]) (rest := []) (ws1 := w9) ⟨hx, hb, hml, hown, hts⟩ (z9) (cwV 1 hts (zgoodV zsub wq_21_4 wq_21_5 wq_21_6 wq_1_2 wq_21_7) rfl rfl rfl hdV_X3_tipsAt ⟨Nat.le_of_ble_eq_true rfl, Nat.le_of_ble_eq_true rfl⟩) hz [] zp_all zp_all' ew8 rfl rfl hl.1 (Nat.le_of_ble_eq_true rfl) (st1 := [.int (khoR (szP p k (i + 1)) (nI k))]) rfl dL_bestSo_104 ⟨Nat.le_of_ble_eq_true rfl, Nat.le_of_ble_eq_true rfl⟩ (fun H locs hz => ?_)
            refine z_top (y := hotF (szP p k (i + 1)) k) (ho_k (hP.sz hk (i + 1) (by omega)) hk) ?_
            refine lv_iload_n (pc := 107) hx hb dL_bestSo_107 rfl (lv_at hl 5 rfl) ?_
            refine lv_icmp_ne (pc := 108) (tgt := 115) hx hb dL_bestSo_108 (by decide) (fun c_108 => ?_) (fun c9 => absurd c9 (hno i (by omega) hib))
            refine lv_iconst (v := 0) (pc := 115) hx hb dL_bestSo_115 (by decide) ?_
            refine lv_iload (pc := 116) hx hb dL_bestSo_116 (lv_at hl 1 rfl) ?_
            refine lv_iload_n (pc := 118) hx hb dL_bestSo_118 rfl (lv_at hl 6 rfl) ?_
            refine lv_icmp_ne (pc := 119) (tgt := 126) hx hb dL_bestSo_119 (by decide) (fun c_119 => ?_) (fun c9 => absurd c9 hnb)
            refine lv_iconst (v := 0) (pc := 126) hx hb dL_bestSo_126 (by decide) ?_
            refine lv_icmp_ne (pc := 127) (tgt := 134) hx hb dL_bestSo_127 (by decide) (fun c9 => absurd rfl c9) (fun c_127 => ?_)
            refine lv_iconst (v := 1) (pc := 130) hx hb dL_bestSo_130 (by decide) ?_
            refine lv_goto (tgt := 135) (pc := 131) hx hb dL_bestSo_131 (by decide) ?_
            refine lv_istore (lv' := [(6, .int 1), (8, .int (setR (szP p k i).2 (nI k) 0 (nI (i + 1)))), (7, .int (nI (i + 1))), (5, .int (p.1 0)), (4, .int (p.2 k 0)), (3, .int (p.2 k 4)), (2, .int (nI (b + 1))), (0, .ref o), (1, .int (nI k))]) (pc := 135) hx hb dL_bestSo_135 hl (by decide) rfl (fun ls hl => ?_)
            refine lv_iinc (v := nI (i + 1 + 1)) (lv' := [(7, .int (nI (i + 1 + 1))), (6, .int 1), (8, .int (setR (szP p k i).2 (nI k) 0 (nI (i + 1)))), (5, .int (p.1 0)), (4, .int (p.2 k 0)), (3, .int (p.2 k 4)), (2, .int (nI (b + 1))), (0, .ref o), (1, .int (nI k))]) (pc := 137) hx hb dL_bestSo_137 hl (k := 2) rfl (nI_add (i + 1) 1) (by decide) rfl (fun ls hl => ?_)
            refine lv_goto (tgt := 70) (pc := 140) hx hb dL_bestSo_140 (by decide) ?_
            exact ih (i + 1) (by omega) w9  hF9  _ _ _ hz (lv_sub hl [0, 1, 3, 4, 5, 6, 7, 8] rfl)
          · have hib : i = b := by omega
            refine lv_aload_n (pc := 102) hx hb dL_bestSo_102 rfl (lv_at hl 7 rfl) ?_
            refine lv_iload_n (pc := 103) hx hb dL_bestSo_103 rfl (lv_at hl 8 rfl) ?_
            obtain ⟨w10, z10, hF10⟩ := f_tipsAt (l := l) (G := G) hF8 (hP.sz hk (i + 1) (by omega)).1.1 (nI k)
            obtain ⟨fsw10, tlw10, ew10⟩ := hF10.h1
            refine z_runV (pc := 104) (As := [.int (nI k)]) (rest := []) (ws1 := w10) ⟨hx, hb, hml, hown, hts⟩ (z10) (cwV 1 hts (zgoodV zsub wq_21_4 wq_21_5 wq_21_6 wq_1_2 wq_21_7) rfl rfl rfl hdV_X3_tipsAt ⟨Nat.le_of_ble_eq_true rfl, Nat.le_of_ble_eq_true rfl⟩) hz [] zp_all zp_all' ew8 rfl rfl hl.1 (Nat.le_of_ble_eq_true rfl) (st1 := [.int (khoR (szP p k (i + 1)) (nI k))]) rfl dL_bestSo_104 ⟨Nat.le_of_ble_eq_true rfl, Nat.le_of_ble_eq_true rfl⟩ (fun H locs hz => ?_)
            refine z_top (y := hotF (szP p k (i + 1)) k) (ho_k (hP.sz hk (i + 1) (by omega)) hk) ?_
            refine lv_iload_n (pc := 107) hx hb dL_bestSo_107 rfl (lv_at hl 5 rfl) ?_
            refine lv_icmp_ne (pc := 108) (tgt := 115) hx hb dL_bestSo_108 (by decide) (fun c9 => absurd (by rw [hib]; exact hit) c9) (fun c_108 => ?_)
            refine lv_iconst (v := 1) (pc := 111) hx hb dL_bestSo_111 (by decide) ?_
            refine lv_goto (tgt := 116) (pc := 112) hx hb dL_bestSo_112 (by decide) ?_
            refine lv_iload (pc := 116) hx hb dL_bestSo_116 (lv_at hl 1 rfl) ?_
            refine lv_iload_n (pc := 118) hx hb dL_bestSo_118 rfl (lv_at hl 6 rfl) ?_
            refine lv_icmp_ne (pc := 119) (tgt := 126) hx hb dL_bestSo_119 (by decide) (fun c9 => absurd (by rw [hib]) c9) (fun c_119 => ?_)
            refine lv_iconst (v := 1) (pc := 122) hx hb dL_bestSo_122 (by decide) ?_
            refine lv_goto (tgt := 127) (pc := 123) hx hb dL_bestSo_123 (by decide) ?_
            refine lv_icmp_ne (pc := 127) (tgt := 134) hx hb dL_bestSo_127 (by decide) (fun c9 => absurd rfl c9) (fun c_127 => ?_)
            refine lv_iconst (v := 1) (pc := 130) hx hb dL_bestSo_130 (by decide) ?_
            refine lv_goto (tgt := 135) (pc := 131) hx hb dL_bestSo_131 (by decide) ?_
            refine lv_istore (lv' := [(6, .int 1), (8, .int (setR (szP p k i).2 (nI k) 0 (nI (i + 1)))), (7, .int (nI (i + 1))), (5, .int (p.1 0)), (4, .int (p.2 k 0)), (3, .int (p.2 k 4)), (2, .int (nI (b + 1))), (0, .ref o), (1, .int (nI k))]) (pc := 135) hx hb dL_bestSo_135 hl (by decide) rfl (fun ls hl => ?_)
            refine lv_iinc (v := nI (i + 1 + 1)) (lv' := [(7, .int (nI (i + 1 + 1))), (6, .int 1), (8, .int (setR (szP p k i).2 (nI k) 0 (nI (i + 1)))), (5, .int (p.1 0)), (4, .int (p.2 k 0)), (3, .int (p.2 k 4)), (2, .int (nI (b + 1))), (0, .ref o), (1, .int (nI k))]) (pc := 137) hx hb dL_bestSo_137 hl (k := 2) rfl (nI_add (i + 1) 1) (by decide) rfl (fun ls hl => ?_)
            refine lv_goto (tgt := 70) (pc := 140) hx hb dL_bestSo_140 (by decide) ?_
            exact ih (i + 1) (by omega) w10  hF10  _ _ _ hz (lv_sub hl [0, 1, 3, 4, 5, 6, 7, 8] rfl)
      exact loop2 (b + 1) 0 (by omega) w6  hF6  _ _ _ hz (lv_sub hl [0, 1, 2, 3, 4, 5, 6, 7] rfl)
  · refine lv_iload_n (pc := 17) hx hb dL_bestSo_17 rfl (lv_at hl 1 rfl) ?_
    refine lv_bipush (v := -4) (pc := 18) hx hb dL_bestSo_18 (by decide) ?_
    refine lv_icmp_ne (pc := 20) (tgt := 27) hx hb dL_bestSo_20 (by decide) (fun c9 => absurd (if_pos (hr5_neg c_14 (hP.hr hk))) c9) (fun c_20 => ?_)
    refine lv_iconst (v := 1) (pc := 23) hx hb dL_bestSo_23 (by decide) ?_
    refine lv_goto (tgt := 28) (pc := 24) hx hb dL_bestSo_24 (by decide) ?_
    exact z_zretW (pc := 28) hx hb hr hlk hQ hz (Nat.le_of_ble_eq_true rfl) (Nat.le_of_ble_eq_true rfl) rfl dL_bestSo_28 (by rfl) (hF1.any)

def rm_L_ticks : Room := { frames := 6, cells := 2, slots := 40, locals := 135 }
set_option maxRecDepth 20000 in
theorem hdV_L_ticks : yL_ticks.cls = RL ∧ yL_ticks.cls ≠ "java/lang/invoke/MethodHandle" ∧ yL_ticks.cls ≠ "java/lang/invoke/VarHandle" ∧ (parseMethodDescriptor yL_ticks.desc).map (fun d => d.parameters.length) = some 1 := by decide +kernel
set_option maxHeartbeats 4000000 in
set_option maxRecDepth 100000 in
theorem k_L_ticks (l : Launch) (G : va_G) (ca : Nat → ClassId) (o : Nat) (w : va_W) (p : HC) (K : Option HC) (hF : FW ca o p K w) {F : Nat} (hP : PI F p) {t0 : Nat} (hF26 : F < 2 ^ 26) (ht0 : p.1 0 = nI t0) (ht9 : t0 + 1 ≤ 99999) : Zw l G ca yL_ticks (zws yL_ticks cL_ticks 10 (some .boolean)) rm_L_ticks [.ref o] w ((some (.int 1))) (fun w1 => FW ca o (tickP p) K w1) 2 40 := by
  refine Zw.of (cc := cL_ticks) (maxL := 10) (ret := (some .boolean)) (by decide) rfl (Nat.le_of_ble_eq_true rfl) ?_
  intro pg ev s0 mt below meth cd A args Q ls hx hb hr hml hown hts hlk hQ hl hz
  have hl : lv_has ls 10 [(0, .ref o)] := hl
  obtain ⟨fs0, tl0, ew⟩ := hF.h1
  have hci := hP.1.1
  have h1p := pass_n hP ht0 (n := 1) (by omega) (by decide) (by decide)
  have hct : CI (tickP p) := hci.tick
  refine lv_bipush (v := 8) (pc := 0) hx hb dL_ticks_0 (by decide) ?_
  refine z_newa (pc := 2) (atype := .int) hx hb (hts _ (zsub _ wq_6_4)) rfl hz 1 rfl (N' := 8) (a0 := (8, .inl (fun _ => 0))) (fun _ => rfl) (by decide) (by decide) (Nat.le_of_ble_eq_true rfl) (Nat.le_of_ble_eq_true rfl) (Nat.le_of_ble_eq_true rfl) dL_ticks_2 (fun q1 H hz => ?_)
  have hz := hz.perm List.perm_append_comm
  have hz := hz.as (show _ = [(q1, .inl (ca 1, 8, .inl (fun _ => 0)))] ++ w from rfl)
  refine lv_astore_n (lv' := [(1, .ref q1), (0, .ref o)]) (pc := 4) hx hb dL_ticks_4 rfl hl (by decide) rfl (fun ls hl => ?_)
  refine lv_bipush (v := 32) (pc := 5) hx hb dL_ticks_5 (by decide) ?_
  refine z_newa (pc := 7) (atype := .int) hx hb (hts _ (zsub _ wq_6_4)) rfl hz 1 rfl (N' := 32) (a0 := (32, .inl (fun _ => 0))) (fun _ => rfl) (by decide) (by decide) (Nat.le_of_ble_eq_true rfl) (Nat.le_of_ble_eq_true rfl) (Nat.le_of_ble_eq_true rfl) dL_ticks_7 (fun q2 H hz => ?_)
  have hz := hz.perm (z_mid (a := [(q1, .inl (ca 1, 8, .inl (fun _ => 0)))]) (b := w) (c := [(q2, .inl (ca 1, 32, .inl (fun _ => 0)))]))
  have hz := hz.as (show _ = [(q1, .inl (ca 1, 8, .inl (fun _ => 0))), (q2, .inl (ca 1, 32, .inl (fun _ => 0)))] ++ w from rfl)
  refine lv_astore_n (lv' := [(2, .ref q2), (1, .ref q1), (0, .ref o)]) (pc := 9) hx hb dL_ticks_9 rfl hl (by decide) rfl (fun ls hl => ?_)
  refine lv_aload_n (pc := 10) hx hb dL_ticks_10 rfl (lv_at hl 2 rfl) ?_
  refine lv_iconst (v := 1) (pc := 11) hx hb dL_ticks_11 (by decide) ?_
  refine z_runV (pc := 12) (As := [.int 1]) (rest := []) (ws1 := [(q1, .inl (ca 1, 8, .inl (fun _ => 0))), (q2, .inl (ca 1, 32, .inl (fun _ => 0)))] ++ w) ⟨hx, hb, hml, hown, hts⟩ (f_count (l := l) (G := G) hF hci (x := 1) (by decide) (by decide)) (cwV 1 hts (zgoodV zsub wq_8_11 wq_9_0 wq_9_1 wq_1_2 wq_9_2) rfl rfl rfl hdV_X3_count ⟨Nat.le_of_ble_eq_true rfl, Nat.le_of_ble_eq_true rfl⟩) hz [(q1, .inl (ca 1, 8, .inl (fun _ => 0))), (q2, .inl (ca 1, 32, .inl (fun _ => 0)))] List.perm_append_comm List.perm_append_comm ew rfl rfl hl.1 (Nat.le_of_ble_eq_true rfl) (st1 := [.int (stellR p 1)]) rfl dL_ticks_12 ⟨Nat.le_of_ble_eq_true rfl, Nat.le_of_ble_eq_true rfl⟩ (fun H locs hz => ?_)
  refine z_top (y := hourP p) (hour_eq hci) ?_
  refine lv_istore_n (lv' := [(3, .int (hourP p)), (2, .ref q2), (1, .ref q1), (0, .ref o)]) (pc := 15) hx hb dL_ticks_15 rfl hl (by decide) rfl (fun ls hl => ?_)
  refine lv_iconst (v := 0) (pc := 16) hx hb dL_ticks_16 (by decide) ?_
  refine lv_istore (lv' := [(4, .int 0), (3, .int (hourP p)), (2, .ref q2), (1, .ref q1), (0, .ref o)]) (pc := 17) hx hb dL_ticks_17 hl (by decide) rfl (fun ls hl => ?_)
  refine lv_iconst (v := 0) (pc := 19) hx hb dL_ticks_19 (by decide) ?_
  refine lv_istore (lv' := [(5, .int 0), (4, .int 0), (3, .int (hourP p)), (2, .ref q2), (1, .ref q1), (0, .ref o)]) (pc := 20) hx hb dL_ticks_20 hl (by decide) rfl (fun ls hl => ?_)
  have loop1 : ∀ cnt k : Nat, k + cnt = 8 → ∀ (w : va_W) , FW ca o p K w → ∀ (H : Heap) (locs : List Loc) (ls : Array Slot), zw G ca A s0.heap s0 ([(q1, .inl (ca 1, 8, .inl (wUp p k))), (q2, .inl (ca 1, 32, .inl (gUp p k)))] ++ w) H locs → lv_has ls 10 [(5, .int (nI k)), (4, .int 0), (3, .int (hourP p)), (2, .ref q2), (1, .ref q1), (0, .ref o)] → W pg l ev rm_L_ticks s0 mt args below meth cd H locs 2 40 Q (F0 mt 22 ls []) := by
    intro cnt
    induction cnt with
    | zero =>
      intro k hk9 w  hF  H locs ls hz hl
      obtain rfl : 8 = k := by omega
      obtain ⟨fs0, tl0, ew⟩ := hF.h1
      refine lv_iload (pc := 22) hx hb dL_ticks_22 (lv_at hl 0 rfl) ?_
      refine lv_bipush (v := 8) (pc := 24) hx hb dL_ticks_24 (by decide) ?_
      refine lv_icmp_ge (pc := 26) (tgt := 206) hx hb dL_ticks_26 (by decide) (fun c_26 => ?_) (fun c9 => absurd (by decide) c9)
      refine lv_aload_n (pc := 206) hx hb dL_ticks_206 rfl (lv_at hl 5 rfl) ?_
      refine lv_iconst (v := 1) (pc := 207) hx hb dL_ticks_207 (by decide) ?_
      obtain ⟨w1, z1, hF1⟩ := f_pass (l := l) (G := G) hF hci 1
      obtain ⟨fsw1, tlw1, ew1⟩ := hF1.h1
      refine z_runV (pc := 208) (As := [.int 1]) (rest := []) (ws1 := [(q1, .inl (ca 1, 8, .inl (wUp p 8))), (q2, .inl (ca 1, 32, .inl (gUp p 8)))] ++ w1) ⟨hx, hb, hml, hown, hts⟩ (z1) (cwV 1 hts (zgoodV zsub wq_18_0 wq_18_1 wq_18_2 wq_1_2 wq_18_3) rfl rfl rfl hdV_X3_pass ⟨Nat.le_of_ble_eq_true rfl, Nat.le_of_ble_eq_true rfl⟩) hz [(q1, .inl (ca 1, 8, .inl (wUp p 8))), (q2, .inl (ca 1, 32, .inl (gUp p 8)))] List.perm_append_comm List.perm_append_comm ew rfl rfl hl.1 (Nat.le_of_ble_eq_true rfl) (st1 := [.int (kpassR p 1)]) rfl dL_ticks_208 ⟨Nat.le_of_ble_eq_true rfl, Nat.le_of_ble_eq_true rfl⟩ (fun H locs hz => ?_)
      rw [show kN p (passN p 1) = tickP p from h1p.1] at hF1
      refine z_top (y := kS p 1) h1p.2 ?_
      refine lv_istore (lv' := [(5, .int (kS p 1)), (4, .int 0), (3, .int (hourP p)), (2, .ref q2), (1, .ref q1), (0, .ref o)]) (pc := 211) hx hb dL_ticks_211 hl (by decide) rfl (fun ls hl => ?_)
      refine lv_iconst (v := 0) (pc := 213) hx hb dL_ticks_213 (by decide) ?_
      refine lv_istore (lv' := [(6, .int 0), (5, .int (kS p 1)), (4, .int 0), (3, .int (hourP p)), (2, .ref q2), (1, .ref q1), (0, .ref o)]) (pc := 214) hx hb dL_ticks_214 hl (by decide) rfl (fun ls hl => ?_)
      have loop2 : ∀ cnt k : Nat, k + cnt = 8 → ∀ (H : Heap) (locs : List Loc) (ls : Array Slot), zw G ca A s0.heap s0 ([(q1, .inl (ca 1, 8, .inl (wUp p 8))), (q2, .inl (ca 1, 32, .inl (gUp p 8)))] ++ w1) H locs → lv_has ls 10 [(6, .int (nI k)), (5, .int (kS p 1)), (4, .int (nT (hourP p) (springP p) k)), (3, .int (hourP p)), (2, .ref q2), (1, .ref q1), (0, .ref o)] → W pg l ev rm_L_ticks s0 mt args below meth cd H locs 2 40 Q (F0 mt 216 ls []) := by
        intro cnt
        induction cnt with
        | zero =>
          intro k hk9 H locs ls hz hl
          obtain rfl : 8 = k := by omega
          refine lv_iload (pc := 216) hx hb dL_ticks_216 (lv_at hl 0 rfl) ?_
          refine lv_bipush (v := 8) (pc := 218) hx hb dL_ticks_218 (by decide) ?_
          refine lv_icmp_ge (pc := 220) (tgt := 483) hx hb dL_ticks_220 (by decide) (fun c_220 => ?_) (fun c9 => absurd (by decide) c9)
          refine lv_iload (pc := 483) hx hb dL_ticks_483 (lv_at hl 1 rfl) ?_
          refine lv_iload (pc := 485) hx hb dL_ticks_485 (lv_at hl 2 rfl) ?_
          refine lv_icmp_ne (pc := 487) (tgt := 494) hx hb dL_ticks_487 (by decide) (fun c9 => absurd (kS_1 hci) c9) (fun c_487 => ?_)
          refine lv_iconst (v := 1) (pc := 490) hx hb dL_ticks_490 (by decide) ?_
          refine lv_goto (tgt := 495) (pc := 491) hx hb dL_ticks_491 (by decide) ?_
          have hz := hz.drop
          exact z_zretW (pc := 495) hx hb hr hlk hQ hz (Nat.le_of_ble_eq_true rfl) (Nat.le_of_ble_eq_true rfl) rfl dL_ticks_495 (by rfl) (hF1)
        | succ cnt ih =>
          intro k hk9 H locs ls hz hl
          have hk : k < 8 := by omega
          have hjet := hP.jet hF26 hk
          have htl := hP.tally hk
          refine lv_iload (pc := 216) hx hb dL_ticks_216 (lv_at hl 0 rfl) ?_
          refine lv_bipush (v := 8) (pc := 218) hx hb dL_ticks_218 (by decide) ?_
          refine lv_icmp_ge (pc := 220) (tgt := 483) hx hb dL_ticks_220 (by decide) (fun c9 => absurd c9 (nI_ge hk (by decide))) (fun c_220 => ?_)
          refine lv_aload_n (pc := 223) hx hb dL_ticks_223 rfl (lv_at hl 6 rfl) ?_
          refine lv_iload (pc := 224) hx hb dL_ticks_224 (lv_at hl 0 rfl) ?_
          refine lv_iconst (v := 4) (pc := 226) hx hb dL_ticks_226 (by decide) ?_
          refine z_runV (pc := 227) (As := [.int (nI k), .int 4]) (rest := []) (ws1 := [(q1, .inl (ca 1, 8, .inl (wUp p 8))), (q2, .inl (ca 1, 32, .inl (gUp p 8)))] ++ w1) ⟨hx, hb, hml, hown, hts⟩ (f_c4 (l := l) (G := G) hF1 hct hk) (cwV 2 hts (zgoodV zsub wq_7_7 wq_7_8 wq_7_9 wq_1_2 wq_7_10) rfl rfl rfl hdV_X3_cup ⟨Nat.le_of_ble_eq_true rfl, Nat.le_of_ble_eq_true rfl⟩) hz [(q1, .inl (ca 1, 8, .inl (wUp p 8))), (q2, .inl (ca 1, 32, .inl (gUp p 8)))] List.perm_append_comm List.perm_append_comm ew1 rfl rfl hl.1 (Nat.le_of_ble_eq_true rfl) (st1 := [.int (hr5 ((tickP p).2 k 4))]) rfl dL_ticks_227 ⟨Nat.le_of_ble_eq_true rfl, Nat.le_of_ble_eq_true rfl⟩ (fun H locs hz => ?_)
          refine z_top (y := hr5 (p.2 k 4)) (congrArg hr5 (tickP_w p k 4 (by decide) (by decide) (by decide))) ?_
          refine lv_istore (lv' := [(7, .int (hr5 (p.2 k 4))), (6, .int (nI k)), (5, .int (kS p 1)), (4, .int (nT (hourP p) (springP p) k)), (3, .int (hourP p)), (2, .ref q2), (1, .ref q1), (0, .ref o)]) (pc := 230) hx hb dL_ticks_230 hl (by decide) rfl (fun ls hl => ?_)
          refine lv_aload_n (pc := 232) hx hb dL_ticks_232 rfl (lv_at hl 7 rfl) ?_
          refine lv_iload (pc := 233) hx hb dL_ticks_233 (lv_at hl 1 rfl) ?_
          refine lv_bipush (v := 8) (pc := 235) hx hb dL_ticks_235 (by decide) ?_
          refine z_runV (pc := 237) (As := [.int (nI k), .int 8]) (rest := []) (ws1 := [(q1, .inl (ca 1, 8, .inl (wUp p 8))), (q2, .inl (ca 1, 32, .inl (gUp p 8)))] ++ w1) ⟨hx, hb, hml, hown, hts⟩ (f_cw (l := l) (G := G) hF1 hct hk (w9 := 8) (by decide) (by decide)) (cwV 2 hts (zgoodV zsub wq_7_7 wq_7_8 wq_7_9 wq_1_2 wq_7_10) rfl rfl rfl hdV_X3_cup ⟨Nat.le_of_ble_eq_true rfl, Nat.le_of_ble_eq_true rfl⟩) hz [(q1, .inl (ca 1, 8, .inl (wUp p 8))), (q2, .inl (ca 1, 32, .inl (gUp p 8)))] List.perm_append_comm List.perm_append_comm ew1 rfl rfl hl.1 (Nat.le_of_ble_eq_true rfl) (st1 := [.int ((tickP p).2 k 8)]) rfl dL_ticks_237 ⟨Nat.le_of_ble_eq_true rfl, Nat.le_of_ble_eq_true rfl⟩ (fun H locs hz => ?_)
          refine lv_aload_n (pc := 240) hx hb dL_ticks_240 rfl (lv_at hl 5 rfl) ?_
          refine lv_iconst (v := 4) (pc := 241) hx hb dL_ticks_241 (by decide) ?_
          refine lv_iload (pc := 242) hx hb dL_ticks_242 (lv_at hl 1 rfl) ?_
          refine lv_imul (pc := 244) hx hb dL_ticks_244 ?_
          refine z_iald (x := p.2 k (8 + 0)) (pc := 245) hx hb hz 1 rfl (4 * k + 0) (x40 k) (by omega) (by decide) (gUp_at (by decide) 8 k hk) dL_ticks_245 ?_
          refine lv_isub (pc := 246) hx hb dL_ticks_246 ?_
          refine z_top (y := tg p k 0) (hP.tipped hk) ?_
          refine lv_istore (lv' := [(8, .int (tg p k 0)), (7, .int (hr5 (p.2 k 4))), (6, .int (nI k)), (5, .int (kS p 1)), (4, .int (nT (hourP p) (springP p) k)), (3, .int (hourP p)), (2, .ref q2), (1, .ref q1), (0, .ref o)]) (pc := 247) hx hb dL_ticks_247 hl (by decide) rfl (fun ls hl => ?_)
          refine lv_iload (pc := 249) hx hb dL_ticks_249 (lv_at hl 4 rfl) ?_
          refine lv_iload (pc := 251) hx hb dL_ticks_251 (lv_at hl 0 rfl) ?_
          refine lv_iadd (pc := 253) hx hb dL_ticks_253 ?_
          refine z_top (y := nT (hourP p) (springP p) (k + 1)) rfl ?_
          refine lv_istore (lv' := [(4, .int (nT (hourP p) (springP p) (k + 1))), (8, .int (tg p k 0)), (7, .int (hr5 (p.2 k 4))), (6, .int (nI k)), (5, .int (kS p 1)), (3, .int (hourP p)), (2, .ref q2), (1, .ref q1), (0, .ref o)]) (pc := 254) hx hb dL_ticks_254 hl (by decide) rfl (fun ls hl => ?_)
          refine lv_iload (pc := 256) hx hb dL_ticks_256 (lv_at hl 1 rfl) ?_
          refine lv_aload_n (pc := 258) hx hb dL_ticks_258 rfl (lv_at hl 7 rfl) ?_
          refine lv_iload (pc := 259) hx hb dL_ticks_259 (lv_at hl 3 rfl) ?_
          refine z_iald (x := kreR p (nI k)) (pc := 261) hx hb hz 0 rfl k rfl hk (by decide) (wUp_at 8 k hk) dL_ticks_261 ?_
          have J3 : ∀ (H : Heap) (locs : List Loc) (ls : Array Slot), zw G ca A s0.heap s0 ([(q1, .inl (ca 1, 8, .inl (wUp p 8))), (q2, .inl (ca 1, 32, .inl (gUp p 8)))] ++ w1) H locs → lv_has ls 10 [(4, .int (nT (hourP p) (springP p) (k + 1))), (8, .int (tg p k 0)), (7, .int (hr5 (p.2 k 4))), (6, .int (nI k)), (5, .int (kS p 1)), (3, .int (hourP p)), (2, .ref q2), (1, .ref q1), (0, .ref o)] → W pg l ev rm_L_ticks s0 mt args below meth cd H locs 2 40 Q (F0 mt 270 ls [.int (if kreR p (nI k) = 0 then 1 else 0), .int (tg p k 0)]) := by
            intro H locs ls hz hl
            refine lv_icmp_ne (pc := 270) (tgt := 443) hx hb dL_ticks_270 (by decide) (fun c9 => absurd (hwz hP hk) c9) (fun c_270 => ?_)
            rcases tg_01 p k 0 with ht | ht
            · have hn1 : ¬ tg p k 0 = 1 := by rw [ht]; decide
              refine lv_iload (pc := 273) hx hb dL_ticks_273 (lv_at hl 1 rfl) ?_
              refine lv_iconst (v := 1) (pc := 275) hx hb dL_ticks_275 (by decide) ?_
              refine lv_icmp_eq (pc := 276) (tgt := 290) hx hb dL_ticks_276 (by decide) (fun c9 => absurd c9 hn1) (fun c_276 => ?_)
              refine lv_aload_n (pc := 279) hx hb dL_ticks_279 rfl (lv_at hl 8 rfl) ?_
              refine lv_iload (pc := 280) hx hb dL_ticks_280 (lv_at hl 3 rfl) ?_
              refine lv_bipush (v := 7) (pc := 282) hx hb dL_ticks_282 (by decide) ?_
              refine z_runV (pc := 284) (As := [.int (nI k), .int 7]) (rest := []) (ws1 := [(q1, .inl (ca 1, 8, .inl (wUp p 8))), (q2, .inl (ca 1, 32, .inl (gUp p 8)))] ++ w1) ⟨hx, hb, hml, hown, hts⟩ (f_cw (l := l) (G := G) hF1 hct hk (w9 := 7) (by decide) (by decide)) (cwV 2 hts (zgoodV zsub wq_7_7 wq_7_8 wq_7_9 wq_1_2 wq_7_10) rfl rfl rfl hdV_X3_cup ⟨Nat.le_of_ble_eq_true rfl, Nat.le_of_ble_eq_true rfl⟩) hz [(q1, .inl (ca 1, 8, .inl (wUp p 8))), (q2, .inl (ca 1, 32, .inl (gUp p 8)))] List.perm_append_comm List.perm_append_comm ew1 rfl rfl hl.1 (Nat.le_of_ble_eq_true rfl) (st1 := [.int ((tickP p).2 k 7)]) rfl dL_ticks_284 ⟨Nat.le_of_ble_eq_true rfl, Nat.le_of_ble_eq_true rfl⟩ (fun H locs hz => ?_)
              refine lv_if_ne (pc := 287) (tgt := 443) hx hb dL_ticks_287 (by decide) (fun c9 => absurd (hjet.1 ht) c9) (fun c_287 => ?_)
              refine lv_iload (pc := 290) hx hb dL_ticks_290 (lv_at hl 1 rfl) ?_
              refine lv_if_eq (pc := 292) (tgt := 308) hx hb dL_ticks_292 (by decide) (fun c_292 => ?_) (fun c9 => absurd ht c9)
              refine lv_iload (pc := 308) hx hb dL_ticks_308 (lv_at hl 1 rfl) ?_
              refine lv_if_eq (pc := 310) (tgt := 323) hx hb dL_ticks_310 (by decide) (fun c_310 => ?_) (fun c9 => absurd ht c9)
              refine lv_aload_n (pc := 323) hx hb dL_ticks_323 rfl (lv_at hl 8 rfl) ?_
              refine lv_iload (pc := 324) hx hb dL_ticks_324 (lv_at hl 3 rfl) ?_
              refine lv_bipush (v := 9) (pc := 326) hx hb dL_ticks_326 (by decide) ?_
              refine z_runV (pc := 328) (As := [.int (nI k), .int 9]) (rest := []) (ws1 := [(q1, .inl (ca 1, 8, .inl (wUp p 8))), (q2, .inl (ca 1, 32, .inl (gUp p 8)))] ++ w1) ⟨hx, hb, hml, hown, hts⟩ (f_cw (l := l) (G := G) hF1 hct hk (w9 := 9) (by decide) (by decide)) (cwV 2 hts (zgoodV zsub wq_7_7 wq_7_8 wq_7_9 wq_1_2 wq_7_10) rfl rfl rfl hdV_X3_cup ⟨Nat.le_of_ble_eq_true rfl, Nat.le_of_ble_eq_true rfl⟩) hz [(q1, .inl (ca 1, 8, .inl (wUp p 8))), (q2, .inl (ca 1, 32, .inl (gUp p 8)))] List.perm_append_comm List.perm_append_comm ew1 rfl rfl hl.1 (Nat.le_of_ble_eq_true rfl) (st1 := [.int ((tickP p).2 k 9)]) rfl dL_ticks_328 ⟨Nat.le_of_ble_eq_true rfl, Nat.le_of_ble_eq_true rfl⟩ (fun H locs hz => ?_)
              refine lv_aload_n (pc := 331) hx hb dL_ticks_331 rfl (lv_at hl 6 rfl) ?_
              refine lv_iconst (v := 4) (pc := 332) hx hb dL_ticks_332 (by decide) ?_
              refine lv_iload (pc := 333) hx hb dL_ticks_333 (lv_at hl 3 rfl) ?_
              refine lv_imul (pc := 335) hx hb dL_ticks_335 ?_
              refine lv_iconst (v := 1) (pc := 336) hx hb dL_ticks_336 (by decide) ?_
              refine lv_iadd (pc := 337) hx hb dL_ticks_337 ?_
              refine z_iald (x := p.2 k (8 + 1)) (pc := 338) hx hb hz 1 rfl (4 * k + 1) (x4 k 1) (by omega) (by decide) (gUp_at (by decide) 8 k hk) dL_ticks_338 ?_
              refine lv_isub (pc := 339) hx hb dL_ticks_339 ?_
              refine lv_iload (pc := 340) hx hb dL_ticks_340 (lv_at hl 1 rfl) ?_
              refine lv_iconst (v := 1) (pc := 342) hx hb dL_ticks_342 (by decide) ?_
              have J4 : ∀ (H : Heap) (locs : List Loc) (ls : Array Slot), zw G ca A s0.heap s0 ([(q1, .inl (ca 1, 8, .inl (wUp p 8))), (q2, .inl (ca 1, 32, .inl (gUp p 8)))] ++ w1) H locs → lv_has ls 10 [(4, .int (nT (hourP p) (springP p) (k + 1))), (8, .int (tg p k 0)), (7, .int (hr5 (p.2 k 4))), (6, .int (nI k)), (5, .int (kS p 1)), (3, .int (hourP p)), (2, .ref q2), (1, .ref q1), (0, .ref o)] → W pg l ev rm_L_ticks s0 mt args below meth cd H locs 2 40 Q (F0 mt 357 ls [.int (e9F p k), .int (((tickP p).2 k 9) - (p.2 k (8 + 1)))]) := by
                intro H locs ls hz hl
                refine lv_icmp_ne (pc := 357) (tgt := 443) hx hb dL_ticks_357 (by decide) (fun c9 => absurd htl.1 c9) (fun c_357 => ?_)
                refine lv_aload_n (pc := 360) hx hb dL_ticks_360 rfl (lv_at hl 8 rfl) ?_
                refine lv_iload (pc := 361) hx hb dL_ticks_361 (lv_at hl 3 rfl) ?_
                refine lv_bipush (v := 10) (pc := 363) hx hb dL_ticks_363 (by decide) ?_
                refine z_runV (pc := 365) (As := [.int (nI k), .int 10]) (rest := []) (ws1 := [(q1, .inl (ca 1, 8, .inl (wUp p 8))), (q2, .inl (ca 1, 32, .inl (gUp p 8)))] ++ w1) ⟨hx, hb, hml, hown, hts⟩ (f_cw (l := l) (G := G) hF1 hct hk (w9 := 10) (by decide) (by decide)) (cwV 2 hts (zgoodV zsub wq_7_7 wq_7_8 wq_7_9 wq_1_2 wq_7_10) rfl rfl rfl hdV_X3_cup ⟨Nat.le_of_ble_eq_true rfl, Nat.le_of_ble_eq_true rfl⟩) hz [(q1, .inl (ca 1, 8, .inl (wUp p 8))), (q2, .inl (ca 1, 32, .inl (gUp p 8)))] List.perm_append_comm List.perm_append_comm ew1 rfl rfl hl.1 (Nat.le_of_ble_eq_true rfl) (st1 := [.int ((tickP p).2 k 10)]) rfl dL_ticks_365 ⟨Nat.le_of_ble_eq_true rfl, Nat.le_of_ble_eq_true rfl⟩ (fun H locs hz => ?_)
                refine lv_aload_n (pc := 368) hx hb dL_ticks_368 rfl (lv_at hl 6 rfl) ?_
                refine lv_iconst (v := 4) (pc := 369) hx hb dL_ticks_369 (by decide) ?_
                refine lv_iload (pc := 370) hx hb dL_ticks_370 (lv_at hl 3 rfl) ?_
                refine lv_imul (pc := 372) hx hb dL_ticks_372 ?_
                refine lv_iconst (v := 2) (pc := 373) hx hb dL_ticks_373 (by decide) ?_
                refine lv_iadd (pc := 374) hx hb dL_ticks_374 ?_
                refine z_iald (x := p.2 k (8 + 2)) (pc := 375) hx hb hz 1 rfl (4 * k + 2) (x4 k 2) (by omega) (by decide) (gUp_at (by decide) 8 k hk) dL_ticks_375 ?_
                refine lv_isub (pc := 376) hx hb dL_ticks_376 ?_
                refine lv_iload (pc := 377) hx hb dL_ticks_377 (lv_at hl 1 rfl) ?_
                refine lv_iconst (v := 1) (pc := 379) hx hb dL_ticks_379 (by decide) ?_
                have J5 : ∀ (H : Heap) (locs : List Loc) (ls : Array Slot), zw G ca A s0.heap s0 ([(q1, .inl (ca 1, 8, .inl (wUp p 8))), (q2, .inl (ca 1, 32, .inl (gUp p 8)))] ++ w1) H locs → lv_has ls 10 [(4, .int (nT (hourP p) (springP p) (k + 1))), (8, .int (tg p k 0)), (7, .int (hr5 (p.2 k 4))), (6, .int (nI k)), (5, .int (kS p 1)), (3, .int (hourP p)), (2, .ref q2), (1, .ref q1), (0, .ref o)] → W pg l ev rm_L_ticks s0 mt args below meth cd H locs 2 40 Q (F0 mt 394 ls [.int (e10F p k), .int (((tickP p).2 k 10) - (p.2 k (8 + 2)))]) := by
                  intro H locs ls hz hl
                  refine lv_icmp_ne (pc := 394) (tgt := 443) hx hb dL_ticks_394 (by decide) (fun c9 => absurd htl.2.1 c9) (fun c_394 => ?_)
                  refine lv_aload_n (pc := 397) hx hb dL_ticks_397 rfl (lv_at hl 8 rfl) ?_
                  refine lv_iload (pc := 398) hx hb dL_ticks_398 (lv_at hl 3 rfl) ?_
                  refine lv_bipush (v := 11) (pc := 400) hx hb dL_ticks_400 (by decide) ?_
                  refine z_runV (pc := 402) (As := [.int (nI k), .int 11]) (rest := []) (ws1 := [(q1, .inl (ca 1, 8, .inl (wUp p 8))), (q2, .inl (ca 1, 32, .inl (gUp p 8)))] ++ w1) ⟨hx, hb, hml, hown, hts⟩ (f_cw (l := l) (G := G) hF1 hct hk (w9 := 11) (by decide) (by decide)) (cwV 2 hts (zgoodV zsub wq_7_7 wq_7_8 wq_7_9 wq_1_2 wq_7_10) rfl rfl rfl hdV_X3_cup ⟨Nat.le_of_ble_eq_true rfl, Nat.le_of_ble_eq_true rfl⟩) hz [(q1, .inl (ca 1, 8, .inl (wUp p 8))), (q2, .inl (ca 1, 32, .inl (gUp p 8)))] List.perm_append_comm List.perm_append_comm ew1 rfl rfl hl.1 (Nat.le_of_ble_eq_true rfl) (st1 := [.int ((tickP p).2 k 11)]) rfl dL_ticks_402 ⟨Nat.le_of_ble_eq_true rfl, Nat.le_of_ble_eq_true rfl⟩ (fun H locs hz => ?_)
                  refine lv_aload_n (pc := 405) hx hb dL_ticks_405 rfl (lv_at hl 6 rfl) ?_
                  refine lv_iconst (v := 4) (pc := 406) hx hb dL_ticks_406 (by decide) ?_
                  refine lv_iload (pc := 407) hx hb dL_ticks_407 (lv_at hl 3 rfl) ?_
                  refine lv_imul (pc := 409) hx hb dL_ticks_409 ?_
                  refine lv_iconst (v := 3) (pc := 410) hx hb dL_ticks_410 (by decide) ?_
                  refine lv_iadd (pc := 411) hx hb dL_ticks_411 ?_
                  refine z_iald (x := p.2 k (8 + 3)) (pc := 412) hx hb hz 1 rfl (4 * k + 3) (x4 k 3) (by omega) (by decide) (gUp_at (by decide) 8 k hk) dL_ticks_412 ?_
                  refine lv_isub (pc := 413) hx hb dL_ticks_413 ?_
                  refine lv_iload (pc := 414) hx hb dL_ticks_414 (lv_at hl 1 rfl) ?_
                  refine lv_iconst (v := 1) (pc := 416) hx hb dL_ticks_416 (by decide) ?_
                  have J6 : ∀ (H : Heap) (locs : List Loc) (ls : Array Slot), zw G ca A s0.heap s0 ([(q1, .inl (ca 1, 8, .inl (wUp p 8))), (q2, .inl (ca 1, 32, .inl (gUp p 8)))] ++ w1) H locs → lv_has ls 10 [(4, .int (nT (hourP p) (springP p) (k + 1))), (8, .int (tg p k 0)), (7, .int (hr5 (p.2 k 4))), (6, .int (nI k)), (5, .int (kS p 1)), (3, .int (hourP p)), (2, .ref q2), (1, .ref q1), (0, .ref o)] → W pg l ev rm_L_ticks s0 mt args below meth cd H locs 2 40 Q (F0 mt 436 ls [.int (e11F p k), .int (((tickP p).2 k 11) - (p.2 k (8 + 3)))]) := by
                    intro H locs ls hz hl
                    refine lv_icmp_ne (pc := 436) (tgt := 443) hx hb dL_ticks_436 (by decide) (fun c9 => absurd htl.2.2 c9) (fun c_436 => ?_)
                    refine lv_iconst (v := 1) (pc := 439) hx hb dL_ticks_439 (by decide) ?_
                    refine lv_goto (tgt := 444) (pc := 440) hx hb dL_ticks_440 (by decide) ?_
                    refine lv_istore (lv' := [(9, .int 1), (4, .int (nT (hourP p) (springP p) (k + 1))), (8, .int (tg p k 0)), (7, .int (hr5 (p.2 k 4))), (6, .int (nI k)), (5, .int (kS p 1)), (3, .int (hourP p)), (2, .ref q2), (1, .ref q1), (0, .ref o)]) (pc := 444) hx hb dL_ticks_444 hl (by decide) rfl (fun ls hl => ?_)
                    refine lv_iload (pc := 446) hx hb dL_ticks_446 (lv_at hl 0 rfl) ?_
                    refine lv_if_eq (pc := 448) (tgt := 475) hx hb dL_ticks_448 (by decide) (fun c9 => absurd c9 i10) (fun c_448 => ?_)
                    refine lv_aload_n (pc := 451) hx hb dL_ticks_451 rfl (lv_at hl 9 rfl) ?_
                    refine lv_iload (pc := 452) hx hb dL_ticks_452 (lv_at hl 4 rfl) ?_
                    refine lv_bipush (v := 6) (pc := 454) hx hb dL_ticks_454 (by decide) ?_
                    refine z_runV (pc := 456) (As := [.int (nI k), .int 6]) (rest := []) (ws1 := [(q1, .inl (ca 1, 8, .inl (wUp p 8))), (q2, .inl (ca 1, 32, .inl (gUp p 8)))] ++ w1) ⟨hx, hb, hml, hown, hts⟩ (f_cw (l := l) (G := G) hF1 hct hk (w9 := 6) (by decide) (by decide)) (cwV 2 hts (zgoodV zsub wq_7_7 wq_7_8 wq_7_9 wq_1_2 wq_7_10) rfl rfl rfl hdV_X3_cup ⟨Nat.le_of_ble_eq_true rfl, Nat.le_of_ble_eq_true rfl⟩) hz [(q1, .inl (ca 1, 8, .inl (wUp p 8))), (q2, .inl (ca 1, 32, .inl (gUp p 8)))] List.perm_append_comm List.perm_append_comm ew1 rfl rfl hl.1 (Nat.le_of_ble_eq_true rfl) (st1 := [.int ((tickP p).2 k 6)]) rfl dL_ticks_456 ⟨Nat.le_of_ble_eq_true rfl, Nat.le_of_ble_eq_true rfl⟩ (fun H locs hz => ?_)
                    refine z_top (y := p.2 k 6) (tickP_w p k 6 (by decide) (by decide) (by decide)) ?_
                    refine lv_iconst (v := 1) (pc := 459) hx hb dL_ticks_459 (by decide) ?_
                    refine lv_icmp_ne (pc := 460) (tgt := 477) hx hb dL_ticks_460 (by decide) (fun c_460 => ?_) (fun c_460 => ?_)
                    · refine lv_iinc (v := nI (k + 1)) (lv' := [(6, .int (nI (k + 1))), (9, .int 1), (4, .int (nT (hourP p) (springP p) (k + 1))), (8, .int (tg p k 0)), (7, .int (hr5 (p.2 k 4))), (5, .int (kS p 1)), (3, .int (hourP p)), (2, .ref q2), (1, .ref q1), (0, .ref o)]) (pc := 477) hx hb dL_ticks_477 hl (k := 4) rfl (nI_add k 1) (by decide) rfl (fun ls hl => ?_)
                      refine lv_goto (tgt := 216) (pc := 480) hx hb dL_ticks_480 (by decide) ?_
                      exact ih (k + 1) (by omega) _ _ _ hz (lv_sub hl [0, 5, 2, 6, 7, 8, 9] rfl)
                    · refine lv_iload (pc := 463) hx hb dL_ticks_463 (lv_at hl 2 rfl) ?_
                      refine lv_iconst (v := 1) (pc := 465) hx hb dL_ticks_465 (by decide) ?_
                      refine lv_icmp_ne (pc := 466) (tgt := 477) hx hb dL_ticks_466 (by decide) (fun c_466 => ?_) (fun c9 => absurd c9 hn1)
                      refine lv_iinc (v := nI (k + 1)) (lv' := [(6, .int (nI (k + 1))), (9, .int 1), (4, .int (nT (hourP p) (springP p) (k + 1))), (8, .int (tg p k 0)), (7, .int (hr5 (p.2 k 4))), (5, .int (kS p 1)), (3, .int (hourP p)), (2, .ref q2), (1, .ref q1), (0, .ref o)]) (pc := 477) hx hb dL_ticks_477 hl (k := 4) rfl (nI_add k 1) (by decide) rfl (fun ls hl => ?_)
                      refine lv_goto (tgt := 216) (pc := 480) hx hb dL_ticks_480 (by decide) ?_
                      exact ih (k + 1) (by omega) _ _ _ hz (lv_sub hl [0, 5, 2, 6, 7, 8, 9] rfl)
                  refine lv_icmp_ne (pc := 417) (tgt := 435) hx hb dL_ticks_417 (by decide) (fun c_417 => ?_) (fun c9 => absurd c9 hn1)
                  refine lv_iconst (v := 0) (pc := 435) hx hb dL_ticks_435 (by decide) ?_
                  exact z_top (by simp only [e11F, if_neg c_417]) (J6 _ _ _ hz (lv_sub hl [0, 1, 2, 3, 4, 5, 6, 7, 8] rfl))
                refine lv_icmp_ne (pc := 380) (tgt := 393) hx hb dL_ticks_380 (by decide) (fun c_380 => ?_) (fun c9 => absurd c9 hn1)
                refine lv_iconst (v := 0) (pc := 393) hx hb dL_ticks_393 (by decide) ?_
                exact z_top (by simp only [e10F, if_neg c_380]) (J5 _ _ _ hz (lv_sub hl [0, 1, 2, 3, 4, 5, 6, 7, 8] rfl))
              refine lv_icmp_ne (pc := 343) (tgt := 356) hx hb dL_ticks_343 (by decide) (fun c_343 => ?_) (fun c9 => absurd c9 hn1)
              refine lv_iconst (v := 0) (pc := 356) hx hb dL_ticks_356 (by decide) ?_
              exact z_top (by simp only [e9F, if_neg c_343]) (J4 _ _ _ hz (lv_sub hl [0, 1, 2, 3, 4, 5, 6, 7, 8] rfl))
            · have hn0 : ¬ tg p k 0 = 0 := by rw [ht]; decide
              refine lv_iload (pc := 273) hx hb dL_ticks_273 (lv_at hl 1 rfl) ?_
              refine lv_iconst (v := 1) (pc := 275) hx hb dL_ticks_275 (by decide) ?_
              refine lv_icmp_eq (pc := 276) (tgt := 290) hx hb dL_ticks_276 (by decide) (fun c_276 => ?_) (fun c9 => absurd ht c9)
              refine lv_iload (pc := 290) hx hb dL_ticks_290 (lv_at hl 1 rfl) ?_
              refine lv_if_eq (pc := 292) (tgt := 308) hx hb dL_ticks_292 (by decide) (fun c9 => absurd c9 hn0) (fun c_292 => ?_)
              refine lv_aload_n (pc := 295) hx hb dL_ticks_295 rfl (lv_at hl 8 rfl) ?_
              refine lv_iload (pc := 296) hx hb dL_ticks_296 (lv_at hl 3 rfl) ?_
              refine lv_bipush (v := 7) (pc := 298) hx hb dL_ticks_298 (by decide) ?_
              refine z_runV (pc := 300) (As := [.int (nI k), .int 7]) (rest := []) (ws1 := [(q1, .inl (ca 1, 8, .inl (wUp p 8))), (q2, .inl (ca 1, 32, .inl (gUp p 8)))] ++ w1) ⟨hx, hb, hml, hown, hts⟩ (f_cw (l := l) (G := G) hF1 hct hk (w9 := 7) (by decide) (by decide)) (cwV 2 hts (zgoodV zsub wq_7_7 wq_7_8 wq_7_9 wq_1_2 wq_7_10) rfl rfl rfl hdV_X3_cup ⟨Nat.le_of_ble_eq_true rfl, Nat.le_of_ble_eq_true rfl⟩) hz [(q1, .inl (ca 1, 8, .inl (wUp p 8))), (q2, .inl (ca 1, 32, .inl (gUp p 8)))] List.perm_append_comm List.perm_append_comm ew1 rfl rfl hl.1 (Nat.le_of_ble_eq_true rfl) (st1 := [.int ((tickP p).2 k 7)]) rfl dL_ticks_300 ⟨Nat.le_of_ble_eq_true rfl, Nat.le_of_ble_eq_true rfl⟩ (fun H locs hz => ?_)
              refine lv_bipush (v := 10) (pc := 303) hx hb dL_ticks_303 (by decide) ?_
              refine lv_icmp_lt (pc := 305) (tgt := 443) hx hb dL_ticks_305 (by decide) (fun c9 => absurd c9 (hjet.2 hn0)) (fun c_305 => ?_)
              refine lv_iload (pc := 308) hx hb dL_ticks_308 (lv_at hl 1 rfl) ?_
              refine lv_if_eq (pc := 310) (tgt := 323) hx hb dL_ticks_310 (by decide) (fun c9 => absurd c9 hn0) (fun c_310 => ?_)
              refine lv_aload_n (pc := 313) hx hb dL_ticks_313 rfl (lv_at hl 8 rfl) ?_
              refine lv_iload (pc := 314) hx hb dL_ticks_314 (lv_at hl 3 rfl) ?_
              refine lv_iconst (v := 3) (pc := 316) hx hb dL_ticks_316 (by decide) ?_
              refine z_runV (pc := 317) (As := [.int (nI k), .int 3]) (rest := []) (ws1 := [(q1, .inl (ca 1, 8, .inl (wUp p 8))), (q2, .inl (ca 1, 32, .inl (gUp p 8)))] ++ w1) ⟨hx, hb, hml, hown, hts⟩ (f_cw (l := l) (G := G) hF1 hct hk (w9 := 3) (by decide) (by decide)) (cwV 2 hts (zgoodV zsub wq_7_7 wq_7_8 wq_7_9 wq_1_2 wq_7_10) rfl rfl rfl hdV_X3_cup ⟨Nat.le_of_ble_eq_true rfl, Nat.le_of_ble_eq_true rfl⟩) hz [(q1, .inl (ca 1, 8, .inl (wUp p 8))), (q2, .inl (ca 1, 32, .inl (gUp p 8)))] List.perm_append_comm List.perm_append_comm ew1 rfl rfl hl.1 (Nat.le_of_ble_eq_true rfl) (st1 := [.int ((tickP p).2 k 3)]) rfl dL_ticks_317 ⟨Nat.le_of_ble_eq_true rfl, Nat.le_of_ble_eq_true rfl⟩ (fun H locs hz => ?_)
              refine lv_if_ne (pc := 320) (tgt := 443) hx hb dL_ticks_320 (by decide) (fun c9 => absurd (hP.dry hk hn0) c9) (fun c_320 => ?_)
              refine lv_aload_n (pc := 323) hx hb dL_ticks_323 rfl (lv_at hl 8 rfl) ?_
              refine lv_iload (pc := 324) hx hb dL_ticks_324 (lv_at hl 3 rfl) ?_
              refine lv_bipush (v := 9) (pc := 326) hx hb dL_ticks_326 (by decide) ?_
              refine z_runV (pc := 328) (As := [.int (nI k), .int 9]) (rest := []) (ws1 := [(q1, .inl (ca 1, 8, .inl (wUp p 8))), (q2, .inl (ca 1, 32, .inl (gUp p 8)))] ++ w1) ⟨hx, hb, hml, hown, hts⟩ (f_cw (l := l) (G := G) hF1 hct hk (w9 := 9) (by decide) (by decide)) (cwV 2 hts (zgoodV zsub wq_7_7 wq_7_8 wq_7_9 wq_1_2 wq_7_10) rfl rfl rfl hdV_X3_cup ⟨Nat.le_of_ble_eq_true rfl, Nat.le_of_ble_eq_true rfl⟩) hz [(q1, .inl (ca 1, 8, .inl (wUp p 8))), (q2, .inl (ca 1, 32, .inl (gUp p 8)))] List.perm_append_comm List.perm_append_comm ew1 rfl rfl hl.1 (Nat.le_of_ble_eq_true rfl) (st1 := [.int ((tickP p).2 k 9)]) rfl dL_ticks_328 ⟨Nat.le_of_ble_eq_true rfl, Nat.le_of_ble_eq_true rfl⟩ (fun H locs hz => ?_)
              refine lv_aload_n (pc := 331) hx hb dL_ticks_331 rfl (lv_at hl 6 rfl) ?_
              refine lv_iconst (v := 4) (pc := 332) hx hb dL_ticks_332 (by decide) ?_
              refine lv_iload (pc := 333) hx hb dL_ticks_333 (lv_at hl 3 rfl) ?_
              refine lv_imul (pc := 335) hx hb dL_ticks_335 ?_
              refine lv_iconst (v := 1) (pc := 336) hx hb dL_ticks_336 (by decide) ?_
              refine lv_iadd (pc := 337) hx hb dL_ticks_337 ?_
              refine z_iald (x := p.2 k (8 + 1)) (pc := 338) hx hb hz 1 rfl (4 * k + 1) (x4 k 1) (by omega) (by decide) (gUp_at (by decide) 8 k hk) dL_ticks_338 ?_
              refine lv_isub (pc := 339) hx hb dL_ticks_339 ?_
              refine lv_iload (pc := 340) hx hb dL_ticks_340 (lv_at hl 1 rfl) ?_
              refine lv_iconst (v := 1) (pc := 342) hx hb dL_ticks_342 (by decide) ?_
              have J10 : ∀ (H : Heap) (locs : List Loc) (ls : Array Slot), zw G ca A s0.heap s0 ([(q1, .inl (ca 1, 8, .inl (wUp p 8))), (q2, .inl (ca 1, 32, .inl (gUp p 8)))] ++ w1) H locs → lv_has ls 10 [(4, .int (nT (hourP p) (springP p) (k + 1))), (8, .int (tg p k 0)), (7, .int (hr5 (p.2 k 4))), (6, .int (nI k)), (5, .int (kS p 1)), (3, .int (hourP p)), (2, .ref q2), (1, .ref q1), (0, .ref o)] → W pg l ev rm_L_ticks s0 mt args below meth cd H locs 2 40 Q (F0 mt 357 ls [.int (e9F p k), .int (((tickP p).2 k 9) - (p.2 k (8 + 1)))]) := by
                intro H locs ls hz hl
                refine lv_icmp_ne (pc := 357) (tgt := 443) hx hb dL_ticks_357 (by decide) (fun c9 => absurd htl.1 c9) (fun c_357 => ?_)
                refine lv_aload_n (pc := 360) hx hb dL_ticks_360 rfl (lv_at hl 8 rfl) ?_
                refine lv_iload (pc := 361) hx hb dL_ticks_361 (lv_at hl 3 rfl) ?_
                refine lv_bipush (v := 10) (pc := 363) hx hb dL_ticks_363 (by decide) ?_
                refine z_runV (pc := 365) (As := [.int (nI k), .int 10]) (rest := []) (ws1 := [(q1, .inl (ca 1, 8, .inl (wUp p 8))), (q2, .inl (ca 1, 32, .inl (gUp p 8)))] ++ w1) ⟨hx, hb, hml, hown, hts⟩ (f_cw (l := l) (G := G) hF1 hct hk (w9 := 10) (by decide) (by decide)) (cwV 2 hts (zgoodV zsub wq_7_7 wq_7_8 wq_7_9 wq_1_2 wq_7_10) rfl rfl rfl hdV_X3_cup ⟨Nat.le_of_ble_eq_true rfl, Nat.le_of_ble_eq_true rfl⟩) hz [(q1, .inl (ca 1, 8, .inl (wUp p 8))), (q2, .inl (ca 1, 32, .inl (gUp p 8)))] List.perm_append_comm List.perm_append_comm ew1 rfl rfl hl.1 (Nat.le_of_ble_eq_true rfl) (st1 := [.int ((tickP p).2 k 10)]) rfl dL_ticks_365 ⟨Nat.le_of_ble_eq_true rfl, Nat.le_of_ble_eq_true rfl⟩ (fun H locs hz => ?_)
                refine lv_aload_n (pc := 368) hx hb dL_ticks_368 rfl (lv_at hl 6 rfl) ?_
                refine lv_iconst (v := 4) (pc := 369) hx hb dL_ticks_369 (by decide) ?_
                refine lv_iload (pc := 370) hx hb dL_ticks_370 (lv_at hl 3 rfl) ?_
                refine lv_imul (pc := 372) hx hb dL_ticks_372 ?_
                refine lv_iconst (v := 2) (pc := 373) hx hb dL_ticks_373 (by decide) ?_
                refine lv_iadd (pc := 374) hx hb dL_ticks_374 ?_
                refine z_iald (x := p.2 k (8 + 2)) (pc := 375) hx hb hz 1 rfl (4 * k + 2) (x4 k 2) (by omega) (by decide) (gUp_at (by decide) 8 k hk) dL_ticks_375 ?_
                refine lv_isub (pc := 376) hx hb dL_ticks_376 ?_
                refine lv_iload (pc := 377) hx hb dL_ticks_377 (lv_at hl 1 rfl) ?_
                refine lv_iconst (v := 1) (pc := 379) hx hb dL_ticks_379 (by decide) ?_
                have J11 : ∀ (H : Heap) (locs : List Loc) (ls : Array Slot), zw G ca A s0.heap s0 ([(q1, .inl (ca 1, 8, .inl (wUp p 8))), (q2, .inl (ca 1, 32, .inl (gUp p 8)))] ++ w1) H locs → lv_has ls 10 [(4, .int (nT (hourP p) (springP p) (k + 1))), (8, .int (tg p k 0)), (7, .int (hr5 (p.2 k 4))), (6, .int (nI k)), (5, .int (kS p 1)), (3, .int (hourP p)), (2, .ref q2), (1, .ref q1), (0, .ref o)] → W pg l ev rm_L_ticks s0 mt args below meth cd H locs 2 40 Q (F0 mt 394 ls [.int (e10F p k), .int (((tickP p).2 k 10) - (p.2 k (8 + 2)))]) := by
                  intro H locs ls hz hl
                  refine lv_icmp_ne (pc := 394) (tgt := 443) hx hb dL_ticks_394 (by decide) (fun c9 => absurd htl.2.1 c9) (fun c_394 => ?_)
                  refine lv_aload_n (pc := 397) hx hb dL_ticks_397 rfl (lv_at hl 8 rfl) ?_
                  refine lv_iload (pc := 398) hx hb dL_ticks_398 (lv_at hl 3 rfl) ?_
                  refine lv_bipush (v := 11) (pc := 400) hx hb dL_ticks_400 (by decide) ?_
                  refine z_runV (pc := 402) (As := [.int (nI k), .int 11]) (rest := []) (ws1 := [(q1, .inl (ca 1, 8, .inl (wUp p 8))), (q2, .inl (ca 1, 32, .inl (gUp p 8)))] ++ w1) ⟨hx, hb, hml, hown, hts⟩ (f_cw (l := l) (G := G) hF1 hct hk (w9 := 11) (by decide) (by decide)) (cwV 2 hts (zgoodV zsub wq_7_7 wq_7_8 wq_7_9 wq_1_2 wq_7_10) rfl rfl rfl hdV_X3_cup ⟨Nat.le_of_ble_eq_true rfl, Nat.le_of_ble_eq_true rfl⟩) hz [(q1, .inl (ca 1, 8, .inl (wUp p 8))), (q2, .inl (ca 1, 32, .inl (gUp p 8)))] List.perm_append_comm List.perm_append_comm ew1 rfl rfl hl.1 (Nat.le_of_ble_eq_true rfl) (st1 := [.int ((tickP p).2 k 11)]) rfl dL_ticks_402 ⟨Nat.le_of_ble_eq_true rfl, Nat.le_of_ble_eq_true rfl⟩ (fun H locs hz => ?_)
                  refine lv_aload_n (pc := 405) hx hb dL_ticks_405 rfl (lv_at hl 6 rfl) ?_
                  refine lv_iconst (v := 4) (pc := 406) hx hb dL_ticks_406 (by decide) ?_
                  refine lv_iload (pc := 407) hx hb dL_ticks_407 (lv_at hl 3 rfl) ?_
                  refine lv_imul (pc := 409) hx hb dL_ticks_409 ?_
                  refine lv_iconst (v := 3) (pc := 410) hx hb dL_ticks_410 (by decide) ?_
                  refine lv_iadd (pc := 411) hx hb dL_ticks_411 ?_
                  refine z_iald (x := p.2 k (8 + 3)) (pc := 412) hx hb hz 1 rfl (4 * k + 3) (x4 k 3) (by omega) (by decide) (gUp_at (by decide) 8 k hk) dL_ticks_412 ?_
                  refine lv_isub (pc := 413) hx hb dL_ticks_413 ?_
                  refine lv_iload (pc := 414) hx hb dL_ticks_414 (lv_at hl 1 rfl) ?_
                  refine lv_iconst (v := 1) (pc := 416) hx hb dL_ticks_416 (by decide) ?_
                  have J12 : ∀ (H : Heap) (locs : List Loc) (ls : Array Slot), zw G ca A s0.heap s0 ([(q1, .inl (ca 1, 8, .inl (wUp p 8))), (q2, .inl (ca 1, 32, .inl (gUp p 8)))] ++ w1) H locs → lv_has ls 10 [(4, .int (nT (hourP p) (springP p) (k + 1))), (8, .int (tg p k 0)), (7, .int (hr5 (p.2 k 4))), (6, .int (nI k)), (5, .int (kS p 1)), (3, .int (hourP p)), (2, .ref q2), (1, .ref q1), (0, .ref o)] → W pg l ev rm_L_ticks s0 mt args below meth cd H locs 2 40 Q (F0 mt 436 ls [.int (e11F p k), .int (((tickP p).2 k 11) - (p.2 k (8 + 3)))]) := by
                    intro H locs ls hz hl
                    refine lv_icmp_ne (pc := 436) (tgt := 443) hx hb dL_ticks_436 (by decide) (fun c9 => absurd htl.2.2 c9) (fun c_436 => ?_)
                    refine lv_iconst (v := 1) (pc := 439) hx hb dL_ticks_439 (by decide) ?_
                    refine lv_goto (tgt := 444) (pc := 440) hx hb dL_ticks_440 (by decide) ?_
                    refine lv_istore (lv' := [(9, .int 1), (4, .int (nT (hourP p) (springP p) (k + 1))), (8, .int (tg p k 0)), (7, .int (hr5 (p.2 k 4))), (6, .int (nI k)), (5, .int (kS p 1)), (3, .int (hourP p)), (2, .ref q2), (1, .ref q1), (0, .ref o)]) (pc := 444) hx hb dL_ticks_444 hl (by decide) rfl (fun ls hl => ?_)
                    refine lv_iload (pc := 446) hx hb dL_ticks_446 (lv_at hl 0 rfl) ?_
                    refine lv_if_eq (pc := 448) (tgt := 475) hx hb dL_ticks_448 (by decide) (fun c9 => absurd c9 i10) (fun c_448 => ?_)
                    refine lv_aload_n (pc := 451) hx hb dL_ticks_451 rfl (lv_at hl 9 rfl) ?_
                    refine lv_iload (pc := 452) hx hb dL_ticks_452 (lv_at hl 4 rfl) ?_
                    refine lv_bipush (v := 6) (pc := 454) hx hb dL_ticks_454 (by decide) ?_
                    refine z_runV (pc := 456) (As := [.int (nI k), .int 6]) (rest := []) (ws1 := [(q1, .inl (ca 1, 8, .inl (wUp p 8))), (q2, .inl (ca 1, 32, .inl (gUp p 8)))] ++ w1) ⟨hx, hb, hml, hown, hts⟩ (f_cw (l := l) (G := G) hF1 hct hk (w9 := 6) (by decide) (by decide)) (cwV 2 hts (zgoodV zsub wq_7_7 wq_7_8 wq_7_9 wq_1_2 wq_7_10) rfl rfl rfl hdV_X3_cup ⟨Nat.le_of_ble_eq_true rfl, Nat.le_of_ble_eq_true rfl⟩) hz [(q1, .inl (ca 1, 8, .inl (wUp p 8))), (q2, .inl (ca 1, 32, .inl (gUp p 8)))] List.perm_append_comm List.perm_append_comm ew1 rfl rfl hl.1 (Nat.le_of_ble_eq_true rfl) (st1 := [.int ((tickP p).2 k 6)]) rfl dL_ticks_456 ⟨Nat.le_of_ble_eq_true rfl, Nat.le_of_ble_eq_true rfl⟩ (fun H locs hz => ?_)
                    refine z_top (y := p.2 k 6) (tickP_w p k 6 (by decide) (by decide) (by decide)) ?_
                    refine lv_iconst (v := 1) (pc := 459) hx hb dL_ticks_459 (by decide) ?_
                    refine lv_icmp_ne (pc := 460) (tgt := 477) hx hb dL_ticks_460 (by decide) (fun c_460 => ?_) (fun c_460 => ?_)
                    · refine lv_iinc (v := nI (k + 1)) (lv' := [(6, .int (nI (k + 1))), (9, .int 1), (4, .int (nT (hourP p) (springP p) (k + 1))), (8, .int (tg p k 0)), (7, .int (hr5 (p.2 k 4))), (5, .int (kS p 1)), (3, .int (hourP p)), (2, .ref q2), (1, .ref q1), (0, .ref o)]) (pc := 477) hx hb dL_ticks_477 hl (k := 4) rfl (nI_add k 1) (by decide) rfl (fun ls hl => ?_)
                      refine lv_goto (tgt := 216) (pc := 480) hx hb dL_ticks_480 (by decide) ?_
                      exact ih (k + 1) (by omega) _ _ _ hz (lv_sub hl [0, 5, 2, 6, 7, 8, 9] rfl)
                    · refine lv_iload (pc := 463) hx hb dL_ticks_463 (lv_at hl 2 rfl) ?_
                      refine lv_iconst (v := 1) (pc := 465) hx hb dL_ticks_465 (by decide) ?_
                      refine lv_icmp_ne (pc := 466) (tgt := 477) hx hb dL_ticks_466 (by decide) (fun c9 => absurd ht c9) (fun c_466 => ?_)
                      refine lv_iload (pc := 469) hx hb dL_ticks_469 (lv_at hl 3 rfl) ?_
                      refine lv_iload_n (pc := 471) hx hb dL_ticks_471 rfl (lv_at hl 6 rfl) ?_
                      refine lv_icmp_eq (pc := 472) (tgt := 477) hx hb dL_ticks_472 (by decide) (fun c_472 => ?_) (fun c9 => absurd (hP.guarded hk c_460 hn0) c9)
                      refine lv_iinc (v := nI (k + 1)) (lv' := [(6, .int (nI (k + 1))), (9, .int 1), (4, .int (nT (hourP p) (springP p) (k + 1))), (8, .int (tg p k 0)), (7, .int (hr5 (p.2 k 4))), (5, .int (kS p 1)), (3, .int (hourP p)), (2, .ref q2), (1, .ref q1), (0, .ref o)]) (pc := 477) hx hb dL_ticks_477 hl (k := 4) rfl (nI_add k 1) (by decide) rfl (fun ls hl => ?_)
                      refine lv_goto (tgt := 216) (pc := 480) hx hb dL_ticks_480 (by decide) ?_
                      exact ih (k + 1) (by omega) _ _ _ hz (lv_sub hl [0, 5, 2, 6, 7, 8, 9] rfl)
                  refine lv_icmp_ne (pc := 417) (tgt := 435) hx hb dL_ticks_417 (by decide) (fun c9 => absurd ht c9) (fun c_417 => ?_)
                  refine lv_iload (pc := 420) hx hb dL_ticks_420 (lv_at hl 2 rfl) ?_
                  refine lv_if_lt (pc := 422) (tgt := 435) hx hb dL_ticks_422 (by decide) (fun c_422 => ?_) (fun c_422 => ?_)
                  · refine lv_iconst (v := 0) (pc := 435) hx hb dL_ticks_435 (by decide) ?_
                    exact z_top (by simp only [e11F, if_pos c_417, if_pos c_422]) (J12 _ _ _ hz (lv_sub hl [0, 1, 2, 3, 4, 5, 6, 7, 8] rfl))
                  · refine lv_iload (pc := 425) hx hb dL_ticks_425 (lv_at hl 2 rfl) ?_
                    refine lv_iload_n (pc := 427) hx hb dL_ticks_427 rfl (lv_at hl 5 rfl) ?_
                    refine lv_icmp_ge (pc := 428) (tgt := 435) hx hb dL_ticks_428 (by decide) (fun c_428 => ?_) (fun c_428 => ?_)
                    · refine lv_iconst (v := 0) (pc := 435) hx hb dL_ticks_435 (by decide) ?_
                      exact z_top (by simp only [e11F, if_pos c_417, if_neg c_422, if_pos c_428]) (J12 _ _ _ hz (lv_sub hl [0, 1, 2, 3, 4, 5, 6, 7, 8] rfl))
                    · refine lv_iconst (v := 1) (pc := 431) hx hb dL_ticks_431 (by decide) ?_
                      refine lv_goto (tgt := 436) (pc := 432) hx hb dL_ticks_432 (by decide) ?_
                      exact z_top (by simp only [e11F, if_pos c_417, if_neg c_422, if_neg c_428]) (J12 _ _ _ hz (lv_sub hl [0, 1, 2, 3, 4, 5, 6, 7, 8] rfl))
                refine lv_icmp_ne (pc := 380) (tgt := 393) hx hb dL_ticks_380 (by decide) (fun c9 => absurd ht c9) (fun c_380 => ?_)
                refine lv_iload (pc := 383) hx hb dL_ticks_383 (lv_at hl 2 rfl) ?_
                refine lv_iload_n (pc := 385) hx hb dL_ticks_385 rfl (lv_at hl 5 rfl) ?_
                refine lv_icmp_le (pc := 386) (tgt := 393) hx hb dL_ticks_386 (by decide) (fun c_386 => ?_) (fun c_386 => ?_)
                · refine lv_iconst (v := 0) (pc := 393) hx hb dL_ticks_393 (by decide) ?_
                  exact z_top (by simp only [e10F, if_pos c_380, if_pos c_386]) (J11 _ _ _ hz (lv_sub hl [0, 1, 2, 3, 4, 5, 6, 7, 8] rfl))
                · refine lv_iconst (v := 1) (pc := 389) hx hb dL_ticks_389 (by decide) ?_
                  refine lv_goto (tgt := 394) (pc := 390) hx hb dL_ticks_390 (by decide) ?_
                  exact z_top (by simp only [e10F, if_pos c_380, if_neg c_386]) (J11 _ _ _ hz (lv_sub hl [0, 1, 2, 3, 4, 5, 6, 7, 8] rfl))
              refine lv_icmp_ne (pc := 343) (tgt := 356) hx hb dL_ticks_343 (by decide) (fun c9 => absurd ht c9) (fun c_343 => ?_)
              refine lv_iload (pc := 346) hx hb dL_ticks_346 (lv_at hl 2 rfl) ?_
              refine lv_iload_n (pc := 348) hx hb dL_ticks_348 rfl (lv_at hl 5 rfl) ?_
              refine lv_icmp_ne (pc := 349) (tgt := 356) hx hb dL_ticks_349 (by decide) (fun c_349 => ?_) (fun c_349 => ?_)
              · refine lv_iconst (v := 0) (pc := 356) hx hb dL_ticks_356 (by decide) ?_
                exact z_top (by simp only [e9F, if_pos c_343, if_neg c_349]) (J10 _ _ _ hz (lv_sub hl [0, 1, 2, 3, 4, 5, 6, 7, 8] rfl))
              · refine lv_iconst (v := 1) (pc := 352) hx hb dL_ticks_352 (by decide) ?_
                refine lv_goto (tgt := 357) (pc := 353) hx hb dL_ticks_353 (by decide) ?_
                exact z_top (by simp only [e9F, if_pos c_343, if_pos c_349]) (J10 _ _ _ hz (lv_sub hl [0, 1, 2, 3, 4, 5, 6, 7, 8] rfl))
          refine lv_if_ne (pc := 262) (tgt := 269) hx hb dL_ticks_262 (by decide) (fun c_262 => ?_) (fun c_262 => ?_)
          · refine lv_iconst (v := 0) (pc := 269) hx hb dL_ticks_269 (by decide) ?_
            exact z_top (by rw [if_neg c_262]) (J3 _ _ _ hz (lv_sub hl [0, 1, 2, 3, 4, 5, 6, 7, 8] rfl))
          · refine lv_iconst (v := 1) (pc := 265) hx hb dL_ticks_265 (by decide) ?_
            refine lv_goto (tgt := 270) (pc := 266) hx hb dL_ticks_266 (by decide) ?_
            exact z_top (by rw [if_pos c_262]) (J3 _ _ _ hz (lv_sub hl [0, 1, 2, 3, 4, 5, 6, 7, 8] rfl))
      exact loop2 8 0 (by omega) _ _ _ hz (lv_sub hl [0, 1, 2, 3, 4, 5, 6] rfl)
    | succ cnt ih =>
      intro k hk9 w  hF  H locs ls hz hl
      have hk : k < 8 := by omega
      obtain ⟨fs0, tl0, ew⟩ := hF.h1
      have hw := hP.why hk
      have hk8 := hk
      refine lv_iload (pc := 22) hx hb dL_ticks_22 (lv_at hl 0 rfl) ?_
      refine lv_bipush (v := 8) (pc := 24) hx hb dL_ticks_24 (by decide) ?_
      refine lv_icmp_ge (pc := 26) (tgt := 206) hx hb dL_ticks_26 (by decide) (fun c9 => absurd c9 (nI_ge hk (by decide))) (fun c_26 => ?_)
      refine lv_aload_n (pc := 29) hx hb dL_ticks_29 rfl (lv_at hl 4 rfl) ?_
      refine lv_iload (pc := 30) hx hb dL_ticks_30 (lv_at hl 0 rfl) ?_
      refine lv_aload_n (pc := 32) hx hb dL_ticks_32 rfl (lv_at hl 5 rfl) ?_
      refine lv_iload (pc := 33) hx hb dL_ticks_33 (lv_at hl 0 rfl) ?_
      obtain ⟨w2, z2, hF2⟩ := f_reason (l := l) (G := G) hF hci (nI k)
      obtain ⟨fsw2, tlw2, ew2⟩ := hF2.h1
      refine z_runV (pc := 35) (As := [.int (nI k)]) (rest := [.int (nI k), .ref q1]) (ws1 := [(q1, .inl (ca 1, 8, .inl (wUp p k))), (q2, .inl (ca 1, 32, .inl (gUp p k)))] ++ w2) ⟨hx, hb, hml, hown, hts⟩ (z2) (cwV 1 hts (zgoodV zsub wq_19_8 wq_19_9 wq_19_10 wq_1_2 wq_19_11) rfl rfl rfl hdV_X3_reason ⟨Nat.le_of_ble_eq_true rfl, Nat.le_of_ble_eq_true rfl⟩) hz [(q1, .inl (ca 1, 8, .inl (wUp p k))), (q2, .inl (ca 1, 32, .inl (gUp p k)))] List.perm_append_comm List.perm_append_comm ew rfl rfl hl.1 (Nat.le_of_ble_eq_true rfl) (st1 := [.int (kreR p (nI k)), .int (nI k), .ref q1]) rfl dL_ticks_35 ⟨Nat.le_of_ble_eq_true rfl, Nat.le_of_ble_eq_true rfl⟩ (fun H locs hz => ?_)
      refine z_iast (ws1 := [(q1, .inl (ca 1, 8, .inl (upd (wUp p k) k (kreR p (nI k))))), (q2, .inl (ca 1, 32, .inl (gUp p k)))] ++ w2) (pc := 38) hx hb hz 0 rfl k rfl hk (by decide) rfl dL_ticks_38 (fun H locs hz => ?_)
      refine lv_aload_n (pc := 39) hx hb dL_ticks_39 rfl (lv_at hl 5 rfl) ?_
      refine lv_iload (pc := 40) hx hb dL_ticks_40 (lv_at hl 0 rfl) ?_
      refine lv_bipush (v := 6) (pc := 42) hx hb dL_ticks_42 (by decide) ?_
      refine z_runV (pc := 44) (As := [.int (nI k), .int 6]) (rest := []) (ws1 := [(q1, .inl (ca 1, 8, .inl (upd (wUp p k) k (kreR p (nI k))))), (q2, .inl (ca 1, 32, .inl (gUp p k)))] ++ w2) ⟨hx, hb, hml, hown, hts⟩ (f_cw (l := l) (G := G) hF2 hci hk (w9 := 6) (by decide) (by decide)) (cwV 2 hts (zgoodV zsub wq_7_7 wq_7_8 wq_7_9 wq_1_2 wq_7_10) rfl rfl rfl hdV_X3_cup ⟨Nat.le_of_ble_eq_true rfl, Nat.le_of_ble_eq_true rfl⟩) hz [(q1, .inl (ca 1, 8, .inl (upd (wUp p k) k (kreR p (nI k))))), (q2, .inl (ca 1, 32, .inl (gUp p k)))] List.perm_append_comm List.perm_append_comm ew2 rfl rfl hl.1 (Nat.le_of_ble_eq_true rfl) (st1 := [.int (p.2 k 6)]) rfl dL_ticks_44 ⟨Nat.le_of_ble_eq_true rfl, Nat.le_of_ble_eq_true rfl⟩ (fun H locs hz => ?_)
      refine lv_iconst (v := 1) (pc := 47) hx hb dL_ticks_47 (by decide) ?_
      have J22 : ∀ (H : Heap) (locs : List Loc) (ls : Array Slot), zw G ca A s0.heap s0 ([(q1, .inl (ca 1, 8, .inl (upd (wUp p k) k (kreR p (nI k))))), (q2, .inl (ca 1, 32, .inl (gUp p k)))] ++ w2) H locs → lv_has ls 10 [(5, .int (nI k)), (4, .int 0), (3, .int (hourP p)), (2, .ref q2), (1, .ref q1), (0, .ref o)] → W pg l ev rm_L_ticks s0 mt args below meth cd H locs 2 40 Q (F0 mt 67 ls [.int (heldF p k)]) := by
        intro H locs ls hz hl
        refine lv_istore (lv' := [(6, .int (heldF p k)), (5, .int (nI k)), (4, .int 0), (3, .int (hourP p)), (2, .ref q2), (1, .ref q1), (0, .ref o)]) (pc := 67) hx hb dL_ticks_67 hl (by decide) rfl (fun ls hl => ?_)
        refine lv_aload_n (pc := 69) hx hb dL_ticks_69 rfl (lv_at hl 6 rfl) ?_
        refine lv_iload (pc := 70) hx hb dL_ticks_70 (lv_at hl 1 rfl) ?_
        refine lv_bipush (v := 6) (pc := 72) hx hb dL_ticks_72 (by decide) ?_
        refine z_runV (pc := 74) (As := [.int (nI k), .int 6]) (rest := []) (ws1 := [(q1, .inl (ca 1, 8, .inl (upd (wUp p k) k (kreR p (nI k))))), (q2, .inl (ca 1, 32, .inl (gUp p k)))] ++ w2) ⟨hx, hb, hml, hown, hts⟩ (f_cw (l := l) (G := G) hF2 hci hk (w9 := 6) (by decide) (by decide)) (cwV 2 hts (zgoodV zsub wq_7_7 wq_7_8 wq_7_9 wq_1_2 wq_7_10) rfl rfl rfl hdV_X3_cup ⟨Nat.le_of_ble_eq_true rfl, Nat.le_of_ble_eq_true rfl⟩) hz [(q1, .inl (ca 1, 8, .inl (upd (wUp p k) k (kreR p (nI k))))), (q2, .inl (ca 1, 32, .inl (gUp p k)))] List.perm_append_comm List.perm_append_comm ew2 rfl rfl hl.1 (Nat.le_of_ble_eq_true rfl) (st1 := [.int (p.2 k 6)]) rfl dL_ticks_74 ⟨Nat.le_of_ble_eq_true rfl, Nat.le_of_ble_eq_true rfl⟩ (fun H locs hz => ?_)
        have J23 : ∀ (H : Heap) (locs : List Loc) (ls : Array Slot), zw G ca A s0.heap s0 ([(q1, .inl (ca 1, 8, .inl (upd (wUp p k) k (kreR p (nI k))))), (q2, .inl (ca 1, 32, .inl (gUp p k)))] ++ w2) H locs → lv_has ls 10 [(6, .int (heldF p k)), (5, .int (nI k)), (4, .int 0), (3, .int (hourP p)), (2, .ref q2), (1, .ref q1), (0, .ref o)] → W pg l ev rm_L_ticks s0 mt args below meth cd H locs 2 40 Q (F0 mt 95 ls [.int (shutF p k)]) := by
          intro H locs ls hz hl
          refine lv_istore (lv' := [(7, .int (shutF p k)), (6, .int (heldF p k)), (5, .int (nI k)), (4, .int 0), (3, .int (hourP p)), (2, .ref q2), (1, .ref q1), (0, .ref o)]) (pc := 95) hx hb dL_ticks_95 hl (by decide) rfl (fun ls hl => ?_)
          refine lv_aload_n (pc := 97) hx hb dL_ticks_97 rfl (lv_at hl 6 rfl) ?_
          refine lv_iload (pc := 98) hx hb dL_ticks_98 (lv_at hl 2 rfl) ?_
          refine z_iald (x := kreR p (nI k)) (pc := 100) hx hb hz 0 rfl k rfl hk (by decide) pk_us dL_ticks_100 ?_
          refine lv_iconst (v := 1) (pc := 101) hx hb dL_ticks_101 (by decide) ?_
          have J24 : ∀ (H : Heap) (locs : List Loc) (ls : Array Slot), zw G ca A s0.heap s0 ([(q1, .inl (ca 1, 8, .inl (upd (wUp p k) k (kreR p (nI k))))), (q2, .inl (ca 1, 32, .inl (gUp p k)))] ++ w2) H locs → lv_has ls 10 [(7, .int (shutF p k)), (6, .int (heldF p k)), (5, .int (nI k)), (4, .int 0), (3, .int (hourP p)), (2, .ref q2), (1, .ref q1), (0, .ref o)] → W pg l ev rm_L_ticks s0 mt args below meth cd H locs 2 40 Q (F0 mt 110 ls [.int (if kreR p (nI k) = 1 then 1 else 0)]) := by
            intro H locs ls hz hl
            refine lv_iload (pc := 110) hx hb dL_ticks_110 (lv_at hl 1 rfl) ?_
            refine lv_icmp_ne (pc := 112) (tgt := 163) hx hb dL_ticks_112 (by decide) (fun c9 => absurd hw.1 c9) (fun c_112 => ?_)
            refine lv_aload_n (pc := 115) hx hb dL_ticks_115 rfl (lv_at hl 6 rfl) ?_
            refine lv_iload (pc := 116) hx hb dL_ticks_116 (lv_at hl 2 rfl) ?_
            refine z_iald (x := kreR p (nI k)) (pc := 118) hx hb hz 0 rfl k rfl hk (by decide) pk_us dL_ticks_118 ?_
            refine lv_iconst (v := 2) (pc := 119) hx hb dL_ticks_119 (by decide) ?_
            have J25 : ∀ (H : Heap) (locs : List Loc) (ls : Array Slot), zw G ca A s0.heap s0 ([(q1, .inl (ca 1, 8, .inl (upd (wUp p k) k (kreR p (nI k))))), (q2, .inl (ca 1, 32, .inl (gUp p k)))] ++ w2) H locs → lv_has ls 10 [(7, .int (shutF p k)), (6, .int (heldF p k)), (5, .int (nI k)), (4, .int 0), (3, .int (hourP p)), (2, .ref q2), (1, .ref q1), (0, .ref o)] → W pg l ev rm_L_ticks s0 mt args below meth cd H locs 2 40 Q (F0 mt 128 ls [.int (if kreR p (nI k) = 2 then 1 else 0)]) := by
              intro H locs ls hz hl
              refine lv_iload (pc := 128) hx hb dL_ticks_128 (lv_at hl 0 rfl) ?_
              refine lv_icmp_ne (pc := 130) (tgt := 163) hx hb dL_ticks_130 (by decide) (fun c9 => absurd hw.2.1 c9) (fun c_130 => ?_)
              refine lv_aload_n (pc := 133) hx hb dL_ticks_133 rfl (lv_at hl 6 rfl) ?_
              refine lv_iload (pc := 134) hx hb dL_ticks_134 (lv_at hl 2 rfl) ?_
              refine z_iald (x := kreR p (nI k)) (pc := 136) hx hb hz 0 rfl k rfl hk (by decide) pk_us dL_ticks_136 ?_
              have J26 : ∀ (H : Heap) (locs : List Loc) (ls : Array Slot), zw G ca A s0.heap s0 ([(q1, .inl (ca 1, 8, .inl (upd (wUp p k) k (kreR p (nI k))))), (q2, .inl (ca 1, 32, .inl (gUp p k)))] ++ w2) H locs → lv_has ls 10 [(7, .int (shutF p k)), (6, .int (heldF p k)), (5, .int (nI k)), (4, .int 0), (3, .int (hourP p)), (2, .ref q2), (1, .ref q1), (0, .ref o)] → W pg l ev rm_L_ticks s0 mt args below meth cd H locs 2 40 Q (F0 mt 145 ls [.int (if kreR p (nI k) = 0 then 1 else 0)]) := by
                intro H locs ls hz hl
                refine lv_aload_n (pc := 145) hx hb dL_ticks_145 rfl (lv_at hl 7 rfl) ?_
                refine lv_iload (pc := 146) hx hb dL_ticks_146 (lv_at hl 2 rfl) ?_
                obtain ⟨w3, z3, hF3⟩ := f_tipsIn (l := l) (G := G) hF2 hci (nI k)
                obtain ⟨fsw3, tlw3, ew3⟩ := hF3.h1
                refine z_runV (pc := 148) (As := [.int (nI k)]) (rest := [.int (if kreR p (nI k) = 0 then 1 else 0)]) (ws1 := [(q1, .inl (ca 1, 8, .inl (upd (wUp p k) k (kreR p (nI k))))), (q2, .inl (ca 1, 32, .inl (gUp p k)))] ++ w3) ⟨hx, hb, hml, hown, hts⟩ (z3) (cwV 1 hts (zgoodV zsub wq_20_6 wq_20_7 wq_20_8 wq_1_2 wq_20_9) rfl rfl rfl hdV_X3_tipsIn ⟨Nat.le_of_ble_eq_true rfl, Nat.le_of_ble_eq_true rfl⟩) hz [(q1, .inl (ca 1, 8, .inl (upd (wUp p k) k (kreR p (nI k))))), (q2, .inl (ca 1, 32, .inl (gUp p k)))] List.perm_append_comm List.perm_append_comm ew2 rfl rfl hl.1 (Nat.le_of_ble_eq_true rfl) (st1 := [.int (ktiR p (nI k)), .int (if kreR p (nI k) = 0 then 1 else 0)]) rfl dL_ticks_148 ⟨Nat.le_of_ble_eq_true rfl, Nat.le_of_ble_eq_true rfl⟩ (fun H locs hz => ?_)
                refine lv_iconst (v := 1) (pc := 151) hx hb dL_ticks_151 (by decide) ?_
                have J27 : ∀ (H : Heap) (locs : List Loc) (ls : Array Slot), zw G ca A s0.heap s0 ([(q1, .inl (ca 1, 8, .inl (upd (wUp p k) k (kreR p (nI k))))), (q2, .inl (ca 1, 32, .inl (gUp p k)))] ++ w3) H locs → lv_has ls 10 [(7, .int (shutF p k)), (6, .int (heldF p k)), (5, .int (nI k)), (4, .int 0), (3, .int (hourP p)), (2, .ref q2), (1, .ref q1), (0, .ref o)] → W pg l ev rm_L_ticks s0 mt args below meth cd H locs 2 40 Q (F0 mt 160 ls [.int (if ktiR p (nI k) = 1 then 1 else 0), .int (if kreR p (nI k) = 0 then 1 else 0)]) := by
                  intro H locs ls hz hl
                  refine lv_icmp_eq (pc := 160) (tgt := 165) hx hb dL_ticks_160 (by decide) (fun c_160 => ?_) (fun c9 => absurd (hweq hP hk) c9)
                  refine lv_iconst (v := 0) (pc := 165) hx hb dL_ticks_165 (by decide) ?_
                  refine lv_istore (lv' := [(8, .int 0), (7, .int (shutF p k)), (6, .int (heldF p k)), (5, .int (nI k)), (4, .int 0), (3, .int (hourP p)), (2, .ref q2), (1, .ref q1), (0, .ref o)]) (pc := 166) hx hb dL_ticks_166 hl (by decide) rfl (fun ls hl => ?_)
                  have loop28 : ∀ cnt d : Nat, d + cnt = 4 → ∀ (H : Heap) (locs : List Loc) (ls : Array Slot), zw G ca A s0.heap s0 ([(q1, .inl (ca 1, 8, .inl (upd (wUp p k) k (kreR p (nI k))))), (q2, .inl (ca 1, 32, .inl (gRow (gUp p k) p k d)))] ++ w3) H locs → lv_has ls 10 [(8, .int (nI d)), (5, .int (nI k)), (4, .int 0), (3, .int (hourP p)), (2, .ref q2), (1, .ref q1), (0, .ref o)] → W pg l ev rm_L_ticks s0 mt args below meth cd H locs 2 40 Q (F0 mt 168 ls []) := by
                    intro cnt
                    induction cnt with
                    | zero =>
                      intro d hk9 H locs ls hz hl
                      obtain rfl : 4 = d := by omega
                      refine lv_iload (pc := 168) hx hb dL_ticks_168 (lv_at hl 0 rfl) ?_
                      refine lv_iconst (v := 4) (pc := 170) hx hb dL_ticks_170 (by decide) ?_
                      refine lv_icmp_ge (pc := 171) (tgt := 200) hx hb dL_ticks_171 (by decide) (fun c_171 => ?_) (fun c9 => absurd (by decide) c9)
                      refine lv_iinc (v := nI (k + 1)) (lv' := [(5, .int (nI (k + 1))), (8, .int (nI 4)), (4, .int 0), (3, .int (hourP p)), (2, .ref q2), (1, .ref q1), (0, .ref o)]) (pc := 200) hx hb dL_ticks_200 hl (k := 1) rfl (nI_add k 1) (by decide) rfl (fun ls hl => ?_)
                      refine lv_goto (tgt := 22) (pc := 203) hx hb dL_ticks_203 (by decide) ?_
                      exact ih (k + 1) (by omega) w3  hF3  _ _ _ (hz.as (by rfl)) (lv_sub hl [0, 2, 3, 4, 5, 6] rfl)
                    | succ cnt ih =>
                      intro d hk9 H locs ls hz hl
                      have hk : d < 4 := by omega
                      have hd4 : d < 4 := hk
                      clear hk
                      have hk : k < 8 := hk8
                      refine lv_iload (pc := 168) hx hb dL_ticks_168 (lv_at hl 0 rfl) ?_
                      refine lv_iconst (v := 4) (pc := 170) hx hb dL_ticks_170 (by decide) ?_
                      refine lv_icmp_ge (pc := 171) (tgt := 200) hx hb dL_ticks_171 (by decide) (fun c9 => absurd c9 (nI_ge hd4 (by decide))) (fun c_171 => ?_)
                      refine lv_aload_n (pc := 174) hx hb dL_ticks_174 rfl (lv_at hl 4 rfl) ?_
                      refine lv_iconst (v := 4) (pc := 175) hx hb dL_ticks_175 (by decide) ?_
                      refine lv_iload (pc := 176) hx hb dL_ticks_176 (lv_at hl 1 rfl) ?_
                      refine lv_imul (pc := 178) hx hb dL_ticks_178 ?_
                      refine lv_iload (pc := 179) hx hb dL_ticks_179 (lv_at hl 0 rfl) ?_
                      refine lv_iadd (pc := 181) hx hb dL_ticks_181 ?_
                      refine z_top (y := nI (4 * k + d)) (x4 k d) ?_
                      refine lv_aload_n (pc := 182) hx hb dL_ticks_182 rfl (lv_at hl 6 rfl) ?_
                      refine lv_iload (pc := 183) hx hb dL_ticks_183 (lv_at hl 1 rfl) ?_
                      refine lv_bipush (v := 8) (pc := 185) hx hb dL_ticks_185 (by decide) ?_
                      refine lv_iload (pc := 187) hx hb dL_ticks_187 (lv_at hl 0 rfl) ?_
                      refine lv_iadd (pc := 189) hx hb dL_ticks_189 ?_
                      refine z_top (y := nI (8 + d)) (nI_add 8 d) ?_
                      refine z_runV (pc := 190) (As := [.int (nI k), .int (nI (8 + d))]) (rest := [.int (nI (4 * k + d)), .ref q2]) (ws1 := [(q1, .inl (ca 1, 8, .inl (upd (wUp p k) k (kreR p (nI k))))), (q2, .inl (ca 1, 32, .inl (gRow (gUp p k) p k d)))] ++ w3) ⟨hx, hb, hml, hown, hts⟩ (f_cw (l := l) (G := G) hF3 hci hk (w9 := 8 + d) (by omega) (by omega)) (cwV 2 hts (zgoodV zsub wq_7_7 wq_7_8 wq_7_9 wq_1_2 wq_7_10) rfl rfl rfl hdV_X3_cup ⟨Nat.le_of_ble_eq_true rfl, Nat.le_of_ble_eq_true rfl⟩) hz [(q1, .inl (ca 1, 8, .inl (upd (wUp p k) k (kreR p (nI k))))), (q2, .inl (ca 1, 32, .inl (gRow (gUp p k) p k d)))] List.perm_append_comm List.perm_append_comm ew3 rfl rfl hl.1 (Nat.le_of_ble_eq_true rfl) (st1 := [.int (p.2 k (8 + d)), .int (nI (4 * k + d)), .ref q2]) rfl dL_ticks_190 ⟨Nat.le_of_ble_eq_true rfl, Nat.le_of_ble_eq_true rfl⟩ (fun H locs hz => ?_)
                      refine z_iast (ws1 := [(q1, .inl (ca 1, 8, .inl (upd (wUp p k) k (kreR p (nI k))))), (q2, .inl (ca 1, 32, .inl (upd (gRow (gUp p k) p k d) (4 * k + d) (p.2 k (8 + d)))))] ++ w3) (pc := 193) hx hb hz 1 rfl (4 * k + d) rfl (by omega) (by decide) rfl dL_ticks_193 (fun H locs hz => ?_)
                      refine lv_iinc (v := nI (d + 1)) (lv' := [(8, .int (nI (d + 1))), (5, .int (nI k)), (4, .int 0), (3, .int (hourP p)), (2, .ref q2), (1, .ref q1), (0, .ref o)]) (pc := 194) hx hb dL_ticks_194 hl (k := 0) rfl (nI_add d 1) (by decide) rfl (fun ls hl => ?_)
                      refine lv_goto (tgt := 168) (pc := 197) hx hb dL_ticks_197 (by decide) ?_
                      exact ih (d + 1) (by omega) _ _ _ (hz.as (by rfl)) (lv_sub hl [0, 1, 2, 3, 4, 5, 6] rfl)
                  exact loop28 4 0 (by omega) _ _ _ (hz.as (by rfl)) (lv_sub hl [0, 3, 4, 5, 6, 7, 8] rfl)
                refine lv_icmp_ne (pc := 152) (tgt := 159) hx hb dL_ticks_152 (by decide) (fun c_152 => ?_) (fun c_152 => ?_)
                · refine lv_iconst (v := 0) (pc := 159) hx hb dL_ticks_159 (by decide) ?_
                  exact z_top (by rw [if_neg c_152]) (J27 _ _ _ hz (lv_sub hl [0, 1, 2, 3, 4, 5, 6, 7] rfl))
                · refine lv_iconst (v := 1) (pc := 155) hx hb dL_ticks_155 (by decide) ?_
                  refine lv_goto (tgt := 160) (pc := 156) hx hb dL_ticks_156 (by decide) ?_
                  exact z_top (by rw [if_pos c_152]) (J27 _ _ _ hz (lv_sub hl [0, 1, 2, 3, 4, 5, 6, 7] rfl))
              refine lv_if_ne (pc := 137) (tgt := 144) hx hb dL_ticks_137 (by decide) (fun c_137 => ?_) (fun c_137 => ?_)
              · refine lv_iconst (v := 0) (pc := 144) hx hb dL_ticks_144 (by decide) ?_
                exact z_top (by rw [if_neg c_137]) (J26 _ _ _ hz (lv_sub hl [0, 1, 2, 3, 4, 5, 6, 7] rfl))
              · refine lv_iconst (v := 1) (pc := 140) hx hb dL_ticks_140 (by decide) ?_
                refine lv_goto (tgt := 145) (pc := 141) hx hb dL_ticks_141 (by decide) ?_
                exact z_top (by rw [if_pos c_137]) (J26 _ _ _ hz (lv_sub hl [0, 1, 2, 3, 4, 5, 6, 7] rfl))
            refine lv_icmp_ne (pc := 120) (tgt := 127) hx hb dL_ticks_120 (by decide) (fun c_120 => ?_) (fun c_120 => ?_)
            · refine lv_iconst (v := 0) (pc := 127) hx hb dL_ticks_127 (by decide) ?_
              exact z_top (by rw [if_neg c_120]) (J25 _ _ _ hz (lv_sub hl [0, 1, 2, 3, 4, 5, 6, 7] rfl))
            · refine lv_iconst (v := 1) (pc := 123) hx hb dL_ticks_123 (by decide) ?_
              refine lv_goto (tgt := 128) (pc := 124) hx hb dL_ticks_124 (by decide) ?_
              exact z_top (by rw [if_pos c_120]) (J25 _ _ _ hz (lv_sub hl [0, 1, 2, 3, 4, 5, 6, 7] rfl))
          refine lv_icmp_ne (pc := 102) (tgt := 109) hx hb dL_ticks_102 (by decide) (fun c_102 => ?_) (fun c_102 => ?_)
          · refine lv_iconst (v := 0) (pc := 109) hx hb dL_ticks_109 (by decide) ?_
            exact z_top (by rw [if_neg c_102]) (J24 _ _ _ hz (lv_sub hl [0, 1, 2, 3, 4, 5, 6, 7] rfl))
          · refine lv_iconst (v := 1) (pc := 105) hx hb dL_ticks_105 (by decide) ?_
            refine lv_goto (tgt := 110) (pc := 106) hx hb dL_ticks_106 (by decide) ?_
            exact z_top (by rw [if_pos c_102]) (J24 _ _ _ hz (lv_sub hl [0, 1, 2, 3, 4, 5, 6, 7] rfl))
        refine lv_if_ne (pc := 77) (tgt := 94) hx hb dL_ticks_77 (by decide) (fun c_77 => ?_) (fun c_77 => ?_)
        · refine lv_iconst (v := 0) (pc := 94) hx hb dL_ticks_94 (by decide) ?_
          exact z_top (by simp only [shutF, if_neg c_77]) (J23 _ _ _ hz (lv_sub hl [0, 1, 2, 3, 4, 5, 6] rfl))
        · refine lv_aload_n (pc := 80) hx hb dL_ticks_80 rfl (lv_at hl 6 rfl) ?_
          refine lv_iload (pc := 81) hx hb dL_ticks_81 (lv_at hl 1 rfl) ?_
          refine lv_iconst (v := 5) (pc := 83) hx hb dL_ticks_83 (by decide) ?_
          refine z_runV (pc := 84) (As := [.int (nI k), .int 5]) (rest := []) (ws1 := [(q1, .inl (ca 1, 8, .inl (upd (wUp p k) k (kreR p (nI k))))), (q2, .inl (ca 1, 32, .inl (gUp p k)))] ++ w2) ⟨hx, hb, hml, hown, hts⟩ (f_cw (l := l) (G := G) hF2 hci hk (w9 := 5) (by decide) (by decide)) (cwV 2 hts (zgoodV zsub wq_7_7 wq_7_8 wq_7_9 wq_1_2 wq_7_10) rfl rfl rfl hdV_X3_cup ⟨Nat.le_of_ble_eq_true rfl, Nat.le_of_ble_eq_true rfl⟩) hz [(q1, .inl (ca 1, 8, .inl (upd (wUp p k) k (kreR p (nI k))))), (q2, .inl (ca 1, 32, .inl (gUp p k)))] List.perm_append_comm List.perm_append_comm ew2 rfl rfl hl.1 (Nat.le_of_ble_eq_true rfl) (st1 := [.int (p.2 k 5)]) rfl dL_ticks_84 ⟨Nat.le_of_ble_eq_true rfl, Nat.le_of_ble_eq_true rfl⟩ (fun H locs hz => ?_)
          refine lv_if_ne (pc := 87) (tgt := 94) hx hb dL_ticks_87 (by decide) (fun c_87 => ?_) (fun c_87 => ?_)
          · refine lv_iconst (v := 0) (pc := 94) hx hb dL_ticks_94 (by decide) ?_
            exact z_top (by simp only [shutF, if_pos c_77, if_neg c_87]) (J23 _ _ _ hz (lv_sub hl [0, 1, 2, 3, 4, 5, 6] rfl))
          · refine lv_iconst (v := 1) (pc := 90) hx hb dL_ticks_90 (by decide) ?_
            refine lv_goto (tgt := 95) (pc := 91) hx hb dL_ticks_91 (by decide) ?_
            exact z_top (by simp only [shutF, if_pos c_77, if_pos c_87]) (J23 _ _ _ hz (lv_sub hl [0, 1, 2, 3, 4, 5, 6] rfl))
      refine lv_icmp_ne (pc := 48) (tgt := 66) hx hb dL_ticks_48 (by decide) (fun c_48 => ?_) (fun c_48 => ?_)
      · refine lv_iconst (v := 0) (pc := 66) hx hb dL_ticks_66 (by decide) ?_
        exact z_top (by simp only [heldF, if_neg c_48]) (J22 _ _ _ hz (lv_sub hl [0, 1, 2, 3, 4, 5] rfl))
      · refine lv_aload_n (pc := 51) hx hb dL_ticks_51 rfl (lv_at hl 5 rfl) ?_
        refine lv_iload (pc := 52) hx hb dL_ticks_52 (lv_at hl 0 rfl) ?_
        refine lv_iconst (v := 4) (pc := 54) hx hb dL_ticks_54 (by decide) ?_
        refine z_runV (pc := 55) (As := [.int (nI k), .int 4]) (rest := []) (ws1 := [(q1, .inl (ca 1, 8, .inl (upd (wUp p k) k (kreR p (nI k))))), (q2, .inl (ca 1, 32, .inl (gUp p k)))] ++ w2) ⟨hx, hb, hml, hown, hts⟩ (f_c4 (l := l) (G := G) hF2 hci hk) (cwV 2 hts (zgoodV zsub wq_7_7 wq_7_8 wq_7_9 wq_1_2 wq_7_10) rfl rfl rfl hdV_X3_cup ⟨Nat.le_of_ble_eq_true rfl, Nat.le_of_ble_eq_true rfl⟩) hz [(q1, .inl (ca 1, 8, .inl (upd (wUp p k) k (kreR p (nI k))))), (q2, .inl (ca 1, 32, .inl (gUp p k)))] List.perm_append_comm List.perm_append_comm ew2 rfl rfl hl.1 (Nat.le_of_ble_eq_true rfl) (st1 := [.int (hr5 (p.2 k 4))]) rfl dL_ticks_55 ⟨Nat.le_of_ble_eq_true rfl, Nat.le_of_ble_eq_true rfl⟩ (fun H locs hz => ?_)
        refine lv_iload_n (pc := 58) hx hb dL_ticks_58 rfl (lv_at hl 2 rfl) ?_
        refine lv_icmp_eq (pc := 59) (tgt := 66) hx hb dL_ticks_59 (by decide) (fun c_59 => ?_) (fun c_59 => ?_)
        · refine lv_iconst (v := 0) (pc := 66) hx hb dL_ticks_66 (by decide) ?_
          exact z_top (by simp only [heldF, if_pos c_48, if_pos c_59]) (J22 _ _ _ hz (lv_sub hl [0, 1, 2, 3, 4, 5] rfl))
        · refine lv_iconst (v := 1) (pc := 62) hx hb dL_ticks_62 (by decide) ?_
          refine lv_goto (tgt := 67) (pc := 63) hx hb dL_ticks_63 (by decide) ?_
          exact z_top (by simp only [heldF, if_pos c_48, if_neg c_59]) (J22 _ _ _ hz (lv_sub hl [0, 1, 2, 3, 4, 5] rfl))
  exact loop1 8 0 (by omega) w  hF  _ _ _ (hz.as (by rfl)) (lv_sub hl [0, 1, 2, 3, 4, 5] rfl)
