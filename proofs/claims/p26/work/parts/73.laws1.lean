def rm_L_low : Room := { frames := 0, cells := 0, slots := 0, locals := 0 }
set_option maxRecDepth 20000 in
theorem hdV_L_low : yL_low.cls = RL ∧ yL_low.cls ≠ "java/lang/invoke/MethodHandle" ∧ yL_low.cls ≠ "java/lang/invoke/VarHandle" ∧ (parseMethodDescriptor yL_low.desc).map (fun d => d.parameters.length) = some 2 := by decide +kernel
set_option maxHeartbeats 4000000 in
set_option maxRecDepth 100000 in
theorem k_L_low (l : Launch) (G : va_G) (ca : Nat → ClassId) (v n : Int32) (hn : ¬ n = 0) : Zc l G ca yL_low (zws yL_low cL_low 2 (some .int)) rm_L_low [.int v, .int n] ([]) ((some (.int (lowF v n)))) ([]) := by
  refine Zc.of (cc := cL_low) (maxL := 2) (ret := (some .int)) (by decide) rfl (Nat.le_of_ble_eq_true rfl) ?_
  intro pg ev s0 mt below meth cd A args Q ls hx hb hr hml hown hts hlk hQ hl hz
  have hl : lv_has ls 2 [(0, .int v), (1, .int n)] := hl
  refine lv_iload_n (pc := 0) hx hb dL_low_0 rfl (lv_at hl 0 rfl) ?_
  refine lv_ldc (own := RL) (v := 2147483647) (pc := 1) hx hb hown (hts _ (zsub _ wq_36_0)) dL_low_1 ?_
  refine lv_iand (pc := 3) hx hb dL_low_3 ?_
  refine lv_iload_n (pc := 4) hx hb dL_low_4 rfl (lv_at hl 1 rfl) ?_
  refine lv_irem (pc := 5) hx hb dL_low_5 hn ?_
  exact z_iret (pc := 6) hx hb hr hlk hQ hz dL_low_6 (by rfl) (by rfl)

def rm_L_isCup : Room := { frames := 3, cells := 0, slots := 0, locals := 64 }
set_option maxRecDepth 20000 in
theorem hdV_L_isCup : yL_isCup.cls = RL ∧ yL_isCup.cls ≠ "java/lang/invoke/MethodHandle" ∧ yL_isCup.cls ≠ "java/lang/invoke/VarHandle" ∧ (parseMethodDescriptor yL_isCup.desc).map (fun d => d.parameters.length) = some 2 := by decide +kernel
set_option maxHeartbeats 4000000 in
set_option maxRecDepth 100000 in
theorem k_L_isCup (l : Launch) (G : va_G) (ca : Nat → ClassId) (o : Nat) (w : va_W) (p : HC) (K : Option HC) (hF : FW ca o p K w) (hci : CI p) (k : Nat) (hk : k < 8) (hX : cupI (p.2 k) k) : Zc l G ca yL_isCup (zws yL_isCup cL_isCup 5 (some .boolean)) rm_L_isCup [.ref o, .int (nI k)] w ((some (.int 1))) w := by
  refine Zc.of (cc := cL_isCup) (maxL := 5) (ret := (some .boolean)) (by decide) rfl (Nat.le_of_ble_eq_true rfl) ?_
  intro pg ev s0 mt below meth cd A args Q ls hx hb hr hml hown hts hlk hQ hl hz
  have hl : lv_has ls 5 [(0, .ref o), (1, .int (nI k))] := hl
  obtain ⟨fs0, tl0, ew⟩ := hF.h1
  refine lv_aload_n (pc := 0) hx hb dL_isCup_0 rfl (lv_at hl 0 rfl) ?_
  refine lv_iload_n (pc := 1) hx hb dL_isCup_1 rfl (lv_at hl 1 rfl) ?_
  refine lv_iconst (v := 4) (pc := 2) hx hb dL_isCup_2 (by decide) ?_
  refine z_runV (pc := 3) (As := [.int (nI k), .int 4]) (rest := []) (ws1 := w) ⟨hx, hb, hml, hown, hts⟩ (f_c4 (l := l) (G := G) hF hci hk) (cwV 2 hts (zgoodV zsub wq_7_7 wq_7_8 wq_7_9 wq_1_2 wq_7_10) rfl rfl rfl hdV_X3_cup ⟨Nat.le_of_ble_eq_true rfl, Nat.le_of_ble_eq_true rfl⟩) hz [] zp_all zp_all' ew rfl rfl hl.1 (Nat.le_of_ble_eq_true rfl) (st1 := [.int (hr5 (p.2 k 4))]) rfl dL_isCup_3 ⟨Nat.le_of_ble_eq_true rfl, Nat.le_of_ble_eq_true rfl⟩ (fun H locs hz => ?_)
  refine lv_istore_n (lv' := [(2, .int (hr5 (p.2 k 4))), (0, .ref o), (1, .int (nI k))]) (pc := 6) hx hb dL_isCup_6 rfl hl (by decide) rfl (fun ls hl => ?_)
  refine lv_aload_n (pc := 7) hx hb dL_isCup_7 rfl (lv_at hl 1 rfl) ?_
  refine lv_iload_n (pc := 8) hx hb dL_isCup_8 rfl (lv_at hl 2 rfl) ?_
  refine lv_bipush (v := 8) (pc := 9) hx hb dL_isCup_9 (by decide) ?_
  refine z_runV (pc := 11) (As := [.int (nI k), .int 8]) (rest := []) (ws1 := w) ⟨hx, hb, hml, hown, hts⟩ (f_cw (l := l) (G := G) hF hci hk (w9 := 8) (by decide) (by decide)) (cwV 2 hts (zgoodV zsub wq_7_7 wq_7_8 wq_7_9 wq_1_2 wq_7_10) rfl rfl rfl hdV_X3_cup ⟨Nat.le_of_ble_eq_true rfl, Nat.le_of_ble_eq_true rfl⟩) hz [] zp_all zp_all' ew rfl rfl hl.1 (Nat.le_of_ble_eq_true rfl) (st1 := [.int (p.2 k 8)]) rfl dL_isCup_11 ⟨Nat.le_of_ble_eq_true rfl, Nat.le_of_ble_eq_true rfl⟩ (fun H locs hz => ?_)
  refine lv_istore_n (lv' := [(3, .int (p.2 k 8)), (2, .int (hr5 (p.2 k 4))), (0, .ref o), (1, .int (nI k))]) (pc := 14) hx hb dL_isCup_14 rfl hl (by decide) rfl (fun ls hl => ?_)
  refine lv_aload_n (pc := 15) hx hb dL_isCup_15 rfl (lv_at hl 2 rfl) ?_
  refine lv_iload_n (pc := 16) hx hb dL_isCup_16 rfl (lv_at hl 3 rfl) ?_
  refine lv_bipush (v := 9) (pc := 17) hx hb dL_isCup_17 (by decide) ?_
  refine z_runV (pc := 19) (As := [.int (nI k), .int 9]) (rest := []) (ws1 := w) ⟨hx, hb, hml, hown, hts⟩ (f_cw (l := l) (G := G) hF hci hk (w9 := 9) (by decide) (by decide)) (cwV 2 hts (zgoodV zsub wq_7_7 wq_7_8 wq_7_9 wq_1_2 wq_7_10) rfl rfl rfl hdV_X3_cup ⟨Nat.le_of_ble_eq_true rfl, Nat.le_of_ble_eq_true rfl⟩) hz [] zp_all zp_all' ew rfl rfl hl.1 (Nat.le_of_ble_eq_true rfl) (st1 := [.int (p.2 k 9)]) rfl dL_isCup_19 ⟨Nat.le_of_ble_eq_true rfl, Nat.le_of_ble_eq_true rfl⟩ (fun H locs hz => ?_)
  refine lv_aload_n (pc := 22) hx hb dL_isCup_22 rfl (lv_at hl 2 rfl) ?_
  refine lv_iload_n (pc := 23) hx hb dL_isCup_23 rfl (lv_at hl 3 rfl) ?_
  refine lv_bipush (v := 10) (pc := 24) hx hb dL_isCup_24 (by decide) ?_
  refine z_runV (pc := 26) (As := [.int (nI k), .int 10]) (rest := [.int (p.2 k 9)]) (ws1 := w) ⟨hx, hb, hml, hown, hts⟩ (f_cw (l := l) (G := G) hF hci hk (w9 := 10) (by decide) (by decide)) (cwV 2 hts (zgoodV zsub wq_7_7 wq_7_8 wq_7_9 wq_1_2 wq_7_10) rfl rfl rfl hdV_X3_cup ⟨Nat.le_of_ble_eq_true rfl, Nat.le_of_ble_eq_true rfl⟩) hz [] zp_all zp_all' ew rfl rfl hl.1 (Nat.le_of_ble_eq_true rfl) (st1 := [.int (p.2 k 10), .int (p.2 k 9)]) rfl dL_isCup_26 ⟨Nat.le_of_ble_eq_true rfl, Nat.le_of_ble_eq_true rfl⟩ (fun H locs hz => ?_)
  refine lv_iadd (pc := 29) hx hb dL_isCup_29 ?_
  refine lv_aload_n (pc := 30) hx hb dL_isCup_30 rfl (lv_at hl 2 rfl) ?_
  refine lv_iload_n (pc := 31) hx hb dL_isCup_31 rfl (lv_at hl 3 rfl) ?_
  refine lv_bipush (v := 11) (pc := 32) hx hb dL_isCup_32 (by decide) ?_
  refine z_runV (pc := 34) (As := [.int (nI k), .int 11]) (rest := [.int ((p.2 k 9) + (p.2 k 10))]) (ws1 := w) ⟨hx, hb, hml, hown, hts⟩ (f_cw (l := l) (G := G) hF hci hk (w9 := 11) (by decide) (by decide)) (cwV 2 hts (zgoodV zsub wq_7_7 wq_7_8 wq_7_9 wq_1_2 wq_7_10) rfl rfl rfl hdV_X3_cup ⟨Nat.le_of_ble_eq_true rfl, Nat.le_of_ble_eq_true rfl⟩) hz [] zp_all zp_all' ew rfl rfl hl.1 (Nat.le_of_ble_eq_true rfl) (st1 := [.int (p.2 k 11), .int ((p.2 k 9) + (p.2 k 10))]) rfl dL_isCup_34 ⟨Nat.le_of_ble_eq_true rfl, Nat.le_of_ble_eq_true rfl⟩ (fun H locs hz => ?_)
  refine lv_iadd (pc := 37) hx hb dL_isCup_37 ?_
  refine lv_istore (lv' := [(4, .int (((p.2 k 9) + (p.2 k 10)) + (p.2 k 11))), (3, .int (p.2 k 8)), (2, .int (hr5 (p.2 k 4))), (0, .ref o), (1, .int (nI k))]) (pc := 38) hx hb dL_isCup_38 hl (by decide) rfl (fun ls hl => ?_)
  refine lv_aload_n (pc := 40) hx hb dL_isCup_40 rfl (lv_at hl 3 rfl) ?_
  refine lv_iload_n (pc := 41) hx hb dL_isCup_41 rfl (lv_at hl 4 rfl) ?_
  refine lv_iconst (v := 0) (pc := 42) hx hb dL_isCup_42 (by decide) ?_
  refine z_runV (pc := 43) (As := [.int (nI k), .int 0]) (rest := []) (ws1 := w) ⟨hx, hb, hml, hown, hts⟩ (f_cw (l := l) (G := G) hF hci hk (w9 := 0) (by decide) (by decide)) (cwV 2 hts (zgoodV zsub wq_7_7 wq_7_8 wq_7_9 wq_1_2 wq_7_10) rfl rfl rfl hdV_X3_cup ⟨Nat.le_of_ble_eq_true rfl, Nat.le_of_ble_eq_true rfl⟩) hz [] zp_all zp_all' ew rfl rfl hl.1 (Nat.le_of_ble_eq_true rfl) (st1 := [.int (p.2 k 0)]) rfl dL_isCup_43 ⟨Nat.le_of_ble_eq_true rfl, Nat.le_of_ble_eq_true rfl⟩ (fun H locs hz => ?_)
  refine lv_iconst (v := 1) (pc := 46) hx hb dL_isCup_46 (by decide) ?_
  refine lv_icmp_lt (pc := 47) (tgt := 191) hx hb dL_isCup_47 (by decide) (fun c9 => absurd c9 (Int32.not_lt.mpr hX.1.1)) (fun c_47 => ?_)
  refine lv_aload_n (pc := 50) hx hb dL_isCup_50 rfl (lv_at hl 3 rfl) ?_
  refine lv_iload_n (pc := 51) hx hb dL_isCup_51 rfl (lv_at hl 4 rfl) ?_
  refine lv_iconst (v := 0) (pc := 52) hx hb dL_isCup_52 (by decide) ?_
  refine z_runV (pc := 53) (As := [.int (nI k), .int 0]) (rest := []) (ws1 := w) ⟨hx, hb, hml, hown, hts⟩ (f_cw (l := l) (G := G) hF hci hk (w9 := 0) (by decide) (by decide)) (cwV 2 hts (zgoodV zsub wq_7_7 wq_7_8 wq_7_9 wq_1_2 wq_7_10) rfl rfl rfl hdV_X3_cup ⟨Nat.le_of_ble_eq_true rfl, Nat.le_of_ble_eq_true rfl⟩) hz [] zp_all zp_all' ew rfl rfl hl.1 (Nat.le_of_ble_eq_true rfl) (st1 := [.int (p.2 k 0)]) rfl dL_isCup_53 ⟨Nat.le_of_ble_eq_true rfl, Nat.le_of_ble_eq_true rfl⟩ (fun H locs hz => ?_)
  refine lv_bipush (v := 99) (pc := 56) hx hb dL_isCup_56 (by decide) ?_
  refine lv_icmp_gt (pc := 58) (tgt := 191) hx hb dL_isCup_58 (by decide) (fun c9 => absurd c9 (Int32.not_lt.mpr hX.1.2)) (fun c_58 => ?_)
  refine lv_aload_n (pc := 61) hx hb dL_isCup_61 rfl (lv_at hl 3 rfl) ?_
  refine lv_iload_n (pc := 62) hx hb dL_isCup_62 rfl (lv_at hl 4 rfl) ?_
  refine lv_iconst (v := 1) (pc := 63) hx hb dL_isCup_63 (by decide) ?_
  refine z_runV (pc := 64) (As := [.int (nI k), .int 1]) (rest := []) (ws1 := w) ⟨hx, hb, hml, hown, hts⟩ (f_cw (l := l) (G := G) hF hci hk (w9 := 1) (by decide) (by decide)) (cwV 2 hts (zgoodV zsub wq_7_7 wq_7_8 wq_7_9 wq_1_2 wq_7_10) rfl rfl rfl hdV_X3_cup ⟨Nat.le_of_ble_eq_true rfl, Nat.le_of_ble_eq_true rfl⟩) hz [] zp_all zp_all' ew rfl rfl hl.1 (Nat.le_of_ble_eq_true rfl) (st1 := [.int (p.2 k 1)]) rfl dL_isCup_64 ⟨Nat.le_of_ble_eq_true rfl, Nat.le_of_ble_eq_true rfl⟩ (fun H locs hz => ?_)
  refine lv_if_lt (pc := 67) (tgt := 191) hx hb dL_isCup_67 (by decide) (fun c9 => absurd c9 (Int32.not_lt.mpr hX.2.1.1)) (fun c_67 => ?_)
  refine lv_aload_n (pc := 70) hx hb dL_isCup_70 rfl (lv_at hl 3 rfl) ?_
  refine lv_iload_n (pc := 71) hx hb dL_isCup_71 rfl (lv_at hl 4 rfl) ?_
  refine lv_iconst (v := 1) (pc := 72) hx hb dL_isCup_72 (by decide) ?_
  refine z_runV (pc := 73) (As := [.int (nI k), .int 1]) (rest := []) (ws1 := w) ⟨hx, hb, hml, hown, hts⟩ (f_cw (l := l) (G := G) hF hci hk (w9 := 1) (by decide) (by decide)) (cwV 2 hts (zgoodV zsub wq_7_7 wq_7_8 wq_7_9 wq_1_2 wq_7_10) rfl rfl rfl hdV_X3_cup ⟨Nat.le_of_ble_eq_true rfl, Nat.le_of_ble_eq_true rfl⟩) hz [] zp_all zp_all' ew rfl rfl hl.1 (Nat.le_of_ble_eq_true rfl) (st1 := [.int (p.2 k 1)]) rfl dL_isCup_73 ⟨Nat.le_of_ble_eq_true rfl, Nat.le_of_ble_eq_true rfl⟩ (fun H locs hz => ?_)
  refine lv_bipush (v := 9) (pc := 76) hx hb dL_isCup_76 (by decide) ?_
  refine lv_icmp_gt (pc := 78) (tgt := 191) hx hb dL_isCup_78 (by decide) (fun c9 => absurd c9 (Int32.not_lt.mpr hX.2.1.2)) (fun c_78 => ?_)
  refine lv_aload_n (pc := 81) hx hb dL_isCup_81 rfl (lv_at hl 3 rfl) ?_
  refine lv_iload_n (pc := 82) hx hb dL_isCup_82 rfl (lv_at hl 4 rfl) ?_
  refine lv_iconst (v := 2) (pc := 83) hx hb dL_isCup_83 (by decide) ?_
  refine z_runV (pc := 84) (As := [.int (nI k), .int 2]) (rest := []) (ws1 := w) ⟨hx, hb, hml, hown, hts⟩ (f_cw (l := l) (G := G) hF hci hk (w9 := 2) (by decide) (by decide)) (cwV 2 hts (zgoodV zsub wq_7_7 wq_7_8 wq_7_9 wq_1_2 wq_7_10) rfl rfl rfl hdV_X3_cup ⟨Nat.le_of_ble_eq_true rfl, Nat.le_of_ble_eq_true rfl⟩) hz [] zp_all zp_all' ew rfl rfl hl.1 (Nat.le_of_ble_eq_true rfl) (st1 := [.int (p.2 k 2)]) rfl dL_isCup_84 ⟨Nat.le_of_ble_eq_true rfl, Nat.le_of_ble_eq_true rfl⟩ (fun H locs hz => ?_)
  refine lv_iload_n (pc := 87) hx hb dL_isCup_87 rfl (lv_at hl 4 rfl) ?_
  refine lv_icmp_le (pc := 88) (tgt := 191) hx hb dL_isCup_88 (by decide) (fun c9 => absurd c9 (Int32.not_le.mpr hX.2.2.1.1)) (fun c_88 => ?_)
  refine lv_aload_n (pc := 91) hx hb dL_isCup_91 rfl (lv_at hl 3 rfl) ?_
  refine lv_iload_n (pc := 92) hx hb dL_isCup_92 rfl (lv_at hl 4 rfl) ?_
  refine lv_iconst (v := 2) (pc := 93) hx hb dL_isCup_93 (by decide) ?_
  refine z_runV (pc := 94) (As := [.int (nI k), .int 2]) (rest := []) (ws1 := w) ⟨hx, hb, hml, hown, hts⟩ (f_cw (l := l) (G := G) hF hci hk (w9 := 2) (by decide) (by decide)) (cwV 2 hts (zgoodV zsub wq_7_7 wq_7_8 wq_7_9 wq_1_2 wq_7_10) rfl rfl rfl hdV_X3_cup ⟨Nat.le_of_ble_eq_true rfl, Nat.le_of_ble_eq_true rfl⟩) hz [] zp_all zp_all' ew rfl rfl hl.1 (Nat.le_of_ble_eq_true rfl) (st1 := [.int (p.2 k 2)]) rfl dL_isCup_94 ⟨Nat.le_of_ble_eq_true rfl, Nat.le_of_ble_eq_true rfl⟩ (fun H locs hz => ?_)
  refine lv_bipush (v := 8) (pc := 97) hx hb dL_isCup_97 (by decide) ?_
  refine lv_icmp_gt (pc := 99) (tgt := 191) hx hb dL_isCup_99 (by decide) (fun c9 => absurd c9 (Int32.not_lt.mpr hX.2.2.1.2)) (fun c_99 => ?_)
  refine lv_aload_n (pc := 102) hx hb dL_isCup_102 rfl (lv_at hl 3 rfl) ?_
  refine lv_iload_n (pc := 103) hx hb dL_isCup_103 rfl (lv_at hl 4 rfl) ?_
  refine lv_iconst (v := 3) (pc := 104) hx hb dL_isCup_104 (by decide) ?_
  refine z_runV (pc := 105) (As := [.int (nI k), .int 3]) (rest := []) (ws1 := w) ⟨hx, hb, hml, hown, hts⟩ (f_cw (l := l) (G := G) hF hci hk (w9 := 3) (by decide) (by decide)) (cwV 2 hts (zgoodV zsub wq_7_7 wq_7_8 wq_7_9 wq_1_2 wq_7_10) rfl rfl rfl hdV_X3_cup ⟨Nat.le_of_ble_eq_true rfl, Nat.le_of_ble_eq_true rfl⟩) hz [] zp_all zp_all' ew rfl rfl hl.1 (Nat.le_of_ble_eq_true rfl) (st1 := [.int (p.2 k 3)]) rfl dL_isCup_105 ⟨Nat.le_of_ble_eq_true rfl, Nat.le_of_ble_eq_true rfl⟩ (fun H locs hz => ?_)
  refine lv_if_lt (pc := 108) (tgt := 191) hx hb dL_isCup_108 (by decide) (fun c9 => absurd c9 (Int32.not_lt.mpr hX.2.2.2.1.1)) (fun c_108 => ?_)
  refine lv_aload_n (pc := 111) hx hb dL_isCup_111 rfl (lv_at hl 3 rfl) ?_
  refine lv_iload_n (pc := 112) hx hb dL_isCup_112 rfl (lv_at hl 4 rfl) ?_
  refine lv_iconst (v := 3) (pc := 113) hx hb dL_isCup_113 (by decide) ?_
  refine z_runV (pc := 114) (As := [.int (nI k), .int 3]) (rest := []) (ws1 := w) ⟨hx, hb, hml, hown, hts⟩ (f_cw (l := l) (G := G) hF hci hk (w9 := 3) (by decide) (by decide)) (cwV 2 hts (zgoodV zsub wq_7_7 wq_7_8 wq_7_9 wq_1_2 wq_7_10) rfl rfl rfl hdV_X3_cup ⟨Nat.le_of_ble_eq_true rfl, Nat.le_of_ble_eq_true rfl⟩) hz [] zp_all zp_all' ew rfl rfl hl.1 (Nat.le_of_ble_eq_true rfl) (st1 := [.int (p.2 k 3)]) rfl dL_isCup_114 ⟨Nat.le_of_ble_eq_true rfl, Nat.le_of_ble_eq_true rfl⟩ (fun H locs hz => ?_)
  refine lv_sipush (v := 9999) (pc := 117) hx hb dL_isCup_117 (by decide) ?_
  refine lv_icmp_gt (pc := 120) (tgt := 191) hx hb dL_isCup_120 (by decide) (fun c9 => absurd c9 (Int32.not_lt.mpr hX.2.2.2.1.2)) (fun c_120 => ?_)
  refine lv_aload_n (pc := 123) hx hb dL_isCup_123 rfl (lv_at hl 3 rfl) ?_
  refine lv_iload_n (pc := 124) hx hb dL_isCup_124 rfl (lv_at hl 4 rfl) ?_
  refine lv_bipush (v := 7) (pc := 125) hx hb dL_isCup_125 (by decide) ?_
  refine z_runV (pc := 127) (As := [.int (nI k), .int 7]) (rest := []) (ws1 := w) ⟨hx, hb, hml, hown, hts⟩ (f_cw (l := l) (G := G) hF hci hk (w9 := 7) (by decide) (by decide)) (cwV 2 hts (zgoodV zsub wq_7_7 wq_7_8 wq_7_9 wq_1_2 wq_7_10) rfl rfl rfl hdV_X3_cup ⟨Nat.le_of_ble_eq_true rfl, Nat.le_of_ble_eq_true rfl⟩) hz [] zp_all zp_all' ew rfl rfl hl.1 (Nat.le_of_ble_eq_true rfl) (st1 := [.int (p.2 k 7)]) rfl dL_isCup_127 ⟨Nat.le_of_ble_eq_true rfl, Nat.le_of_ble_eq_true rfl⟩ (fun H locs hz => ?_)
  refine lv_if_lt (pc := 130) (tgt := 191) hx hb dL_isCup_130 (by decide) (fun c9 => absurd c9 (Int32.not_lt.mpr hX.2.2.2.2.1.1)) (fun c_130 => ?_)
  refine lv_aload_n (pc := 133) hx hb dL_isCup_133 rfl (lv_at hl 3 rfl) ?_
  refine lv_iload_n (pc := 134) hx hb dL_isCup_134 rfl (lv_at hl 4 rfl) ?_
  refine lv_bipush (v := 7) (pc := 135) hx hb dL_isCup_135 (by decide) ?_
  refine z_runV (pc := 137) (As := [.int (nI k), .int 7]) (rest := []) (ws1 := w) ⟨hx, hb, hml, hown, hts⟩ (f_cw (l := l) (G := G) hF hci hk (w9 := 7) (by decide) (by decide)) (cwV 2 hts (zgoodV zsub wq_7_7 wq_7_8 wq_7_9 wq_1_2 wq_7_10) rfl rfl rfl hdV_X3_cup ⟨Nat.le_of_ble_eq_true rfl, Nat.le_of_ble_eq_true rfl⟩) hz [] zp_all zp_all' ew rfl rfl hl.1 (Nat.le_of_ble_eq_true rfl) (st1 := [.int (p.2 k 7)]) rfl dL_isCup_137 ⟨Nat.le_of_ble_eq_true rfl, Nat.le_of_ble_eq_true rfl⟩ (fun H locs hz => ?_)
  refine lv_bipush (v := 30) (pc := 140) hx hb dL_isCup_140 (by decide) ?_
  refine lv_icmp_gt (pc := 142) (tgt := 191) hx hb dL_isCup_142 (by decide) (fun c9 => absurd c9 (Int32.not_lt.mpr hX.2.2.2.2.1.2)) (fun c_142 => ?_)
  refine lv_aload_n (pc := 145) hx hb dL_isCup_145 rfl (lv_at hl 3 rfl) ?_
  refine lv_iload_n (pc := 146) hx hb dL_isCup_146 rfl (lv_at hl 4 rfl) ?_
  refine lv_bipush (v := 6) (pc := 147) hx hb dL_isCup_147 (by decide) ?_
  refine z_runV (pc := 149) (As := [.int (nI k), .int 6]) (rest := []) (ws1 := w) ⟨hx, hb, hml, hown, hts⟩ (f_cw (l := l) (G := G) hF hci hk (w9 := 6) (by decide) (by decide)) (cwV 2 hts (zgoodV zsub wq_7_7 wq_7_8 wq_7_9 wq_1_2 wq_7_10) rfl rfl rfl hdV_X3_cup ⟨Nat.le_of_ble_eq_true rfl, Nat.le_of_ble_eq_true rfl⟩) hz [] zp_all zp_all' ew rfl rfl hl.1 (Nat.le_of_ble_eq_true rfl) (st1 := [.int (p.2 k 6)]) rfl dL_isCup_149 ⟨Nat.le_of_ble_eq_true rfl, Nat.le_of_ble_eq_true rfl⟩ (fun H locs hz => ?_)
  refine lv_if_eq (pc := 152) (tgt := 168) hx hb dL_isCup_152 (by decide) (fun c_152 => ?_) (fun c_152 => ?_)
  · refine lv_iload_n (pc := 168) hx hb dL_isCup_168 rfl (lv_at hl 2 rfl) ?_
    refine lv_bipush (v := -5) (pc := 169) hx hb dL_isCup_169 (by decide) ?_
    refine lv_icmp_lt (pc := 171) (tgt := 191) hx hb dL_isCup_171 (by decide) (fun c9 => absurd c9 (Int32.not_lt.mpr hX.2.2.2.2.2.2.1.1)) (fun c_171 => ?_)
    refine lv_iload_n (pc := 174) hx hb dL_isCup_174 rfl (lv_at hl 2 rfl) ?_
    refine lv_sipush (v := 240) (pc := 175) hx hb dL_isCup_175 (by decide) ?_
    refine lv_icmp_ge (pc := 178) (tgt := 191) hx hb dL_isCup_178 (by decide) (fun c9 => absurd c9 (Int32.not_le.mpr hX.2.2.2.2.2.2.1.2)) (fun c_178 => ?_)
    refine lv_iload (pc := 181) hx hb dL_isCup_181 (lv_at hl 0 rfl) ?_
    refine lv_iload_n (pc := 183) hx hb dL_isCup_183 rfl (lv_at hl 1 rfl) ?_
    refine lv_icmp_gt (pc := 184) (tgt := 191) hx hb dL_isCup_184 (by decide) (fun c9 => absurd c9 (Int32.not_lt.mpr hX.2.2.2.2.2.2.2)) (fun c_184 => ?_)
    refine lv_iconst (v := 1) (pc := 187) hx hb dL_isCup_187 (by decide) ?_
    refine lv_goto (tgt := 192) (pc := 188) hx hb dL_isCup_188 (by decide) ?_
    exact z_zret (pc := 192) hx hb hr hlk hQ hz rfl dL_isCup_192 (by rfl) (by rfl)
  · refine lv_iload_n (pc := 155) hx hb dL_isCup_155 rfl (lv_at hl 2 rfl) ?_
    refine lv_if_lt (pc := 156) (tgt := 191) hx hb dL_isCup_156 (by decide) (fun c9 => absurd c9 (Int32.not_lt.mpr (hX.2.2.2.2.2.1.resolve_left c_152).1)) (fun c_156 => ?_)
    refine lv_aload_n (pc := 159) hx hb dL_isCup_159 rfl (lv_at hl 3 rfl) ?_
    refine lv_iload_n (pc := 160) hx hb dL_isCup_160 rfl (lv_at hl 4 rfl) ?_
    refine lv_iconst (v := 5) (pc := 161) hx hb dL_isCup_161 (by decide) ?_
    refine z_runV (pc := 162) (As := [.int (nI k), .int 5]) (rest := []) (ws1 := w) ⟨hx, hb, hml, hown, hts⟩ (f_cw (l := l) (G := G) hF hci hk (w9 := 5) (by decide) (by decide)) (cwV 2 hts (zgoodV zsub wq_7_7 wq_7_8 wq_7_9 wq_1_2 wq_7_10) rfl rfl rfl hdV_X3_cup ⟨Nat.le_of_ble_eq_true rfl, Nat.le_of_ble_eq_true rfl⟩) hz [] zp_all zp_all' ew rfl rfl hl.1 (Nat.le_of_ble_eq_true rfl) (st1 := [.int (p.2 k 5)]) rfl dL_isCup_162 ⟨Nat.le_of_ble_eq_true rfl, Nat.le_of_ble_eq_true rfl⟩ (fun H locs hz => ?_)
    refine lv_if_ne (pc := 165) (tgt := 191) hx hb dL_isCup_165 (by decide) (fun c9 => absurd (hX.2.2.2.2.2.1.resolve_left c_152).2 c9) (fun c_165 => ?_)
    refine lv_iload_n (pc := 168) hx hb dL_isCup_168 rfl (lv_at hl 2 rfl) ?_
    refine lv_bipush (v := -5) (pc := 169) hx hb dL_isCup_169 (by decide) ?_
    refine lv_icmp_lt (pc := 171) (tgt := 191) hx hb dL_isCup_171 (by decide) (fun c9 => absurd c9 (Int32.not_lt.mpr hX.2.2.2.2.2.2.1.1)) (fun c_171 => ?_)
    refine lv_iload_n (pc := 174) hx hb dL_isCup_174 rfl (lv_at hl 2 rfl) ?_
    refine lv_sipush (v := 240) (pc := 175) hx hb dL_isCup_175 (by decide) ?_
    refine lv_icmp_ge (pc := 178) (tgt := 191) hx hb dL_isCup_178 (by decide) (fun c9 => absurd c9 (Int32.not_le.mpr hX.2.2.2.2.2.2.1.2)) (fun c_178 => ?_)
    refine lv_iload (pc := 181) hx hb dL_isCup_181 (lv_at hl 0 rfl) ?_
    refine lv_iload_n (pc := 183) hx hb dL_isCup_183 rfl (lv_at hl 1 rfl) ?_
    refine lv_icmp_gt (pc := 184) (tgt := 191) hx hb dL_isCup_184 (by decide) (fun c9 => absurd c9 (Int32.not_lt.mpr hX.2.2.2.2.2.2.2)) (fun c_184 => ?_)
    refine lv_iconst (v := 1) (pc := 187) hx hb dL_isCup_187 (by decide) ?_
    refine lv_goto (tgt := 192) (pc := 188) hx hb dL_isCup_188 (by decide) ?_
    exact z_zret (pc := 192) hx hb hr hlk hQ hz rfl dL_isCup_192 (by rfl) (by rfl)

def rm_L_holds : Room := { frames := 5, cells := 0, slots := 0, locals := 106 }
set_option maxRecDepth 20000 in
theorem hdV_L_holds : yL_holds.cls = RL ∧ yL_holds.cls ≠ "java/lang/invoke/MethodHandle" ∧ yL_holds.cls ≠ "java/lang/invoke/VarHandle" ∧ (parseMethodDescriptor yL_holds.desc).map (fun d => d.parameters.length) = some 1 := by decide +kernel
set_option maxHeartbeats 4000000 in
set_option maxRecDepth 100000 in
theorem k_L_holds (l : Launch) (G : va_G) (ca : Nat → ClassId) (o : Nat) (w : va_W) (p : HC) (K : Option HC) (hF : FW ca o p K w) {F : Nat} (hP : PI F p) : Zc l G ca yL_holds (zws yL_holds cL_holds 7 (some .boolean)) rm_L_holds [.ref o] w ((some (.int 1))) w := by
  refine Zc.of (cc := cL_holds) (maxL := 7) (ret := (some .boolean)) (by decide) rfl (Nat.le_of_ble_eq_true rfl) ?_
  intro pg ev s0 mt below meth cd A args Q ls hx hb hr hml hown hts hlk hQ hl hz
  have hl : lv_has ls 7 [(0, .ref o)] := hl
  obtain ⟨fs0, tl0, ew⟩ := hF.h1
  have hci := hP.1.1
  have hB := hiB hP
  have hH := hP.hour_lt
  refine lv_iconst (v := 0) (pc := 0) hx hb dL_holds_0 (by decide) ?_
  refine lv_istore_n (lv' := [(1, .int 0), (0, .ref o)]) (pc := 1) hx hb dL_holds_1 rfl hl (by decide) rfl (fun ls hl => ?_)
  refine lv_iconst (v := 0) (pc := 2) hx hb dL_holds_2 (by decide) ?_
  refine lv_istore_n (lv' := [(2, .int 0), (1, .int 0), (0, .ref o)]) (pc := 3) hx hb dL_holds_3 rfl hl (by decide) rfl (fun ls hl => ?_)
  refine lv_iconst (v := 0) (pc := 4) hx hb dL_holds_4 (by decide) ?_
  refine lv_istore_n (lv' := [(3, .int 0), (2, .int 0), (1, .int 0), (0, .ref o)]) (pc := 5) hx hb dL_holds_5 rfl hl (by decide) rfl (fun ls hl => ?_)
  refine lv_iconst (v := 0) (pc := 6) hx hb dL_holds_6 (by decide) ?_
  refine lv_istore (lv' := [(4, .int 0), (3, .int 0), (2, .int 0), (1, .int 0), (0, .ref o)]) (pc := 7) hx hb dL_holds_7 hl (by decide) rfl (fun ls hl => ?_)
  refine lv_aload_n (pc := 9) hx hb dL_holds_9 rfl (lv_at hl 4 rfl) ?_
  refine z_runV (pc := 10) (As := []) (rest := []) (ws1 := w) ⟨hx, hb, hml, hown, hts⟩ (f_highest (l := l) (G := G) hF hci) (cwV 0 hts (zgoodV zsub wq_7_1 wq_7_2 wq_7_3 wq_1_2 wq_7_4) rfl rfl rfl hdV_X3_highest ⟨Nat.le_of_ble_eq_true rfl, Nat.le_of_ble_eq_true rfl⟩) hz [] zp_all zp_all' ew rfl rfl hl.1 (Nat.le_of_ble_eq_true rfl) (st1 := [.int (khX p.2)]) rfl dL_holds_10 ⟨Nat.le_of_ble_eq_true rfl, Nat.le_of_ble_eq_true rfl⟩ (fun H locs hz => ?_)
  refine lv_istore (lv' := [(5, .int (khX p.2)), (4, .int 0), (3, .int 0), (2, .int 0), (1, .int 0), (0, .ref o)]) (pc := 13) hx hb dL_holds_13 hl (by decide) rfl (fun ls hl => ?_)
  refine lv_iconst (v := 0) (pc := 15) hx hb dL_holds_15 (by decide) ?_
  refine lv_istore (lv' := [(6, .int 0), (5, .int (khX p.2)), (4, .int 0), (3, .int 0), (2, .int 0), (1, .int 0), (0, .ref o)]) (pc := 16) hx hb dL_holds_16 hl (by decide) rfl (fun ls hl => ?_)
  have loop1 : ∀ cnt k : Nat, k + cnt = 8 → ∀ (H : Heap) (locs : List Loc) (ls : Array Slot), zw G ca A s0.heap s0 w H locs → lv_has ls 7 [(6, .int (nI k)), (1, .int (sumF p.2 3 k)), (2, .int (sumF p.2 8 k)), (3, .int (sumF p.2 9 k)), (4, .int (ffF p.2 k)), (5, .int (khX p.2)), (0, .ref o)] → W pg l ev rm_L_holds s0 mt args below meth cd H locs 0 0 Q (F0 mt 18 ls []) := by
    intro cnt
    induction cnt with
    | zero =>
      intro k hk9 H locs ls hz hl
      obtain rfl : 8 = k := by omega
      refine lv_iload (pc := 18) hx hb dL_holds_18 (lv_at hl 0 rfl) ?_
      refine lv_bipush (v := 8) (pc := 20) hx hb dL_holds_20 (by decide) ?_
      refine lv_icmp_ge (pc := 22) (tgt := 165) hx hb dL_holds_22 (by decide) (fun c_22 => ?_) (fun c9 => absurd (by decide) c9)
      refine lv_aload_n (pc := 165) hx hb dL_holds_165 rfl (lv_at hl 6 rfl) ?_
      refine lv_iconst (v := 5) (pc := 166) hx hb dL_holds_166 (by decide) ?_
      refine z_runV (pc := 167) (As := [.int 5]) (rest := []) (ws1 := w) ⟨hx, hb, hml, hown, hts⟩ (f_count (l := l) (G := G) hF hci (x := 5) (by decide) (by decide)) (cwV 1 hts (zgoodV zsub wq_8_11 wq_9_0 wq_9_1 wq_1_2 wq_9_2) rfl rfl rfl hdV_X3_count ⟨Nat.le_of_ble_eq_true rfl, Nat.le_of_ble_eq_true rfl⟩) hz [] zp_all zp_all' ew rfl rfl hl.1 (Nat.le_of_ble_eq_true rfl) (st1 := [.int (stellR p 5)]) rfl dL_holds_167 ⟨Nat.le_of_ble_eq_true rfl, Nat.le_of_ble_eq_true rfl⟩ (fun H locs hz => ?_)
      refine z_top (y := p.1 3) rfl ?_
      refine lv_aload_n (pc := 170) hx hb dL_holds_170 rfl (lv_at hl 6 rfl) ?_
      refine lv_bipush (v := 6) (pc := 171) hx hb dL_holds_171 (by decide) ?_
      refine z_runV (pc := 173) (As := [.int 6]) (rest := [.int (p.1 3)]) (ws1 := w) ⟨hx, hb, hml, hown, hts⟩ (f_count (l := l) (G := G) hF hci (x := 6) (by decide) (by decide)) (cwV 1 hts (zgoodV zsub wq_8_11 wq_9_0 wq_9_1 wq_1_2 wq_9_2) rfl rfl rfl hdV_X3_count ⟨Nat.le_of_ble_eq_true rfl, Nat.le_of_ble_eq_true rfl⟩) hz [] zp_all zp_all' ew rfl rfl hl.1 (Nat.le_of_ble_eq_true rfl) (st1 := [.int (stellR p 6), .int (p.1 3)]) rfl dL_holds_173 ⟨Nat.le_of_ble_eq_true rfl, Nat.le_of_ble_eq_true rfl⟩ (fun H locs hz => ?_)
      refine z_top (y := p.1 4) rfl ?_
      refine lv_iadd (pc := 176) hx hb dL_holds_176 ?_
      refine lv_iload_n (pc := 177) hx hb dL_holds_177 rfl (lv_at hl 1 rfl) ?_
      refine lv_aload_n (pc := 178) hx hb dL_holds_178 rfl (lv_at hl 6 rfl) ?_
      refine lv_iconst (v := 3) (pc := 179) hx hb dL_holds_179 (by decide) ?_
      refine z_runV (pc := 180) (As := [.int 3]) (rest := [.int (sumF p.2 3 8), .int ((p.1 3) + (p.1 4))]) (ws1 := w) ⟨hx, hb, hml, hown, hts⟩ (f_count (l := l) (G := G) hF hci (x := 3) (by decide) (by decide)) (cwV 1 hts (zgoodV zsub wq_8_11 wq_9_0 wq_9_1 wq_1_2 wq_9_2) rfl rfl rfl hdV_X3_count ⟨Nat.le_of_ble_eq_true rfl, Nat.le_of_ble_eq_true rfl⟩) hz [] zp_all zp_all' ew rfl rfl hl.1 (Nat.le_of_ble_eq_true rfl) (st1 := [.int (stellR p 3), .int (sumF p.2 3 8), .int ((p.1 3) + (p.1 4))]) rfl dL_holds_180 ⟨Nat.le_of_ble_eq_true rfl, Nat.le_of_ble_eq_true rfl⟩ (fun H locs hz => ?_)
      refine z_top (y := p.1 1) rfl ?_
      refine lv_iadd (pc := 183) hx hb dL_holds_183 ?_
      refine lv_aload_n (pc := 184) hx hb dL_holds_184 rfl (lv_at hl 6 rfl) ?_
      refine lv_iconst (v := 4) (pc := 185) hx hb dL_holds_185 (by decide) ?_
      refine z_runV (pc := 186) (As := [.int 4]) (rest := [.int ((sumF p.2 3 8) + (p.1 1)), .int ((p.1 3) + (p.1 4))]) (ws1 := w) ⟨hx, hb, hml, hown, hts⟩ (f_count (l := l) (G := G) hF hci (x := 4) (by decide) (by decide)) (cwV 1 hts (zgoodV zsub wq_8_11 wq_9_0 wq_9_1 wq_1_2 wq_9_2) rfl rfl rfl hdV_X3_count ⟨Nat.le_of_ble_eq_true rfl, Nat.le_of_ble_eq_true rfl⟩) hz [] zp_all zp_all' ew rfl rfl hl.1 (Nat.le_of_ble_eq_true rfl) (st1 := [.int (stellR p 4), .int ((sumF p.2 3 8) + (p.1 1)), .int ((p.1 3) + (p.1 4))]) rfl dL_holds_186 ⟨Nat.le_of_ble_eq_true rfl, Nat.le_of_ble_eq_true rfl⟩ (fun H locs hz => ?_)
      refine z_top (y := p.1 2) rfl ?_
      refine lv_iadd (pc := 189) hx hb dL_holds_189 ?_
      refine lv_icmp_ne (pc := 190) (tgt := 271) hx hb dL_holds_190 (by decide) (fun c9 => absurd hP.2.2.2 c9) (fun c_190 => ?_)
      refine lv_aload_n (pc := 193) hx hb dL_holds_193 rfl (lv_at hl 6 rfl) ?_
      refine lv_iconst (v := 2) (pc := 194) hx hb dL_holds_194 (by decide) ?_
      refine z_runV (pc := 195) (As := [.int 2]) (rest := []) (ws1 := w) ⟨hx, hb, hml, hown, hts⟩ (f_count (l := l) (G := G) hF hci (x := 2) (by decide) (by decide)) (cwV 1 hts (zgoodV zsub wq_8_11 wq_9_0 wq_9_1 wq_1_2 wq_9_2) rfl rfl rfl hdV_X3_count ⟨Nat.le_of_ble_eq_true rfl, Nat.le_of_ble_eq_true rfl⟩) hz [] zp_all zp_all' ew rfl rfl hl.1 (Nat.le_of_ble_eq_true rfl) (st1 := [.int (stellR p 2)]) rfl dL_holds_195 ⟨Nat.le_of_ble_eq_true rfl, Nat.le_of_ble_eq_true rfl⟩ (fun H locs hz => ?_)
      refine z_top (y := sumF p.2 3 8) (ts_eq p.2 (w := 3) (by decide) (by decide) 8) ?_
      refine lv_iload_n (pc := 198) hx hb dL_holds_198 rfl (lv_at hl 1 rfl) ?_
      refine lv_icmp_ne (pc := 199) (tgt := 271) hx hb dL_holds_199 (by decide) (fun c9 => absurd rfl c9) (fun c_199 => ?_)
      refine lv_aload_n (pc := 202) hx hb dL_holds_202 rfl (lv_at hl 6 rfl) ?_
      refine lv_bipush (v := 7) (pc := 203) hx hb dL_holds_203 (by decide) ?_
      refine z_runV (pc := 205) (As := [.int 7]) (rest := []) (ws1 := w) ⟨hx, hb, hml, hown, hts⟩ (f_count (l := l) (G := G) hF hci (x := 7) (by decide) (by decide)) (cwV 1 hts (zgoodV zsub wq_8_11 wq_9_0 wq_9_1 wq_1_2 wq_9_2) rfl rfl rfl hdV_X3_count ⟨Nat.le_of_ble_eq_true rfl, Nat.le_of_ble_eq_true rfl⟩) hz [] zp_all zp_all' ew rfl rfl hl.1 (Nat.le_of_ble_eq_true rfl) (st1 := [.int (stellR p 7)]) rfl dL_holds_205 ⟨Nat.le_of_ble_eq_true rfl, Nat.le_of_ble_eq_true rfl⟩ (fun H locs hz => ?_)
      refine z_top (y := sumF p.2 8 8) (ts_eq p.2 (w := 8) (by decide) (by decide) 8) ?_
      refine lv_iload_n (pc := 208) hx hb dL_holds_208 rfl (lv_at hl 2 rfl) ?_
      refine lv_icmp_ne (pc := 209) (tgt := 271) hx hb dL_holds_209 (by decide) (fun c9 => absurd rfl c9) (fun c_209 => ?_)
      refine lv_aload_n (pc := 212) hx hb dL_holds_212 rfl (lv_at hl 6 rfl) ?_
      refine lv_bipush (v := 8) (pc := 213) hx hb dL_holds_213 (by decide) ?_
      refine z_runV (pc := 215) (As := [.int 8]) (rest := []) (ws1 := w) ⟨hx, hb, hml, hown, hts⟩ (f_count (l := l) (G := G) hF hci (x := 8) (by decide) (by decide)) (cwV 1 hts (zgoodV zsub wq_8_11 wq_9_0 wq_9_1 wq_1_2 wq_9_2) rfl rfl rfl hdV_X3_count ⟨Nat.le_of_ble_eq_true rfl, Nat.le_of_ble_eq_true rfl⟩) hz [] zp_all zp_all' ew rfl rfl hl.1 (Nat.le_of_ble_eq_true rfl) (st1 := [.int (stellR p 8)]) rfl dL_holds_215 ⟨Nat.le_of_ble_eq_true rfl, Nat.le_of_ble_eq_true rfl⟩ (fun H locs hz => ?_)
      refine z_top (y := sumF p.2 9 8) (ts_eq p.2 (w := 9) (by decide) (by decide) 8) ?_
      refine lv_iload_n (pc := 218) hx hb dL_holds_218 rfl (lv_at hl 3 rfl) ?_
      refine lv_icmp_ne (pc := 219) (tgt := 271) hx hb dL_holds_219 (by decide) (fun c9 => absurd rfl c9) (fun c_219 => ?_)
      refine lv_aload_n (pc := 222) hx hb dL_holds_222 rfl (lv_at hl 6 rfl) ?_
      refine lv_bipush (v := 9) (pc := 223) hx hb dL_holds_223 (by decide) ?_
      refine z_runV (pc := 225) (As := [.int 9]) (rest := []) (ws1 := w) ⟨hx, hb, hml, hown, hts⟩ (f_count (l := l) (G := G) hF hci (x := 9) (by decide) (by decide)) (cwV 1 hts (zgoodV zsub wq_8_11 wq_9_0 wq_9_1 wq_1_2 wq_9_2) rfl rfl rfl hdV_X3_count ⟨Nat.le_of_ble_eq_true rfl, Nat.le_of_ble_eq_true rfl⟩) hz [] zp_all zp_all' ew rfl rfl hl.1 (Nat.le_of_ble_eq_true rfl) (st1 := [.int (stellR p 9)]) rfl dL_holds_225 ⟨Nat.le_of_ble_eq_true rfl, Nat.le_of_ble_eq_true rfl⟩ (fun H locs hz => ?_)
      refine z_top (y := ffF p.2 8) (tff_eq p.2 8) ?_
      refine lv_iload (pc := 228) hx hb dL_holds_228 (lv_at hl 4 rfl) ?_
      refine lv_icmp_ne (pc := 230) (tgt := 271) hx hb dL_holds_230 (by decide) (fun c9 => absurd rfl c9) (fun c_230 => ?_)
      refine lv_aload_n (pc := 233) hx hb dL_holds_233 rfl (lv_at hl 6 rfl) ?_
      refine lv_iconst (v := 1) (pc := 234) hx hb dL_holds_234 (by decide) ?_
      refine z_runV (pc := 235) (As := [.int 1]) (rest := []) (ws1 := w) ⟨hx, hb, hml, hown, hts⟩ (f_count (l := l) (G := G) hF hci (x := 1) (by decide) (by decide)) (cwV 1 hts (zgoodV zsub wq_8_11 wq_9_0 wq_9_1 wq_1_2 wq_9_2) rfl rfl rfl hdV_X3_count ⟨Nat.le_of_ble_eq_true rfl, Nat.le_of_ble_eq_true rfl⟩) hz [] zp_all zp_all' ew rfl rfl hl.1 (Nat.le_of_ble_eq_true rfl) (st1 := [.int (stellR p 1)]) rfl dL_holds_235 ⟨Nat.le_of_ble_eq_true rfl, Nat.le_of_ble_eq_true rfl⟩ (fun H locs hz => ?_)
      refine z_top (y := hourP p) (hour_eq hci) ?_
      refine lv_aload_n (pc := 238) hx hb dL_holds_238 rfl (lv_at hl 6 rfl) ?_
      refine lv_iconst (v := 0) (pc := 239) hx hb dL_holds_239 (by decide) ?_
      refine z_runV (pc := 240) (As := [.int 0]) (rest := [.int (hourP p)]) (ws1 := w) ⟨hx, hb, hml, hown, hts⟩ (f_count (l := l) (G := G) hF hci (x := 0) (by decide) (by decide)) (cwV 1 hts (zgoodV zsub wq_8_11 wq_9_0 wq_9_1 wq_1_2 wq_9_2) rfl rfl rfl hdV_X3_count ⟨Nat.le_of_ble_eq_true rfl, Nat.le_of_ble_eq_true rfl⟩) hz [] zp_all zp_all' ew rfl rfl hl.1 (Nat.le_of_ble_eq_true rfl) (st1 := [.int (stellR p 0), .int (hourP p)]) rfl dL_holds_240 ⟨Nat.le_of_ble_eq_true rfl, Nat.le_of_ble_eq_true rfl⟩ (fun H locs hz => ?_)
      refine z_top (y := p.1 0) rfl ?_
      refine lv_aload_n (pc := 243) hx hb dL_holds_243 rfl (lv_at hl 6 rfl) ?_
      refine lv_bipush (v := 12) (pc := 244) hx hb dL_holds_244 (by decide) ?_
      refine z_runV (pc := 246) (As := [.int 12]) (rest := [.int (p.1 0), .int (hourP p)]) (ws1 := w) ⟨hx, hb, hml, hown, hts⟩ (f_count (l := l) (G := G) hF hci (x := 12) (by decide) (by decide)) (cwV 1 hts (zgoodV zsub wq_8_11 wq_9_0 wq_9_1 wq_1_2 wq_9_2) rfl rfl rfl hdV_X3_count ⟨Nat.le_of_ble_eq_true rfl, Nat.le_of_ble_eq_true rfl⟩) hz [] zp_all zp_all' ew rfl rfl hl.1 (Nat.le_of_ble_eq_true rfl) (st1 := [.int (stellR p 12), .int (p.1 0), .int (hourP p)]) rfl dL_holds_246 ⟨Nat.le_of_ble_eq_true rfl, Nat.le_of_ble_eq_true rfl⟩ (fun H locs hz => ?_)
      refine z_top (y := p.1 7) rfl ?_
      refine lv_irem (pc := 249) hx hb dL_holds_249 hci.ok.1 ?_
      refine lv_icmp_ne (pc := 250) (tgt := 271) hx hb dL_holds_250 (by decide) (fun c9 => absurd rfl c9) (fun c_250 => ?_)
      refine lv_aload_n (pc := 253) hx hb dL_holds_253 rfl (lv_at hl 6 rfl) ?_
      refine lv_iconst (v := 1) (pc := 254) hx hb dL_holds_254 (by decide) ?_
      refine z_runV (pc := 255) (As := [.int 1]) (rest := []) (ws1 := w) ⟨hx, hb, hml, hown, hts⟩ (f_count (l := l) (G := G) hF hci (x := 1) (by decide) (by decide)) (cwV 1 hts (zgoodV zsub wq_8_11 wq_9_0 wq_9_1 wq_1_2 wq_9_2) rfl rfl rfl hdV_X3_count ⟨Nat.le_of_ble_eq_true rfl, Nat.le_of_ble_eq_true rfl⟩) hz [] zp_all zp_all' ew rfl rfl hl.1 (Nat.le_of_ble_eq_true rfl) (st1 := [.int (stellR p 1)]) rfl dL_holds_255 ⟨Nat.le_of_ble_eq_true rfl, Nat.le_of_ble_eq_true rfl⟩ (fun H locs hz => ?_)
      refine z_top (y := hourP p) (hour_eq hci) ?_
      refine lv_aload_n (pc := 258) hx hb dL_holds_258 rfl (lv_at hl 6 rfl) ?_
      refine lv_bipush (v := 12) (pc := 259) hx hb dL_holds_259 (by decide) ?_
      refine z_runV (pc := 261) (As := [.int 12]) (rest := [.int (hourP p)]) (ws1 := w) ⟨hx, hb, hml, hown, hts⟩ (f_count (l := l) (G := G) hF hci (x := 12) (by decide) (by decide)) (cwV 1 hts (zgoodV zsub wq_8_11 wq_9_0 wq_9_1 wq_1_2 wq_9_2) rfl rfl rfl hdV_X3_count ⟨Nat.le_of_ble_eq_true rfl, Nat.le_of_ble_eq_true rfl⟩) hz [] zp_all zp_all' ew rfl rfl hl.1 (Nat.le_of_ble_eq_true rfl) (st1 := [.int (stellR p 12), .int (hourP p)]) rfl dL_holds_261 ⟨Nat.le_of_ble_eq_true rfl, Nat.le_of_ble_eq_true rfl⟩ (fun H locs hz => ?_)
      refine z_top (y := p.1 7) rfl ?_
      refine lv_icmp_ge (pc := 264) (tgt := 271) hx hb dL_holds_264 (by decide) (fun c9 => absurd c9 hH) (fun c_264 => ?_)
      refine lv_iconst (v := 1) (pc := 267) hx hb dL_holds_267 (by decide) ?_
      refine lv_goto (tgt := 272) (pc := 268) hx hb dL_holds_268 (by decide) ?_
      exact z_zret (pc := 272) hx hb hr hlk hQ hz rfl dL_holds_272 (by rfl) (by rfl)
    | succ cnt ih =>
      intro k hk9 H locs ls hz hl
      have hk : k < 8 := by omega
      refine lv_iload (pc := 18) hx hb dL_holds_18 (lv_at hl 0 rfl) ?_
      refine lv_bipush (v := 8) (pc := 20) hx hb dL_holds_20 (by decide) ?_
      refine lv_icmp_ge (pc := 22) (tgt := 165) hx hb dL_holds_22 (by decide) (fun c9 => absurd c9 (nI_ge hk (by decide))) (fun c_22 => ?_)
      refine lv_iload_n (pc := 25) hx hb dL_holds_25 rfl (lv_at hl 1 rfl) ?_
      refine lv_aload_n (pc := 26) hx hb dL_holds_26 rfl (lv_at hl 6 rfl) ?_
      refine lv_iload (pc := 27) hx hb dL_holds_27 (lv_at hl 0 rfl) ?_
      refine lv_iconst (v := 3) (pc := 29) hx hb dL_holds_29 (by decide) ?_
      refine z_runV (pc := 30) (As := [.int (nI k), .int 3]) (rest := [.int (sumF p.2 3 k)]) (ws1 := w) ⟨hx, hb, hml, hown, hts⟩ (f_cw (l := l) (G := G) hF hci hk (w9 := 3) (by decide) (by decide)) (cwV 2 hts (zgoodV zsub wq_7_7 wq_7_8 wq_7_9 wq_1_2 wq_7_10) rfl rfl rfl hdV_X3_cup ⟨Nat.le_of_ble_eq_true rfl, Nat.le_of_ble_eq_true rfl⟩) hz [] zp_all zp_all' ew rfl rfl hl.1 (Nat.le_of_ble_eq_true rfl) (st1 := [.int (p.2 k 3), .int (sumF p.2 3 k)]) rfl dL_holds_30 ⟨Nat.le_of_ble_eq_true rfl, Nat.le_of_ble_eq_true rfl⟩ (fun H locs hz => ?_)
      refine lv_iadd (pc := 33) hx hb dL_holds_33 ?_
      refine lv_istore_n (lv' := [(1, .int ((sumF p.2 3 k) + (p.2 k 3))), (6, .int (nI k)), (2, .int (sumF p.2 8 k)), (3, .int (sumF p.2 9 k)), (4, .int (ffF p.2 k)), (5, .int (khX p.2)), (0, .ref o)]) (pc := 34) hx hb dL_holds_34 rfl hl (by decide) rfl (fun ls hl => ?_)
      refine lv_iload_n (pc := 35) hx hb dL_holds_35 rfl (lv_at hl 2 rfl) ?_
      refine lv_aload_n (pc := 36) hx hb dL_holds_36 rfl (lv_at hl 6 rfl) ?_
      refine lv_iload (pc := 37) hx hb dL_holds_37 (lv_at hl 1 rfl) ?_
      refine lv_bipush (v := 8) (pc := 39) hx hb dL_holds_39 (by decide) ?_
      refine z_runV (pc := 41) (As := [.int (nI k), .int 8]) (rest := [.int (sumF p.2 8 k)]) (ws1 := w) ⟨hx, hb, hml, hown, hts⟩ (f_cw (l := l) (G := G) hF hci hk (w9 := 8) (by decide) (by decide)) (cwV 2 hts (zgoodV zsub wq_7_7 wq_7_8 wq_7_9 wq_1_2 wq_7_10) rfl rfl rfl hdV_X3_cup ⟨Nat.le_of_ble_eq_true rfl, Nat.le_of_ble_eq_true rfl⟩) hz [] zp_all zp_all' ew rfl rfl hl.1 (Nat.le_of_ble_eq_true rfl) (st1 := [.int (p.2 k 8), .int (sumF p.2 8 k)]) rfl dL_holds_41 ⟨Nat.le_of_ble_eq_true rfl, Nat.le_of_ble_eq_true rfl⟩ (fun H locs hz => ?_)
      refine lv_iadd (pc := 44) hx hb dL_holds_44 ?_
      refine lv_istore_n (lv' := [(2, .int ((sumF p.2 8 k) + (p.2 k 8))), (1, .int ((sumF p.2 3 k) + (p.2 k 3))), (6, .int (nI k)), (3, .int (sumF p.2 9 k)), (4, .int (ffF p.2 k)), (5, .int (khX p.2)), (0, .ref o)]) (pc := 45) hx hb dL_holds_45 rfl hl (by decide) rfl (fun ls hl => ?_)
      refine lv_iload_n (pc := 46) hx hb dL_holds_46 rfl (lv_at hl 3 rfl) ?_
      refine lv_aload_n (pc := 47) hx hb dL_holds_47 rfl (lv_at hl 6 rfl) ?_
      refine lv_iload (pc := 48) hx hb dL_holds_48 (lv_at hl 2 rfl) ?_
      refine lv_bipush (v := 9) (pc := 50) hx hb dL_holds_50 (by decide) ?_
      refine z_runV (pc := 52) (As := [.int (nI k), .int 9]) (rest := [.int (sumF p.2 9 k)]) (ws1 := w) ⟨hx, hb, hml, hown, hts⟩ (f_cw (l := l) (G := G) hF hci hk (w9 := 9) (by decide) (by decide)) (cwV 2 hts (zgoodV zsub wq_7_7 wq_7_8 wq_7_9 wq_1_2 wq_7_10) rfl rfl rfl hdV_X3_cup ⟨Nat.le_of_ble_eq_true rfl, Nat.le_of_ble_eq_true rfl⟩) hz [] zp_all zp_all' ew rfl rfl hl.1 (Nat.le_of_ble_eq_true rfl) (st1 := [.int (p.2 k 9), .int (sumF p.2 9 k)]) rfl dL_holds_52 ⟨Nat.le_of_ble_eq_true rfl, Nat.le_of_ble_eq_true rfl⟩ (fun H locs hz => ?_)
      refine lv_iadd (pc := 55) hx hb dL_holds_55 ?_
      refine lv_istore_n (lv' := [(3, .int ((sumF p.2 9 k) + (p.2 k 9))), (2, .int ((sumF p.2 8 k) + (p.2 k 8))), (1, .int ((sumF p.2 3 k) + (p.2 k 3))), (6, .int (nI k)), (4, .int (ffF p.2 k)), (5, .int (khX p.2)), (0, .ref o)]) (pc := 56) hx hb dL_holds_56 rfl hl (by decide) rfl (fun ls hl => ?_)
      refine lv_iload (pc := 57) hx hb dL_holds_57 (lv_at hl 4 rfl) ?_
      refine lv_aload_n (pc := 59) hx hb dL_holds_59 rfl (lv_at hl 6 rfl) ?_
      refine lv_iload (pc := 60) hx hb dL_holds_60 (lv_at hl 3 rfl) ?_
      refine lv_iconst (v := 3) (pc := 62) hx hb dL_holds_62 (by decide) ?_
      refine z_runV (pc := 63) (As := [.int (nI k), .int 3]) (rest := [.int (ffF p.2 k)]) (ws1 := w) ⟨hx, hb, hml, hown, hts⟩ (f_cw (l := l) (G := G) hF hci hk (w9 := 3) (by decide) (by decide)) (cwV 2 hts (zgoodV zsub wq_7_7 wq_7_8 wq_7_9 wq_1_2 wq_7_10) rfl rfl rfl hdV_X3_cup ⟨Nat.le_of_ble_eq_true rfl, Nat.le_of_ble_eq_true rfl⟩) hz [] zp_all zp_all' ew rfl rfl hl.1 (Nat.le_of_ble_eq_true rfl) (st1 := [.int (p.2 k 3), .int (ffF p.2 k)]) rfl dL_holds_63 ⟨Nat.le_of_ble_eq_true rfl, Nat.le_of_ble_eq_true rfl⟩ (fun H locs hz => ?_)
      refine lv_aload_n (pc := 66) hx hb dL_holds_66 rfl (lv_at hl 6 rfl) ?_
      refine lv_iload (pc := 67) hx hb dL_holds_67 (lv_at hl 3 rfl) ?_
      refine lv_iconst (v := 0) (pc := 69) hx hb dL_holds_69 (by decide) ?_
      refine z_runV (pc := 70) (As := [.int (nI k), .int 0]) (rest := [.int (p.2 k 3), .int (ffF p.2 k)]) (ws1 := w) ⟨hx, hb, hml, hown, hts⟩ (f_cw (l := l) (G := G) hF hci hk (w9 := 0) (by decide) (by decide)) (cwV 2 hts (zgoodV zsub wq_7_7 wq_7_8 wq_7_9 wq_1_2 wq_7_10) rfl rfl rfl hdV_X3_cup ⟨Nat.le_of_ble_eq_true rfl, Nat.le_of_ble_eq_true rfl⟩) hz [] zp_all zp_all' ew rfl rfl hl.1 (Nat.le_of_ble_eq_true rfl) (st1 := [.int (p.2 k 0), .int (p.2 k 3), .int (ffF p.2 k)]) rfl dL_holds_70 ⟨Nat.le_of_ble_eq_true rfl, Nat.le_of_ble_eq_true rfl⟩ (fun H locs hz => ?_)
      have J2 : ∀ (H : Heap) (locs : List Loc) (ls : Array Slot), zw G ca A s0.heap s0 w H locs → lv_has ls 7 [(3, .int ((sumF p.2 9 k) + (p.2 k 9))), (2, .int ((sumF p.2 8 k) + (p.2 k 8))), (1, .int ((sumF p.2 3 k) + (p.2 k 3))), (6, .int (nI k)), (4, .int (ffF p.2 k)), (5, .int (khX p.2)), (0, .ref o)] → W pg l ev rm_L_holds s0 mt args below meth cd H locs 0 0 Q (F0 mt 81 ls [.int (fullF p.2 k), .int (ffF p.2 k)]) := by
        intro H locs ls hz hl
        refine lv_iadd (pc := 81) hx hb dL_holds_81 ?_
        refine lv_istore (lv' := [(4, .int ((ffF p.2 k) + (fullF p.2 k))), (3, .int ((sumF p.2 9 k) + (p.2 k 9))), (2, .int ((sumF p.2 8 k) + (p.2 k 8))), (1, .int ((sumF p.2 3 k) + (p.2 k 3))), (6, .int (nI k)), (5, .int (khX p.2)), (0, .ref o)]) (pc := 82) hx hb dL_holds_82 hl (by decide) rfl (fun ls hl => ?_)
        refine lv_aload_n (pc := 84) hx hb dL_holds_84 rfl (lv_at hl 6 rfl) ?_
        refine lv_iload (pc := 85) hx hb dL_holds_85 (lv_at hl 4 rfl) ?_
        refine z_runS (pc := 87) (As := [.ref o, .int (nI k)]) (rest := []) (ws1 := w) ⟨hx, hb, hml, hown, hts⟩ (k_L_isCup l G ca o w p K hF hci k hk (hP.row hk)) (cwS 2 hts (zgoodS zsub wq_8_9 wq_8_10 wq_7_0 wq_30_0) rfl rfl rfl hdV_L_isCup ⟨Nat.le_of_ble_eq_true rfl, Nat.le_of_ble_eq_true rfl⟩) hz [] zp_all zp_all' rfl hl.1 (Nat.le_of_ble_eq_true rfl) (st1 := [.int 1]) rfl dL_holds_87 ⟨Nat.le_of_ble_eq_true rfl, Nat.le_of_ble_eq_true rfl⟩ (fun H locs hz => ?_)
        refine lv_if_eq (pc := 90) (tgt := 157) hx hb dL_holds_90 (by decide) (fun c9 => absurd c9 (by decide)) (fun c_90 => ?_)
        refine lv_iload (pc := 93) hx hb dL_holds_93 (lv_at hl 5 rfl) ?_
        refine lv_if_ge (pc := 95) (tgt := 112) hx hb dL_holds_95 (by decide) (fun c_95 => ?_) (fun c_95 => ?_)
        · obtain ⟨b, hb8, eb, hbk⟩ := hB.resolve_left (fun z => by rw [z.1] at c_95; exact absurd c_95 (by decide))
          refine lv_aload_n (pc := 112) hx hb dL_holds_112 rfl (lv_at hl 6 rfl) ?_
          refine lv_iload (pc := 113) hx hb dL_holds_113 (lv_at hl 4 rfl) ?_
          refine lv_bipush (v := 7) (pc := 115) hx hb dL_holds_115 (by decide) ?_
          refine z_runV (pc := 117) (As := [.int (nI k), .int 7]) (rest := []) (ws1 := w) ⟨hx, hb, hml, hown, hts⟩ (f_cw (l := l) (G := G) hF hci hk (w9 := 7) (by decide) (by decide)) (cwV 2 hts (zgoodV zsub wq_7_7 wq_7_8 wq_7_9 wq_1_2 wq_7_10) rfl rfl rfl hdV_X3_cup ⟨Nat.le_of_ble_eq_true rfl, Nat.le_of_ble_eq_true rfl⟩) hz [] zp_all zp_all' ew rfl rfl hl.1 (Nat.le_of_ble_eq_true rfl) (st1 := [.int (p.2 k 7)]) rfl dL_holds_117 ⟨Nat.le_of_ble_eq_true rfl, Nat.le_of_ble_eq_true rfl⟩ (fun H locs hz => ?_)
          refine lv_aload_n (pc := 120) hx hb dL_holds_120 rfl (lv_at hl 6 rfl) ?_
          refine lv_iload (pc := 121) hx hb dL_holds_121 (lv_at hl 5 rfl) ?_
          refine z_top (y := nI b) eb ?_
          refine lv_bipush (v := 7) (pc := 123) hx hb dL_holds_123 (by decide) ?_
          refine z_runV (pc := 125) (As := [.int (nI b), .int 7]) (rest := [.int (p.2 k 7)]) (ws1 := w) ⟨hx, hb, hml, hown, hts⟩ (f_cw (l := l) (G := G) hF hci hb8 (w9 := 7) (by decide) (by decide)) (cwV 2 hts (zgoodV zsub wq_7_7 wq_7_8 wq_7_9 wq_1_2 wq_7_10) rfl rfl rfl hdV_X3_cup ⟨Nat.le_of_ble_eq_true rfl, Nat.le_of_ble_eq_true rfl⟩) hz [] zp_all zp_all' ew rfl rfl hl.1 (Nat.le_of_ble_eq_true rfl) (st1 := [.int (p.2 b 7), .int (p.2 k 7)]) rfl dL_holds_125 ⟨Nat.le_of_ble_eq_true rfl, Nat.le_of_ble_eq_true rfl⟩ (fun H locs hz => ?_)
          refine lv_icmp_gt (pc := 128) (tgt := 157) hx hb dL_holds_128 (by decide) (fun c9 => absurd c9 (Int32.not_lt.mpr (hbk k hk).1)) (fun c_128 => ?_)
          refine lv_iload (pc := 131) hx hb dL_holds_131 (lv_at hl 4 rfl) ?_
          refine lv_iload (pc := 133) hx hb dL_holds_133 (lv_at hl 5 rfl) ?_
          refine lv_icmp_ge (pc := 135) (tgt := 159) hx hb dL_holds_135 (by decide) (fun c_135 => ?_) (fun c_135 => ?_)
          · refine lv_iinc (v := nI (k + 1)) (lv' := [(6, .int (nI (k + 1))), (4, .int ((ffF p.2 k) + (fullF p.2 k))), (3, .int ((sumF p.2 9 k) + (p.2 k 9))), (2, .int ((sumF p.2 8 k) + (p.2 k 8))), (1, .int ((sumF p.2 3 k) + (p.2 k 3))), (5, .int (khX p.2)), (0, .ref o)]) (pc := 159) hx hb dL_holds_159 hl (k := 4) rfl (nI_add k 1) (by decide) rfl (fun ls hl => ?_)
            refine lv_goto (tgt := 18) (pc := 162) hx hb dL_holds_162 (by decide) ?_
            exact ih (k + 1) (by omega) _ _ _ hz (lv_sub hl [0, 4, 3, 2, 1, 5, 6] rfl)
          · have hkb : k < b := by rw [eb] at c_135; exact Nat.lt_of_not_le (fun z => c_135 (nI_le z (by omega)))
            refine lv_aload_n (pc := 138) hx hb dL_holds_138 rfl (lv_at hl 6 rfl) ?_
            refine lv_iload (pc := 139) hx hb dL_holds_139 (lv_at hl 4 rfl) ?_
            refine lv_bipush (v := 7) (pc := 141) hx hb dL_holds_141 (by decide) ?_
            refine z_runV (pc := 143) (As := [.int (nI k), .int 7]) (rest := []) (ws1 := w) ⟨hx, hb, hml, hown, hts⟩ (f_cw (l := l) (G := G) hF hci hk (w9 := 7) (by decide) (by decide)) (cwV 2 hts (zgoodV zsub wq_7_7 wq_7_8 wq_7_9 wq_1_2 wq_7_10) rfl rfl rfl hdV_X3_cup ⟨Nat.le_of_ble_eq_true rfl, Nat.le_of_ble_eq_true rfl⟩) hz [] zp_all zp_all' ew rfl rfl hl.1 (Nat.le_of_ble_eq_true rfl) (st1 := [.int (p.2 k 7)]) rfl dL_holds_143 ⟨Nat.le_of_ble_eq_true rfl, Nat.le_of_ble_eq_true rfl⟩ (fun H locs hz => ?_)
            refine lv_aload_n (pc := 146) hx hb dL_holds_146 rfl (lv_at hl 6 rfl) ?_
            refine lv_iload (pc := 147) hx hb dL_holds_147 (lv_at hl 5 rfl) ?_
            refine z_top (y := nI b) eb ?_
            refine lv_bipush (v := 7) (pc := 149) hx hb dL_holds_149 (by decide) ?_
            refine z_runV (pc := 151) (As := [.int (nI b), .int 7]) (rest := [.int (p.2 k 7)]) (ws1 := w) ⟨hx, hb, hml, hown, hts⟩ (f_cw (l := l) (G := G) hF hci hb8 (w9 := 7) (by decide) (by decide)) (cwV 2 hts (zgoodV zsub wq_7_7 wq_7_8 wq_7_9 wq_1_2 wq_7_10) rfl rfl rfl hdV_X3_cup ⟨Nat.le_of_ble_eq_true rfl, Nat.le_of_ble_eq_true rfl⟩) hz [] zp_all zp_all' ew rfl rfl hl.1 (Nat.le_of_ble_eq_true rfl) (st1 := [.int (p.2 b 7), .int (p.2 k 7)]) rfl dL_holds_151 ⟨Nat.le_of_ble_eq_true rfl, Nat.le_of_ble_eq_true rfl⟩ (fun H locs hz => ?_)
            refine lv_icmp_ne (pc := 154) (tgt := 159) hx hb dL_holds_154 (by decide) (fun c_154 => ?_) (fun c9 => absurd c9 ((hbk k hk).2 hkb))
            refine lv_iinc (v := nI (k + 1)) (lv' := [(6, .int (nI (k + 1))), (4, .int ((ffF p.2 k) + (fullF p.2 k))), (3, .int ((sumF p.2 9 k) + (p.2 k 9))), (2, .int ((sumF p.2 8 k) + (p.2 k 8))), (1, .int ((sumF p.2 3 k) + (p.2 k 3))), (5, .int (khX p.2)), (0, .ref o)]) (pc := 159) hx hb dL_holds_159 hl (k := 4) rfl (nI_add k 1) (by decide) rfl (fun ls hl => ?_)
            refine lv_goto (tgt := 18) (pc := 162) hx hb dL_holds_162 (by decide) ?_
            exact ih (k + 1) (by omega) _ _ _ hz (lv_sub hl [0, 4, 3, 2, 1, 5, 6] rfl)
        · have hz0 : p.2 k 7 ≤ 0 := (hB.resolve_right (fun z => by obtain ⟨b, hb8, e, -⟩ := z; exact c_95 (by rw [e]; exact nI_0le (by omega)))).2 k hk
          refine lv_aload_n (pc := 98) hx hb dL_holds_98 rfl (lv_at hl 6 rfl) ?_
          refine lv_iload (pc := 99) hx hb dL_holds_99 (lv_at hl 4 rfl) ?_
          refine lv_bipush (v := 7) (pc := 101) hx hb dL_holds_101 (by decide) ?_
          refine z_runV (pc := 103) (As := [.int (nI k), .int 7]) (rest := []) (ws1 := w) ⟨hx, hb, hml, hown, hts⟩ (f_cw (l := l) (G := G) hF hci hk (w9 := 7) (by decide) (by decide)) (cwV 2 hts (zgoodV zsub wq_7_7 wq_7_8 wq_7_9 wq_1_2 wq_7_10) rfl rfl rfl hdV_X3_cup ⟨Nat.le_of_ble_eq_true rfl, Nat.le_of_ble_eq_true rfl⟩) hz [] zp_all zp_all' ew rfl rfl hl.1 (Nat.le_of_ble_eq_true rfl) (st1 := [.int (p.2 k 7)]) rfl dL_holds_103 ⟨Nat.le_of_ble_eq_true rfl, Nat.le_of_ble_eq_true rfl⟩ (fun H locs hz => ?_)
          refine lv_if_le (pc := 106) (tgt := 159) hx hb dL_holds_106 (by decide) (fun c_106 => ?_) (fun c9 => absurd hz0 c9)
          refine lv_iinc (v := nI (k + 1)) (lv' := [(6, .int (nI (k + 1))), (4, .int ((ffF p.2 k) + (fullF p.2 k))), (3, .int ((sumF p.2 9 k) + (p.2 k 9))), (2, .int ((sumF p.2 8 k) + (p.2 k 8))), (1, .int ((sumF p.2 3 k) + (p.2 k 3))), (5, .int (khX p.2)), (0, .ref o)]) (pc := 159) hx hb dL_holds_159 hl (k := 4) rfl (nI_add k 1) (by decide) rfl (fun ls hl => ?_)
          refine lv_goto (tgt := 18) (pc := 162) hx hb dL_holds_162 (by decide) ?_
          exact ih (k + 1) (by omega) _ _ _ hz (lv_sub hl [0, 4, 3, 2, 1, 5, 6] rfl)
      refine lv_icmp_lt (pc := 73) (tgt := 80) hx hb dL_holds_73 (by decide) (fun c_73 => ?_) (fun c_73 => ?_)
      · refine lv_iconst (v := 0) (pc := 80) hx hb dL_holds_80 (by decide) ?_
        exact z_top (by simp only [fullF, if_pos c_73]) (J2 _ _ _ hz (lv_sub hl [0, 1, 2, 3, 4, 5, 6] rfl))
      · refine lv_iconst (v := 1) (pc := 76) hx hb dL_holds_76 (by decide) ?_
        refine lv_goto (tgt := 81) (pc := 77) hx hb dL_holds_77 (by decide) ?_
        exact z_top (by simp only [fullF, if_neg c_73]) (J2 _ _ _ hz (lv_sub hl [0, 1, 2, 3, 4, 5, 6] rfl))
  exact loop1 8 0 (by omega) _ _ _ hz (lv_sub hl [0, 5, 4, 3, 2, 1, 6] rfl)
