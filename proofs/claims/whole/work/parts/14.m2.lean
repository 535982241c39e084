def rm_X4_tick : Room := { frames := 3, cells := 0, slots := 0, locals := 72 }
set_option maxRecDepth 20000 in
theorem hdV_X4_tick : yX4_tick.cls = RX4 ∧ yX4_tick.cls ≠ "java/lang/invoke/MethodHandle" ∧ yX4_tick.cls ≠ "java/lang/invoke/VarHandle" ∧ (parseMethodDescriptor yX4_tick.desc).map (fun d => d.parameters.length) = some 0 := by decide +kernel
set_option maxHeartbeats 4000000 in
set_option maxRecDepth 100000 in
theorem k_X4_tick (l : Launch) (G : va_G) (ca : Nat → ClassId) (a : Nat → Nat) (f h : Nat → Int32) (c : Nat → Nat → Int32) (hi sn be tx ti : Nat → Int32) (hok : okP (h, c)) : Zc l G ca yX4_tick (zws yX4_tick cX4_tick 5 none) rm_X4_tick [.ref (a 0)] (mm ca a f h c hi sn be tx ti) none (mm ca a f ((tickP (h, c)).1) ((tickP (h, c)).2) hi sn be tx (tickT (h, c) ti)) := by
  refine Zc.of (cc := cX4_tick) (maxL := 5) (ret := none) (by decide) rfl (Nat.le_of_ble_eq_true rfl) ?_
  intro pg ev s0 mt below meth cd A args Q ls hx hb hr hml hown hts hlk hQ hl hz
  have L7 : (Cond.fieldLink RX4 7 "CupFountainModel" "s" "[I").before args s0 = true := hts _ (zsub _ wq_4_5)
  have hinX4 : ∀ w ∈ wsX40, w ∈ zws yX4_tick cX4_tick 5 none := fun w h => zsub w (wl_wsX40 w h)
  have hl : lv_has ls 5 [(0, .ref (a 0))] := hl
  refine lv_aload_n (pc := 0) hx hb dX4_tick_0 rfl (lv_at hl 0 rfl) ?_
  refine lv_aload_n (pc := 1) hx hb dX4_tick_1 rfl (lv_at hl 0 rfl) ?_
  refine z_get (own := RX4) (ref := "CupFountainModel") (C := RX4) (T := TX4) (N := 17) (ci := 4) (v := .ref (a 1)) (pc := 2) hx hb hts hinX4 hown hz 0 rfl rfl 0 (by decide) L7 rfl rfl dX4_tick_2 ?_
  refine lv_iconst (v := 0) (pc := 5) hx hb dX4_tick_5 (by decide) ?_
  refine z_iald (x := h 0) (pc := 6) hx hb hz 1 rfl 0 rfl (by decide) (by decide) (enc_h (by decide)) dX4_tick_6 ?_
  refine z_runV (pc := 7) (As := [.int (h 0)]) (rest := []) (ws1 := mm ca a f h c hi sn be tx ti) ⟨hx, hb, hml, hown, hts⟩ (k_X4_hourOf l G ca a f h c hi sn be tx ti (h 0) hok.1) (cwV 1 hts (zgoodV zsub wq_14_17 wq_14_18 wq_14_19 wq_1_5 wq_14_20) rfl rfl rfl hdV_X4_hourOf ⟨Nat.le_of_ble_eq_true rfl, Nat.le_of_ble_eq_true rfl⟩) hz [] zp_all zp_all' rfl rfl rfl hl.1 (Nat.le_of_ble_eq_true rfl) (st1 := [.int (hrF h (h 0))]) rfl dX4_tick_7 ⟨Nat.zero_le _, Nat.zero_le _⟩ (fun H locs hz => ?_)
  refine z_top (y := hourP (h, c)) rfl ?_
  refine lv_istore_n (lv' := [(1, .int (hourP (h, c))), (0, .ref (a 0))]) (pc := 10) hx hb dX4_tick_10 rfl hl (by decide) rfl (fun ls hl => ?_)
  refine lv_aload_n (pc := 11) hx hb dX4_tick_11 rfl (lv_at hl 1 rfl) ?_
  refine z_get (own := RX4) (ref := "CupFountainModel") (C := RX4) (T := TX4) (N := 17) (ci := 4) (v := .ref (a 1)) (pc := 12) hx hb hts hinX4 hown hz 0 rfl rfl 0 (by decide) L7 rfl rfl dX4_tick_12 ?_
  refine lv_bipush (v := 6) (pc := 15) hx hb dX4_tick_15 (by decide) ?_
  refine z_iald (x := h 6) (pc := 17) hx hb hz 1 rfl 6 rfl (by decide) (by decide) (enc_h (by decide)) dX4_tick_17 ?_
  refine lv_aload_n (pc := 18) hx hb dX4_tick_18 rfl (lv_at hl 1 rfl) ?_
  refine z_get (own := RX4) (ref := "CupFountainModel") (C := RX4) (T := TX4) (N := 17) (ci := 4) (v := .ref (a 1)) (pc := 19) hx hb hts hinX4 hown hz 0 rfl rfl 0 (by decide) L7 rfl rfl dX4_tick_19 ?_
  refine lv_iconst (v := 1) (pc := 22) hx hb dX4_tick_22 (by decide) ?_
  refine z_iald (x := h 1) (pc := 23) hx hb hz 1 rfl 1 rfl (by decide) (by decide) (enc_h (by decide)) dX4_tick_23 ?_
  have J1 : ∀ (H : Heap) (locs : List Loc) (ls : Array Slot), zw G ca A s0.heap s0 (mm ca a f h c hi sn be tx ti) H locs → lv_has ls 5 [(1, .int (hourP (h, c))), (0, .ref (a 0))] → W pg l ev rm_X4_tick s0 mt args below meth cd H locs 0 0 Q (F0 mt 43 ls [.int (backF h)]) := by
    intro H locs ls hz hl
    refine lv_istore_n (lv' := [(2, .int (backF h)), (1, .int (hourP (h, c))), (0, .ref (a 0))]) (pc := 43) hx hb dX4_tick_43 rfl hl (by decide) rfl (fun ls hl => ?_)
    refine lv_aload_n (pc := 44) hx hb dX4_tick_44 rfl (lv_at hl 2 rfl) ?_
    refine z_get (own := RX4) (ref := "CupFountainModel") (C := RX4) (T := TX4) (N := 17) (ci := 4) (v := .ref (a 1)) (pc := 45) hx hb hts hinX4 hown hz 0 rfl rfl 0 (by decide) L7 rfl rfl dX4_tick_45 ?_
    refine lv_iconst (v := 1) (pc := 48) hx hb dX4_tick_48 (by decide) ?_
    refine lv_dup2_11 (pc := 49) hx hb dX4_tick_49 rfl rfl ?_
    refine z_iald (x := h 1) (pc := 50) hx hb hz 1 rfl 1 rfl (by decide) (by decide) (enc_h (by decide)) dX4_tick_50 ?_
    refine lv_iload_n (pc := 51) hx hb dX4_tick_51 rfl (lv_at hl 0 rfl) ?_
    refine lv_isub (pc := 52) hx hb dX4_tick_52 ?_
    refine z_iast (ws1 := mm ca a f (upd h 1 ((h 1) - (backF h))) c hi sn be tx ti) (pc := 53) hx hb hz 1 rfl 1 rfl (by decide) (by decide) (by rw [enc_uh (by decide)]; rfl) dX4_tick_53 (fun H locs hz => ?_)
    refine lv_aload_n (pc := 54) hx hb dX4_tick_54 rfl (lv_at hl 2 rfl) ?_
    refine z_get (own := RX4) (ref := "CupFountainModel") (C := RX4) (T := TX4) (N := 17) (ci := 4) (v := .ref (a 1)) (pc := 55) hx hb hts hinX4 hown hz 0 rfl rfl 0 (by decide) L7 rfl rfl dX4_tick_55 ?_
    refine lv_iconst (v := 3) (pc := 58) hx hb dX4_tick_58 (by decide) ?_
    refine lv_dup2_11 (pc := 59) hx hb dX4_tick_59 rfl rfl ?_
    refine z_iald (x := h 3) (pc := 60) hx hb hz 1 rfl 3 rfl (by decide) (by decide) (enc_h (by decide)) dX4_tick_60 ?_
    refine lv_aload_n (pc := 61) hx hb dX4_tick_61 rfl (lv_at hl 2 rfl) ?_
    refine z_get (own := RX4) (ref := "CupFountainModel") (C := RX4) (T := TX4) (N := 17) (ci := 4) (v := .ref (a 1)) (pc := 62) hx hb hts hinX4 hown hz 0 rfl rfl 0 (by decide) L7 rfl rfl dX4_tick_62 ?_
    refine lv_iconst (v := 5) (pc := 65) hx hb dX4_tick_65 (by decide) ?_
    refine z_iald (x := h 5) (pc := 66) hx hb hz 1 rfl 5 rfl (by decide) (by decide) (enc_h (by decide)) dX4_tick_66 ?_
    refine lv_iadd (pc := 67) hx hb dX4_tick_67 ?_
    refine z_iast (ws1 := mm ca a f (upd (upd h 1 ((h 1) - (backF h))) 3 ((h 3) + (h 5))) c hi sn be tx ti) (pc := 68) hx hb hz 1 rfl 3 rfl (by decide) (by decide) (by rw [enc_uh (by decide)]; rfl) dX4_tick_68 (fun H locs hz => ?_)
    refine lv_aload_n (pc := 69) hx hb dX4_tick_69 rfl (lv_at hl 2 rfl) ?_
    refine lv_iconst (v := 0) (pc := 70) hx hb dX4_tick_70 (by decide) ?_
    refine lv_iload_n (pc := 71) hx hb dX4_tick_71 rfl (lv_at hl 0 rfl) ?_
    refine lv_aload_n (pc := 72) hx hb dX4_tick_72 rfl (lv_at hl 2 rfl) ?_
    refine z_get (own := RX4) (ref := "CupFountainModel") (C := RX4) (T := TX4) (N := 17) (ci := 4) (v := .ref (a 1)) (pc := 73) hx hb hts hinX4 hown hz 0 rfl rfl 0 (by decide) L7 rfl rfl dX4_tick_73 ?_
    refine lv_iconst (v := 5) (pc := 76) hx hb dX4_tick_76 (by decide) ?_
    refine z_iald (x := h 5) (pc := 77) hx hb hz 1 rfl 5 rfl (by decide) (by decide) (enc_h (by decide)) dX4_tick_77 ?_
    refine lv_iadd (pc := 78) hx hb dX4_tick_78 ?_
    refine z_runV (pc := 79) (As := [.int 0, .int ((backF h) + (h 5))]) (rest := []) (ws1 := mm ca a f (upd (upd h 1 ((h 1) - (backF h))) 3 ((h 3) + (h 5))) (u2 c 0 3 (c 0 3 + ((backF h) + (h 5)))) hi sn be tx ti) ⟨hx, hb, hml, hown, hts⟩ (k_X4_pour_c l G ca a f (upd (upd h 1 ((h 1) - (backF h))) 3 ((h 3) + (h 5))) c hi sn be tx ti 0 ((backF h) + (h 5)) (by decide)) (cwV 2 hts (zgoodV zsub wq_14_21 wq_14_22 wq_14_23 wq_1_5 wq_15_0) rfl rfl rfl hdV_X4_pour ⟨Nat.le_of_ble_eq_true rfl, Nat.le_of_ble_eq_true rfl⟩) hz [] zp_all zp_all' rfl rfl rfl hl.1 (Nat.le_of_ble_eq_true rfl) (st1 := []) rfl dX4_tick_79 ⟨Nat.zero_le _, Nat.zero_le _⟩ (fun H locs hz => ?_)
    refine lv_iconst (v := 0) (pc := 82) hx hb dX4_tick_82 (by decide) ?_
    refine lv_istore_n (lv' := [(3, .int 0), (2, .int (backF h)), (1, .int (hourP (h, c))), (0, .ref (a 0))]) (pc := 83) hx hb dX4_tick_83 rfl hl (by decide) rfl (fun ls hl => ?_)
    have loop2 : ∀ cnt k : Nat, k + cnt = 8 → ∀ (H : Heap) (locs : List Loc) (ls : Array Slot), zw G ca A s0.heap s0 (mm ca a f ((it1 (hourP (h, c)) (springP (h, c)) k).1) ((it1 (hourP (h, c)) (springP (h, c)) k).2) hi sn be tx (itT (hourP (h, c)) (springP (h, c)) ti k)) H locs → lv_has ls 5 [(3, .int (nI k)), (2, .int (backF h)), (1, .int (hourP (h, c))), (0, .ref (a 0))] → W pg l ev rm_X4_tick s0 mt args below meth cd H locs 0 0 Q (F0 mt 84 ls []) := by
      intro cnt
      induction cnt with
      | zero =>
        intro k hk9 H locs ls hz hl
        obtain rfl : 8 = k := by omega
        have hz := hz.as (show _ = mm ca a f ((tick1 (h, c)).1) ((tick1 (h, c)).2) hi sn be tx (tickT (h, c) ti) from by rw [← tick1_d, ← tickT_d])
        refine lv_iload_n (pc := 84) hx hb dX4_tick_84 rfl (lv_at hl 0 rfl) ?_
        refine lv_bipush (v := 8) (pc := 85) hx hb dX4_tick_85 (by decide) ?_
        refine lv_icmp_ge (pc := 87) (tgt := 102) hx hb dX4_tick_87 (by decide) (fun c_87 => ?_) (fun c9 => absurd (by decide) c9)
        refine lv_iconst (v := 0) (pc := 102) hx hb dX4_tick_102 (by decide) ?_
        refine lv_istore_n (lv' := [(3, .int 0), (2, .int (backF h)), (1, .int (hourP (h, c))), (0, .ref (a 0))]) (pc := 103) hx hb dX4_tick_103 rfl hl (by decide) rfl (fun ls hl => ?_)
        have loop3 : ∀ cnt k : Nat, k + cnt = 8 → ∀ (H : Heap) (locs : List Loc) (ls : Array Slot), zw G ca A s0.heap s0 (mm ca a f ((it2 (tick1 (h, c)) k).1) ((it2 (tick1 (h, c)) k).2) hi sn be tx (tickT (h, c) ti)) H locs → lv_has ls 5 [(3, .int (nI k)), (2, .int (backF h)), (1, .int (hourP (h, c))), (0, .ref (a 0))] → W pg l ev rm_X4_tick s0 mt args below meth cd H locs 0 0 Q (F0 mt 104 ls []) := by
          intro cnt
          induction cnt with
          | zero =>
            intro k hk9 H locs ls hz hl
            obtain rfl : 8 = k := by omega
            have hz := hz.as (show _ = mm ca a f ((tick2 (h, c)).1) ((tick2 (h, c)).2) hi sn be tx (tickT (h, c) ti) from by rw [← tick2_d])
            refine lv_iload_n (pc := 104) hx hb dX4_tick_104 rfl (lv_at hl 0 rfl) ?_
            refine lv_bipush (v := 8) (pc := 105) hx hb dX4_tick_105 (by decide) ?_
            refine lv_icmp_ge (pc := 107) (tgt := 174) hx hb dX4_tick_107 (by decide) (fun c_107 => ?_) (fun c9 => absurd (by decide) c9)
            refine lv_aload_n (pc := 174) hx hb dX4_tick_174 rfl (lv_at hl 3 rfl) ?_
            refine z_get (own := RX4) (ref := "CupFountainModel") (C := RX4) (T := TX4) (N := 17) (ci := 4) (v := .ref (a 1)) (pc := 175) hx hb hts hinX4 hown hz 0 rfl rfl 0 (by decide) L7 rfl rfl dX4_tick_175 ?_
            refine lv_iconst (v := 0) (pc := 178) hx hb dX4_tick_178 (by decide) ?_
            refine lv_dup2_11 (pc := 179) hx hb dX4_tick_179 rfl rfl ?_
            refine z_iald (x := (tick2 (h, c)).1 0) (pc := 180) hx hb hz 1 rfl 0 rfl (by decide) (by decide) (enc_h (by decide)) dX4_tick_180 ?_
            refine lv_iconst (v := 1) (pc := 181) hx hb dX4_tick_181 (by decide) ?_
            refine lv_iadd (pc := 182) hx hb dX4_tick_182 ?_
            refine z_iast (ws1 := mm ca a f (upd (tick2 (h, c)).1 0 (((tick2 (h, c)).1 0) + 1)) ((tick2 (h, c)).2) hi sn be tx (tickT (h, c) ti)) (pc := 183) hx hb hz 1 rfl 0 rfl (by decide) (by decide) (by rw [enc_uh (by decide)]; rfl) dX4_tick_183 (fun H locs hz => ?_)
            exact z_vret (pc := 184) hx hb hr hlk hQ hz dX4_tick_184 rfl (by rw [tickP_1, tickP_2])
          | succ cnt ih =>
            intro k hk9 H locs ls hz hl
            have hk : k < 8 := by omega
            refine lv_iload_n (pc := 104) hx hb dX4_tick_104 rfl (lv_at hl 0 rfl) ?_
            refine lv_bipush (v := 8) (pc := 105) hx hb dX4_tick_105 (by decide) ?_
            refine lv_icmp_ge (pc := 107) (tgt := 174) hx hb dX4_tick_107 (by decide) (fun c9 => absurd c9 (nI_ge hk (by decide))) (fun c_107 => ?_)
            refine lv_aload_n (pc := 110) hx hb dX4_tick_110 rfl (lv_at hl 3 rfl) ?_
            refine lv_iload_n (pc := 111) hx hb dX4_tick_111 rfl (lv_at hl 0 rfl) ?_
            refine lv_iconst (v := 1) (pc := 112) hx hb dX4_tick_112 (by decide) ?_
            refine z_runV (pc := 113) (As := [.int (nI k), .int 1]) (rest := []) (ws1 := mm ca a f ((it2 (tick1 (h, c)) k).1) ((it2 (tick1 (h, c)) k).2) hi sn be tx (tickT (h, c) ti)) ⟨hx, hb, hml, hown, hts⟩ (k_X4_of l G ca a f ((it2 (tick1 (h, c)) k).1) ((it2 (tick1 (h, c)) k).2) hi sn be tx (tickT (h, c) ti) k 1 (by assumption) (by decide)) (cwV 2 hts (zgoodV zsub wq_7_11 wq_7_12 wq_7_13 wq_1_5 wq_7_14) rfl rfl rfl hdV_X4_of ⟨Nat.le_of_ble_eq_true rfl, Nat.le_of_ble_eq_true rfl⟩) hz [] zp_all zp_all' rfl rfl rfl hl.1 (Nat.le_of_ble_eq_true rfl) (st1 := [.int (((it2 (tick1 (h, c)) k).2) k 1)]) rfl dX4_tick_113 ⟨Nat.zero_le _, Nat.zero_le _⟩ (fun H locs hz => ?_)
            refine lv_aload_n (pc := 116) hx hb dX4_tick_116 rfl (lv_at hl 3 rfl) ?_
            refine lv_iload_n (pc := 117) hx hb dX4_tick_117 rfl (lv_at hl 0 rfl) ?_
            refine lv_iconst (v := 3) (pc := 118) hx hb dX4_tick_118 (by decide) ?_
            refine z_runV (pc := 119) (As := [.int (nI k), .int 3]) (rest := [.int (((it2 (tick1 (h, c)) k).2) k 1)]) (ws1 := mm ca a f ((it2 (tick1 (h, c)) k).1) ((it2 (tick1 (h, c)) k).2) hi sn be tx (tickT (h, c) ti)) ⟨hx, hb, hml, hown, hts⟩ (k_X4_of l G ca a f ((it2 (tick1 (h, c)) k).1) ((it2 (tick1 (h, c)) k).2) hi sn be tx (tickT (h, c) ti) k 3 (by assumption) (by decide)) (cwV 2 hts (zgoodV zsub wq_7_11 wq_7_12 wq_7_13 wq_1_5 wq_7_14) rfl rfl rfl hdV_X4_of ⟨Nat.le_of_ble_eq_true rfl, Nat.le_of_ble_eq_true rfl⟩) hz [] zp_all zp_all' rfl rfl rfl hl.1 (Nat.le_of_ble_eq_true rfl) (st1 := [.int (((it2 (tick1 (h, c)) k).2) k 3), .int (((it2 (tick1 (h, c)) k).2) k 1)]) rfl dX4_tick_119 ⟨Nat.zero_le _, Nat.zero_le _⟩ (fun H locs hz => ?_)
            have J4 : ∀ (H : Heap) (locs : List Loc) (ls : Array Slot), zw G ca A s0.heap s0 (mm ca a f ((it2 (tick1 (h, c)) k).1) ((it2 (tick1 (h, c)) k).2) hi sn be tx (tickT (h, c) ti)) H locs → lv_has ls 5 [(3, .int (nI k)), (2, .int (backF h)), (1, .int (hourP (h, c))), (0, .ref (a 0))] → W pg l ev rm_X4_tick s0 mt args below meth cd H locs 0 0 Q (F0 mt 140 ls [.int (drF (it2 (tick1 (h, c)) k).2 k)]) := by
              intro H locs ls hz hl
              refine lv_istore (lv' := [(4, .int (drF (it2 (tick1 (h, c)) k).2 k)), (3, .int (nI k)), (2, .int (backF h)), (1, .int (hourP (h, c))), (0, .ref (a 0))]) (pc := 140) hx hb dX4_tick_140 hl (by decide) rfl (fun ls hl => ?_)
              refine lv_aload_n (pc := 142) hx hb dX4_tick_142 rfl (lv_at hl 4 rfl) ?_
              refine lv_iload_n (pc := 143) hx hb dX4_tick_143 rfl (lv_at hl 1 rfl) ?_
              refine lv_iconst (v := 3) (pc := 144) hx hb dX4_tick_144 (by decide) ?_
              refine lv_aload_n (pc := 145) hx hb dX4_tick_145 rfl (lv_at hl 4 rfl) ?_
              refine lv_iload_n (pc := 146) hx hb dX4_tick_146 rfl (lv_at hl 1 rfl) ?_
              refine lv_iconst (v := 3) (pc := 147) hx hb dX4_tick_147 (by decide) ?_
              refine z_runV (pc := 148) (As := [.int (nI k), .int 3]) (rest := [.int 3, .int (nI k), .ref (a 0)]) (ws1 := mm ca a f ((it2 (tick1 (h, c)) k).1) ((it2 (tick1 (h, c)) k).2) hi sn be tx (tickT (h, c) ti)) ⟨hx, hb, hml, hown, hts⟩ (k_X4_of l G ca a f ((it2 (tick1 (h, c)) k).1) ((it2 (tick1 (h, c)) k).2) hi sn be tx (tickT (h, c) ti) k 3 (by assumption) (by decide)) (cwV 2 hts (zgoodV zsub wq_7_11 wq_7_12 wq_7_13 wq_1_5 wq_7_14) rfl rfl rfl hdV_X4_of ⟨Nat.le_of_ble_eq_true rfl, Nat.le_of_ble_eq_true rfl⟩) hz [] zp_all zp_all' rfl rfl rfl hl.1 (Nat.le_of_ble_eq_true rfl) (st1 := [.int (((it2 (tick1 (h, c)) k).2) k 3), .int 3, .int (nI k), .ref (a 0)]) rfl dX4_tick_148 ⟨Nat.zero_le _, Nat.zero_le _⟩ (fun H locs hz => ?_)
              refine lv_iload (pc := 151) hx hb dX4_tick_151 (lv_at hl 0 rfl) ?_
              refine lv_isub (pc := 153) hx hb dX4_tick_153 ?_
              refine z_runV (pc := 154) (As := [.int (nI k), .int 3, .int ((((it2 (tick1 (h, c)) k).2) k 3) - (drF (it2 (tick1 (h, c)) k).2 k))]) (rest := []) (ws1 := mm ca a f ((it2 (tick1 (h, c)) k).1) (u2 ((it2 (tick1 (h, c)) k).2) k 3 ((((it2 (tick1 (h, c)) k).2) k 3) - (drF (it2 (tick1 (h, c)) k).2 k))) hi sn be tx (tickT (h, c) ti)) ⟨hx, hb, hml, hown, hts⟩ (k_X4_lay l G ca a f ((it2 (tick1 (h, c)) k).1) ((it2 (tick1 (h, c)) k).2) hi sn be tx (tickT (h, c) ti) k 3 ((((it2 (tick1 (h, c)) k).2) k 3) - (drF (it2 (tick1 (h, c)) k).2 k)) (by assumption) (by decide)) (cwV 3 hts (zgoodV zsub wq_4_13 wq_4_14 wq_4_15 wq_1_5 wq_4_16) rfl rfl rfl hdV_X4_lay ⟨Nat.le_of_ble_eq_true rfl, Nat.le_of_ble_eq_true rfl⟩) hz [] zp_all zp_all' rfl rfl rfl hl.1 (Nat.le_of_ble_eq_true rfl) (st1 := []) rfl dX4_tick_154 ⟨Nat.zero_le _, Nat.zero_le _⟩ (fun H locs hz => ?_)
              refine lv_aload_n (pc := 157) hx hb dX4_tick_157 rfl (lv_at hl 4 rfl) ?_
              refine z_get (own := RX4) (ref := "CupFountainModel") (C := RX4) (T := TX4) (N := 17) (ci := 4) (v := .ref (a 1)) (pc := 158) hx hb hts hinX4 hown hz 0 rfl rfl 0 (by decide) L7 rfl rfl dX4_tick_158 ?_
              refine lv_iconst (v := 2) (pc := 161) hx hb dX4_tick_161 (by decide) ?_
              refine lv_dup2_11 (pc := 162) hx hb dX4_tick_162 rfl rfl ?_
              refine z_iald (x := (it2 (tick1 (h, c)) k).1 2) (pc := 163) hx hb hz 1 rfl 2 rfl (by decide) (by decide) (enc_h (by decide)) dX4_tick_163 ?_
              refine lv_iload (pc := 164) hx hb dX4_tick_164 (lv_at hl 0 rfl) ?_
              refine lv_iadd (pc := 166) hx hb dX4_tick_166 ?_
              refine z_iast (ws1 := mm ca a f (upd (it2 (tick1 (h, c)) k).1 2 (((it2 (tick1 (h, c)) k).1 2) + (drF (it2 (tick1 (h, c)) k).2 k))) (u2 ((it2 (tick1 (h, c)) k).2) k 3 ((((it2 (tick1 (h, c)) k).2) k 3) - (drF (it2 (tick1 (h, c)) k).2 k))) hi sn be tx (tickT (h, c) ti)) (pc := 167) hx hb hz 1 rfl 2 rfl (by decide) (by decide) (by rw [enc_uh (by decide)]; rfl) dX4_tick_167 (fun H locs hz => ?_)
              refine lv_iinc (v := nI (k + 1)) (lv' := [(3, .int (nI (k + 1))), (4, .int (drF (it2 (tick1 (h, c)) k).2 k)), (2, .int (backF h)), (1, .int (hourP (h, c))), (0, .ref (a 0))]) (pc := 168) hx hb dX4_tick_168 hl (k := 1) rfl (nI_add k 1) (by decide) rfl (fun ls hl => ?_)
              refine lv_goto (tgt := 104) (pc := 171) hx hb dX4_tick_171 (by decide) ?_
              exact ih (k + 1) (by omega) _ _ _ (hz.as (by simp only [it2_s])) (lv_sub hl [0, 2, 3, 4] rfl)
            refine lv_icmp_ge (pc := 122) (tgt := 134) hx hb dX4_tick_122 (by decide) (fun c_122 => ?_) (fun c_122 => ?_)
            · refine lv_aload_n (pc := 134) hx hb dX4_tick_134 rfl (lv_at hl 3 rfl) ?_
              refine lv_iload_n (pc := 135) hx hb dX4_tick_135 rfl (lv_at hl 0 rfl) ?_
              refine lv_iconst (v := 3) (pc := 136) hx hb dX4_tick_136 (by decide) ?_
              refine z_runV (pc := 137) (As := [.int (nI k), .int 3]) (rest := []) (ws1 := mm ca a f ((it2 (tick1 (h, c)) k).1) ((it2 (tick1 (h, c)) k).2) hi sn be tx (tickT (h, c) ti)) ⟨hx, hb, hml, hown, hts⟩ (k_X4_of l G ca a f ((it2 (tick1 (h, c)) k).1) ((it2 (tick1 (h, c)) k).2) hi sn be tx (tickT (h, c) ti) k 3 (by assumption) (by decide)) (cwV 2 hts (zgoodV zsub wq_7_11 wq_7_12 wq_7_13 wq_1_5 wq_7_14) rfl rfl rfl hdV_X4_of ⟨Nat.le_of_ble_eq_true rfl, Nat.le_of_ble_eq_true rfl⟩) hz [] zp_all zp_all' rfl rfl rfl hl.1 (Nat.le_of_ble_eq_true rfl) (st1 := [.int (((it2 (tick1 (h, c)) k).2) k 3)]) rfl dX4_tick_137 ⟨Nat.zero_le _, Nat.zero_le _⟩ (fun H locs hz => ?_)
              exact z_top (by simp only [drF, if_pos c_122]) (J4 _ _ _ hz (lv_sub hl [0, 1, 2, 3] rfl))
            · refine lv_aload_n (pc := 125) hx hb dX4_tick_125 rfl (lv_at hl 3 rfl) ?_
              refine lv_iload_n (pc := 126) hx hb dX4_tick_126 rfl (lv_at hl 0 rfl) ?_
              refine lv_iconst (v := 1) (pc := 127) hx hb dX4_tick_127 (by decide) ?_
              refine z_runV (pc := 128) (As := [.int (nI k), .int 1]) (rest := []) (ws1 := mm ca a f ((it2 (tick1 (h, c)) k).1) ((it2 (tick1 (h, c)) k).2) hi sn be tx (tickT (h, c) ti)) ⟨hx, hb, hml, hown, hts⟩ (k_X4_of l G ca a f ((it2 (tick1 (h, c)) k).1) ((it2 (tick1 (h, c)) k).2) hi sn be tx (tickT (h, c) ti) k 1 (by assumption) (by decide)) (cwV 2 hts (zgoodV zsub wq_7_11 wq_7_12 wq_7_13 wq_1_5 wq_7_14) rfl rfl rfl hdV_X4_of ⟨Nat.le_of_ble_eq_true rfl, Nat.le_of_ble_eq_true rfl⟩) hz [] zp_all zp_all' rfl rfl rfl hl.1 (Nat.le_of_ble_eq_true rfl) (st1 := [.int (((it2 (tick1 (h, c)) k).2) k 1)]) rfl dX4_tick_128 ⟨Nat.zero_le _, Nat.zero_le _⟩ (fun H locs hz => ?_)
              refine lv_goto (tgt := 140) (pc := 131) hx hb dX4_tick_131 (by decide) ?_
              exact z_top (by simp only [drF, if_neg c_122]) (J4 _ _ _ hz (lv_sub hl [0, 1, 2, 3] rfl))
        exact loop3 8 0 (by omega) _ _ _ (hz.as (by rw [it2_0])) (lv_sub hl [0, 1, 2, 3] rfl)
      | succ cnt ih =>
        intro k hk9 H locs ls hz hl
        have hk : k < 8 := by omega
        refine lv_iload_n (pc := 84) hx hb dX4_tick_84 rfl (lv_at hl 0 rfl) ?_
        refine lv_bipush (v := 8) (pc := 85) hx hb dX4_tick_85 (by decide) ?_
        refine lv_icmp_ge (pc := 87) (tgt := 102) hx hb dX4_tick_87 (by decide) (fun c9 => absurd c9 (nI_ge hk (by decide))) (fun c_87 => ?_)
        refine lv_aload_n (pc := 90) hx hb dX4_tick_90 rfl (lv_at hl 3 rfl) ?_
        refine lv_iload_n (pc := 91) hx hb dX4_tick_91 rfl (lv_at hl 0 rfl) ?_
        refine lv_iload_n (pc := 92) hx hb dX4_tick_92 rfl (lv_at hl 2 rfl) ?_
        refine z_runV (pc := 93) (As := [.int (nI k), .int (hourP (h, c))]) (rest := []) (ws1 := mm ca a f (tokH ((it1 (hourP (h, c)) (springP (h, c)) k).1) ((it1 (hourP (h, c)) (springP (h, c)) k).2) k (hourP (h, c))) (tokC ((it1 (hourP (h, c)) (springP (h, c)) k).2) k (hourP (h, c))) hi sn be tx (upd (itT (hourP (h, c)) (springP (h, c)) ti k) k (tpF ((it1 (hourP (h, c)) (springP (h, c)) k).2) k (hourP (h, c))))) ⟨hx, hb, hml, hown, hts⟩ (k_X4_tipOrKeep l G ca a f ((it1 (hourP (h, c)) (springP (h, c)) k).1) ((it1 (hourP (h, c)) (springP (h, c)) k).2) hi sn be tx (itT (hourP (h, c)) (springP (h, c)) ti k) k (hourP (h, c)) (by assumption) (by rw [it1_w _ _ _ _ _ (by decide) (by decide) (by decide), springP_w _ _ _ (by decide)]; exact (hok.2 k hk).1) (by rw [it1_w _ _ _ _ _ (by decide) (by decide) (by decide), springP_w _ _ _ (by decide)]; exact (hok.2 k hk).2.1) (by rw [it1_w _ _ _ _ _ (by decide) (by decide) (by decide), springP_w _ _ _ (by decide)]; exact (hok.2 k hk).2.2)) (cwV 2 hts (zgoodV zsub wq_15_1 wq_15_2 wq_15_3 wq_1_5 wq_15_4) rfl rfl rfl hdV_X4_tipOrKeep ⟨Nat.le_of_ble_eq_true rfl, Nat.le_of_ble_eq_true rfl⟩) hz [] zp_all zp_all' rfl rfl rfl hl.1 (Nat.le_of_ble_eq_true rfl) (st1 := []) rfl dX4_tick_93 ⟨Nat.zero_le _, Nat.zero_le _⟩ (fun H locs hz => ?_)
        refine lv_iinc (v := nI (k + 1)) (lv' := [(3, .int (nI (k + 1))), (2, .int (backF h)), (1, .int (hourP (h, c))), (0, .ref (a 0))]) (pc := 96) hx hb dX4_tick_96 hl (k := 0) rfl (nI_add k 1) (by decide) rfl (fun ls hl => ?_)
        refine lv_goto (tgt := 84) (pc := 99) hx hb dX4_tick_99 (by decide) ?_
        exact ih (k + 1) (by omega) _ _ _ (hz.as (by simp only [it1_s, itT_s])) (lv_sub hl [0, 1, 2, 3] rfl)
    exact loop2 8 0 (by omega) _ _ _ (hz.as (by simp only [it1_0, itT_0, springP, springH])) (lv_sub hl [0, 1, 2, 3] rfl)
  refine lv_icmp_ge (pc := 24) (tgt := 37) hx hb dX4_tick_24 (by decide) (fun c_24 => ?_) (fun c_24 => ?_)
  · refine lv_aload_n (pc := 37) hx hb dX4_tick_37 rfl (lv_at hl 1 rfl) ?_
    refine z_get (own := RX4) (ref := "CupFountainModel") (C := RX4) (T := TX4) (N := 17) (ci := 4) (v := .ref (a 1)) (pc := 38) hx hb hts hinX4 hown hz 0 rfl rfl 0 (by decide) L7 rfl rfl dX4_tick_38 ?_
    refine lv_iconst (v := 1) (pc := 41) hx hb dX4_tick_41 (by decide) ?_
    refine z_iald (x := h 1) (pc := 42) hx hb hz 1 rfl 1 rfl (by decide) (by decide) (enc_h (by decide)) dX4_tick_42 ?_
    exact z_top (by simp only [backF, if_pos c_24]) (J1 _ _ _ hz (lv_sub hl [0, 1] rfl))
  · refine lv_aload_n (pc := 27) hx hb dX4_tick_27 rfl (lv_at hl 1 rfl) ?_
    refine z_get (own := RX4) (ref := "CupFountainModel") (C := RX4) (T := TX4) (N := 17) (ci := 4) (v := .ref (a 1)) (pc := 28) hx hb hts hinX4 hown hz 0 rfl rfl 0 (by decide) L7 rfl rfl dX4_tick_28 ?_
    refine lv_bipush (v := 6) (pc := 31) hx hb dX4_tick_31 (by decide) ?_
    refine z_iald (x := h 6) (pc := 33) hx hb hz 1 rfl 6 rfl (by decide) (by decide) (enc_h (by decide)) dX4_tick_33 ?_
    refine lv_goto (tgt := 43) (pc := 34) hx hb dX4_tick_34 (by decide) ?_
    exact z_top (by simp only [backF, if_neg c_24]) (J1 _ _ _ hz (lv_sub hl [0, 1] rfl))

def rm_X4_sumOf : Room := { frames := 1, cells := 0, slots := 0, locals := 22 }
set_option maxRecDepth 20000 in
theorem hdV_X4_sumOf : yX4_sumOf.cls = RX4 ∧ yX4_sumOf.cls ≠ "java/lang/invoke/MethodHandle" ∧ yX4_sumOf.cls ≠ "java/lang/invoke/VarHandle" ∧ (parseMethodDescriptor yX4_sumOf.desc).map (fun d => d.parameters.length) = some 1 := by decide +kernel
set_option maxHeartbeats 4000000 in
set_option maxRecDepth 100000 in
theorem k_X4_sumOf (l : Launch) (G : va_G) (ca : Nat → ClassId) (a : Nat → Nat) (f h : Nat → Int32) (c : Nat → Nat → Int32) (hi sn be tx ti : Nat → Int32) (w : Nat) (hw : w < 12) : Zc l G ca yX4_sumOf (zws yX4_sumOf cX4_sumOf 4 (some .int)) rm_X4_sumOf [.ref (a 0), .int (nI w)] (mm ca a f h c hi sn be tx ti) (some (.int (sumF c w 8))) (mm ca a f h c hi sn be tx ti) := by
  refine Zc.of (cc := cX4_sumOf) (maxL := 4) (ret := (some .int)) (by decide) rfl (Nat.le_of_ble_eq_true rfl) ?_
  intro pg ev s0 mt below meth cd A args Q ls hx hb hr hml hown hts hlk hQ hl hz
  have hl : lv_has ls 4 [(0, .ref (a 0)), (1, .int (nI w))] := hl
  refine lv_iconst (v := 0) (pc := 0) hx hb dX4_sumOf_0 (by decide) ?_
  refine lv_istore_n (lv' := [(2, .int 0), (0, .ref (a 0)), (1, .int (nI w))]) (pc := 1) hx hb dX4_sumOf_1 rfl hl (by decide) rfl (fun ls hl => ?_)
  refine lv_iconst (v := 0) (pc := 2) hx hb dX4_sumOf_2 (by decide) ?_
  refine lv_istore_n (lv' := [(3, .int 0), (2, .int 0), (0, .ref (a 0)), (1, .int (nI w))]) (pc := 3) hx hb dX4_sumOf_3 rfl hl (by decide) rfl (fun ls hl => ?_)
  have loop1 : ∀ cnt k : Nat, k + cnt = 8 → ∀ (H : Heap) (locs : List Loc) (ls : Array Slot), zw G ca A s0.heap s0 (mm ca a f h c hi sn be tx ti) H locs → lv_has ls 4 [(3, .int (nI k)), (2, .int (sumF c w k)), (0, .ref (a 0)), (1, .int (nI w))] → W pg l ev rm_X4_sumOf s0 mt args below meth cd H locs 0 0 Q (F0 mt 4 ls []) := by
    intro cnt
    induction cnt with
    | zero =>
      intro k hk9 H locs ls hz hl
      obtain rfl : 8 = k := by omega
      refine lv_iload_n (pc := 4) hx hb dX4_sumOf_4 rfl (lv_at hl 0 rfl) ?_
      refine lv_bipush (v := 8) (pc := 5) hx hb dX4_sumOf_5 (by decide) ?_
      refine lv_icmp_ge (pc := 7) (tgt := 25) hx hb dX4_sumOf_7 (by decide) (fun c_7 => ?_) (fun c9 => absurd (by decide) c9)
      refine lv_iload_n (pc := 25) hx hb dX4_sumOf_25 rfl (lv_at hl 1 rfl) ?_
      exact z_iret (pc := 26) hx hb hr hlk hQ hz dX4_sumOf_26 (by first | rfl | (simp only [if_pos c_7])) (by first | rfl | (simp only [if_pos c_7]))
    | succ cnt ih =>
      intro k hk9 H locs ls hz hl
      have hk : k < 8 := by omega
      refine lv_iload_n (pc := 4) hx hb dX4_sumOf_4 rfl (lv_at hl 0 rfl) ?_
      refine lv_bipush (v := 8) (pc := 5) hx hb dX4_sumOf_5 (by decide) ?_
      refine lv_icmp_ge (pc := 7) (tgt := 25) hx hb dX4_sumOf_7 (by decide) (fun c9 => absurd c9 (nI_ge hk (by decide))) (fun c_7 => ?_)
      refine lv_iload_n (pc := 10) hx hb dX4_sumOf_10 rfl (lv_at hl 1 rfl) ?_
      refine lv_aload_n (pc := 11) hx hb dX4_sumOf_11 rfl (lv_at hl 2 rfl) ?_
      refine lv_iload_n (pc := 12) hx hb dX4_sumOf_12 rfl (lv_at hl 0 rfl) ?_
      refine lv_iload_n (pc := 13) hx hb dX4_sumOf_13 rfl (lv_at hl 3 rfl) ?_
      refine z_runV (pc := 14) (As := [.int (nI k), .int (nI w)]) (rest := [.int (sumF c w k)]) (ws1 := mm ca a f h c hi sn be tx ti) ⟨hx, hb, hml, hown, hts⟩ (k_X4_of l G ca a f h c hi sn be tx ti k w (by assumption) (by assumption)) (cwV 2 hts (zgoodV zsub wq_7_11 wq_7_12 wq_7_13 wq_1_5 wq_7_14) rfl rfl rfl hdV_X4_of ⟨Nat.le_of_ble_eq_true rfl, Nat.le_of_ble_eq_true rfl⟩) hz [] zp_all zp_all' rfl rfl rfl hl.1 (Nat.le_of_ble_eq_true rfl) (st1 := [.int (c k w), .int (sumF c w k)]) rfl dX4_sumOf_14 ⟨Nat.zero_le _, Nat.zero_le _⟩ (fun H locs hz => ?_)
      refine lv_iadd (pc := 17) hx hb dX4_sumOf_17 ?_
      refine lv_istore_n (lv' := [(2, .int ((sumF c w k) + (c k w))), (3, .int (nI k)), (0, .ref (a 0)), (1, .int (nI w))]) (pc := 18) hx hb dX4_sumOf_18 rfl hl (by decide) rfl (fun ls hl => ?_)
      refine lv_iinc (v := nI (k + 1)) (lv' := [(3, .int (nI (k + 1))), (2, .int ((sumF c w k) + (c k w))), (0, .ref (a 0)), (1, .int (nI w))]) (pc := 19) hx hb dX4_sumOf_19 hl (k := 1) rfl (nI_add k 1) (by decide) rfl (fun ls hl => ?_)
      refine lv_goto (tgt := 4) (pc := 22) hx hb dX4_sumOf_22 (by decide) ?_
      exact ih (k + 1) (by omega) _ _ _ hz (lv_sub hl [0, 1, 2, 3] rfl)
  exact loop1 8 0 (by omega) _ _ _ hz (lv_sub hl [0, 1, 2, 3] rfl)

def rm_X4_isValue : Room := { frames := 1, cells := 0, slots := 0, locals := 22 }
set_option maxRecDepth 20000 in
theorem hdV_X4_isValue : yX4_isValue.cls = RX4 ∧ yX4_isValue.cls ≠ "java/lang/invoke/MethodHandle" ∧ yX4_isValue.cls ≠ "java/lang/invoke/VarHandle" ∧ (parseMethodDescriptor yX4_isValue.desc).map (fun d => d.parameters.length) = some 3 := by decide +kernel
set_option maxHeartbeats 4000000 in
set_option maxRecDepth 100000 in
theorem k_X4_isValue (l : Launch) (G : va_G) (ca : Nat → ClassId) (cup which value : Int32) : Zc l G ca yX4_isValue (zws yX4_isValue cX4_isValue 3 (some .boolean)) rm_X4_isValue [.int cup, .int which, .int value] ([]) (some (.int (isValF cup which value))) ([]) := by
  refine Zc.of (cc := cX4_isValue) (maxL := 3) (ret := (some .boolean)) (by decide) rfl (Nat.le_of_ble_eq_true rfl) ?_
  intro pg ev s0 mt below meth cd A args Q ls hx hb hr hml hown hts hlk hQ hl hz
  have hl : lv_has ls 3 [(0, .int cup), (1, .int which), (2, .int value)] := hl
  refine lv_iload_n (pc := 0) hx hb dX4_isValue_0 rfl (lv_at hl 1 rfl) ?_
  have J1 : ∀ (H : Heap) (locs : List Loc) (ls : Array Slot), zw G ca A s0.heap s0 ([]) H locs → lv_has ls 3 [(0, .int cup), (1, .int which), (2, .int value)] → W pg l ev rm_X4_isValue s0 mt args below meth cd H locs 0 0 Q (F0 mt 51 ls [.int (isValF cup which value)]) := by
    intro H locs ls hz hl
    exact z_zret (pc := 51) hx hb hr hlk hQ hz (isValF_n _ _ _) dX4_isValue_51 (by first | rfl | (simp only [isValF])) (by first | rfl | (simp only [isValF]))
  refine lv_if_ne (pc := 1) (tgt := 14) hx hb dX4_isValue_1 (by decide) (fun c_1 => ?_) (fun c_1 => ?_)
  · refine lv_iload_n (pc := 14) hx hb dX4_isValue_14 rfl (lv_at hl 1 rfl) ?_
    refine lv_iconst (v := 1) (pc := 15) hx hb dX4_isValue_15 (by decide) ?_
    refine lv_icmp_ne (pc := 16) (tgt := 29) hx hb dX4_isValue_16 (by decide) (fun c_16 => ?_) (fun c_16 => ?_)
    · refine lv_iload_n (pc := 29) hx hb dX4_isValue_29 rfl (lv_at hl 1 rfl) ?_
      refine lv_iconst (v := 2) (pc := 30) hx hb dX4_isValue_30 (by decide) ?_
      refine lv_icmp_ne (pc := 31) (tgt := 50) hx hb dX4_isValue_31 (by decide) (fun c_31 => ?_) (fun c_31 => ?_)
      · refine lv_iconst (v := 0) (pc := 50) hx hb dX4_isValue_50 (by decide) ?_
        exact z_top (by first | rfl | (simp only [isValF, if_neg c_1, if_neg c_16, if_neg c_31])) (J1 _ _ _ hz (lv_sub hl [0, 1, 2] rfl))
      · refine lv_iload_n (pc := 34) hx hb dX4_isValue_34 rfl (lv_at hl 2 rfl) ?_
        refine lv_iload_n (pc := 35) hx hb dX4_isValue_35 rfl (lv_at hl 0 rfl) ?_
        refine lv_iconst (v := 1) (pc := 36) hx hb dX4_isValue_36 (by decide) ?_
        refine lv_iadd (pc := 37) hx hb dX4_isValue_37 ?_
        refine lv_bipush (v := 8) (pc := 38) hx hb dX4_isValue_38 (by decide) ?_
        refine z_runS (pc := 40) (As := [.int value, .int (cup + 1), .int 8]) (rest := []) (ws1 := []) ⟨hx, hb, hml, hown, hts⟩ (k_X4_in l G ca value (cup + 1) 8) (cwS 3 hts (zgoodS zsub wq_7_5 wq_7_6 wq_1_5 wq_7_7) rfl rfl rfl hdV_X4_in ⟨Nat.le_of_ble_eq_true rfl, Nat.le_of_ble_eq_true rfl⟩) hz ([]) zp_no (List.Perm.refl _) rfl hl.1 (Nat.le_of_ble_eq_true rfl) (st1 := [.int (inF value (cup + 1) 8)]) rfl dX4_isValue_40 ⟨Nat.zero_le _, Nat.zero_le _⟩ (fun H locs hz => ?_)
        refine lv_if_eq (pc := 43) (tgt := 50) hx hb dX4_isValue_43 (by decide) (fun c_43 => ?_) (fun c_43 => ?_)
        · refine lv_iconst (v := 0) (pc := 50) hx hb dX4_isValue_50 (by decide) ?_
          exact z_top (by first | rfl | (simp only [isValF, if_neg c_1, if_neg c_16, if_pos c_31, if_pos c_43])) (J1 _ _ _ hz (lv_sub hl [0, 1, 2] rfl))
        · refine lv_iconst (v := 1) (pc := 46) hx hb dX4_isValue_46 (by decide) ?_
          refine lv_goto (tgt := 51) (pc := 47) hx hb dX4_isValue_47 (by decide) ?_
          exact z_top (by first | rfl | (simp only [isValF, if_neg c_1, if_neg c_16, if_pos c_31, if_neg c_43])) (J1 _ _ _ hz (lv_sub hl [0, 1, 2] rfl))
    · refine lv_iload_n (pc := 19) hx hb dX4_isValue_19 rfl (lv_at hl 2 rfl) ?_
      refine lv_iconst (v := 0) (pc := 20) hx hb dX4_isValue_20 (by decide) ?_
      refine lv_bipush (v := 9) (pc := 21) hx hb dX4_isValue_21 (by decide) ?_
      refine z_runS (pc := 23) (As := [.int value, .int 0, .int 9]) (rest := []) (ws1 := []) ⟨hx, hb, hml, hown, hts⟩ (k_X4_in l G ca value 0 9) (cwS 3 hts (zgoodS zsub wq_7_5 wq_7_6 wq_1_5 wq_7_7) rfl rfl rfl hdV_X4_in ⟨Nat.le_of_ble_eq_true rfl, Nat.le_of_ble_eq_true rfl⟩) hz ([]) zp_no (List.Perm.refl _) rfl hl.1 (Nat.le_of_ble_eq_true rfl) (st1 := [.int (inF value 0 9)]) rfl dX4_isValue_23 ⟨Nat.zero_le _, Nat.zero_le _⟩ (fun H locs hz => ?_)
      refine lv_goto (tgt := 51) (pc := 26) hx hb dX4_isValue_26 (by decide) ?_
      exact z_top (by first | rfl | (simp only [isValF, if_neg c_1, if_pos c_16])) (J1 _ _ _ hz (lv_sub hl [0, 1, 2] rfl))
  · refine lv_iload_n (pc := 4) hx hb dX4_isValue_4 rfl (lv_at hl 2 rfl) ?_
    refine lv_iconst (v := 1) (pc := 5) hx hb dX4_isValue_5 (by decide) ?_
    refine lv_bipush (v := 99) (pc := 6) hx hb dX4_isValue_6 (by decide) ?_
    refine z_runS (pc := 8) (As := [.int value, .int 1, .int 99]) (rest := []) (ws1 := []) ⟨hx, hb, hml, hown, hts⟩ (k_X4_in l G ca value 1 99) (cwS 3 hts (zgoodS zsub wq_7_5 wq_7_6 wq_1_5 wq_7_7) rfl rfl rfl hdV_X4_in ⟨Nat.le_of_ble_eq_true rfl, Nat.le_of_ble_eq_true rfl⟩) hz ([]) zp_no (List.Perm.refl _) rfl hl.1 (Nat.le_of_ble_eq_true rfl) (st1 := [.int (inF value 1 99)]) rfl dX4_isValue_8 ⟨Nat.zero_le _, Nat.zero_le _⟩ (fun H locs hz => ?_)
    refine lv_goto (tgt := 51) (pc := 11) hx hb dX4_isValue_11 (by decide) ?_
    exact z_top (by first | rfl | (simp only [isValF, if_pos c_1])) (J1 _ _ _ hz (lv_sub hl [0, 1, 2] rfl))
