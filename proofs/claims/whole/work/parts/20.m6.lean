def rm_X4_reason : Room := { frames := 5, cells := 0, slots := 0, locals := 120 }
set_option maxRecDepth 20000 in
theorem hdV_X4_reason : yX4_reason.cls = RX4 ∧ yX4_reason.cls ≠ "java/lang/invoke/MethodHandle" ∧ yX4_reason.cls ≠ "java/lang/invoke/VarHandle" ∧ (parseMethodDescriptor yX4_reason.desc).map (fun d => d.parameters.length) = some 1 := by decide +kernel
set_option maxHeartbeats 4000000 in
set_option maxRecDepth 100000 in
theorem k_X4_reason (l : Launch) (G : va_G) (ca : Nat → ClassId) (a : Nat → Nat) (f h : Nat → Int32) (c : Nat → Nat → Int32) (hi sn be tx ti : Nat → Int32) (cup : Int32) (hok : okP (h, c)) : Zc l G ca yX4_reason (zws yX4_reason cX4_reason 2 (some .int)) rm_X4_reason [.ref (a 0), .int cup] (mm ca a f h c hi sn be tx ti) (some (.int (reasonR (h, c) cup))) (mm ca a f h c hi sn (reasonB (h, c) be cup) tx (reasonT (h, c) ti cup)) := by
  refine Zc.of (cc := cX4_reason) (maxL := 2) (ret := (some .int)) (by decide) rfl (Nat.le_of_ble_eq_true rfl) ?_
  intro pg ev s0 mt below meth cd A args Q ls hx hb hr hml hown hts hlk hQ hl hz
  have L7 : (Cond.fieldLink RX4 7 "CupFountainModel" "s" "[I").before args s0 = true := hts _ (zsub _ wq_4_5)
  have hinX4 : ∀ w ∈ wsX40, w ∈ zws yX4_reason cX4_reason 2 (some .int) := fun w h => zsub w (wl_wsX40 w h)
  have hl : lv_has ls 2 [(0, .ref (a 0)), (1, .int cup)] := hl
  refine lv_iload_n (pc := 0) hx hb dX4_reason_0 rfl (lv_at hl 1 rfl) ?_
  refine z_runS (pc := 1) (As := [.int cup]) (rest := []) (ws1 := mm ca a f h c hi sn be tx ti) ⟨hx, hb, hml, hown, hts⟩ (k_X4_isCup l G ca cup) (cwS 1 hts (zgoodS zsub wq_7_2 wq_7_3 wq_1_5 wq_7_4) rfl rfl rfl hdV_X4_isCup ⟨Nat.le_of_ble_eq_true rfl, Nat.le_of_ble_eq_true rfl⟩) hz (mm ca a f h c hi sn be tx ti) zp_no (List.Perm.refl _) rfl hl.1 (Nat.le_of_ble_eq_true rfl) (st1 := [.int (inF cup 0 7)]) rfl dX4_reason_1 ⟨Nat.zero_le _, Nat.zero_le _⟩ (fun H locs hz => ?_)
  refine lv_if_ne (pc := 4) (tgt := 9) hx hb dX4_reason_4 (by decide) (fun c_4 => ?_) (fun c_4 => ?_)
  · obtain ⟨k, hk, rfl⟩ := isCup_pos c_4
    have hnk : nn (nI k) = k := nn_nI (by omega)
    refine lv_aload_n (pc := 9) hx hb dX4_reason_9 rfl (lv_at hl 0 rfl) ?_
    refine lv_iload_n (pc := 10) hx hb dX4_reason_10 rfl (lv_at hl 1 rfl) ?_
    refine lv_bipush (v := 6) (pc := 11) hx hb dX4_reason_11 (by decide) ?_
    refine z_runV (pc := 13) (As := [.int (nI k), .int 6]) (rest := []) (ws1 := mm ca a f h c hi sn be tx ti) ⟨hx, hb, hml, hown, hts⟩ (k_X4_of l G ca a f h c hi sn be tx ti k 6 (by assumption) (by decide)) (cwV 2 hts (zgoodV zsub wq_7_11 wq_7_12 wq_7_13 wq_1_5 wq_7_14) rfl rfl rfl hdV_X4_of ⟨Nat.le_of_ble_eq_true rfl, Nat.le_of_ble_eq_true rfl⟩) hz [] zp_all zp_all' rfl rfl rfl hl.1 (Nat.le_of_ble_eq_true rfl) (st1 := [.int (c k 6)]) rfl dX4_reason_13 ⟨Nat.zero_le _, Nat.zero_le _⟩ (fun H locs hz => ?_)
    refine lv_iconst (v := 1) (pc := 16) hx hb dX4_reason_16 (by decide) ?_
    refine lv_icmp_ne (pc := 17) (tgt := 41) hx hb dX4_reason_17 (by decide) (fun c_17 => ?_) (fun c_17 => ?_)
    · refine lv_aload_n (pc := 41) hx hb dX4_reason_41 rfl (lv_at hl 0 rfl) ?_
      refine lv_iload_n (pc := 42) hx hb dX4_reason_42 rfl (lv_at hl 1 rfl) ?_
      refine lv_bipush (v := 6) (pc := 43) hx hb dX4_reason_43 (by decide) ?_
      refine z_runV (pc := 45) (As := [.int (nI k), .int 6]) (rest := []) (ws1 := mm ca a f h c hi sn be tx ti) ⟨hx, hb, hml, hown, hts⟩ (k_X4_of l G ca a f h c hi sn be tx ti k 6 (by assumption) (by decide)) (cwV 2 hts (zgoodV zsub wq_7_11 wq_7_12 wq_7_13 wq_1_5 wq_7_14) rfl rfl rfl hdV_X4_of ⟨Nat.le_of_ble_eq_true rfl, Nat.le_of_ble_eq_true rfl⟩) hz [] zp_all zp_all' rfl rfl rfl hl.1 (Nat.le_of_ble_eq_true rfl) (st1 := [.int (c k 6)]) rfl dX4_reason_45 ⟨Nat.zero_le _, Nat.zero_le _⟩ (fun H locs hz => ?_)
      refine lv_if_ne (pc := 48) (tgt := 64) hx hb dX4_reason_48 (by decide) (fun c_48 => ?_) (fun c_48 => ?_)
      · refine lv_aload_n (pc := 64) hx hb dX4_reason_64 rfl (lv_at hl 0 rfl) ?_
        refine lv_iload_n (pc := 65) hx hb dX4_reason_65 rfl (lv_at hl 1 rfl) ?_
        refine lv_iconst (v := 1) (pc := 66) hx hb dX4_reason_66 (by decide) ?_
        refine z_runV (pc := 67) (As := [.int (nI k), .int 1]) (rest := []) (ws1 := mm ca a f h c hi sn (enc h c) tx (tkT (h, c) ti (utN (h, c) k 1 0))) ⟨hx, hb, hml, hown, hts⟩ (k_X4_untilTip l G ca a f h c hi sn be tx ti k 1 hk (by decide) hok) (cwV 2 hts (zgoodV zsub wq_22_17 wq_22_18 wq_22_19 wq_1_5 wq_22_20) rfl rfl rfl hdV_X4_untilTip ⟨Nat.le_of_ble_eq_true rfl, Nat.le_of_ble_eq_true rfl⟩) hz [] zp_all zp_all' rfl rfl rfl hl.1 (Nat.le_of_ble_eq_true rfl) (st1 := [.int (utF (h, c) k 1 0)]) rfl dX4_reason_67 ⟨Nat.zero_le _, Nat.zero_le _⟩ (fun H locs hz => ?_)
        refine lv_iconst (v := 1) (pc := 70) hx hb dX4_reason_70 (by decide) ?_
        refine lv_icmp_ne (pc := 71) (tgt := 78) hx hb dX4_reason_71 (by decide) (fun c_71 => ?_) (fun c_71 => ?_)
        · refine lv_iconst (v := 3) (pc := 78) hx hb dX4_reason_78 (by decide) ?_
          exact z_iret (pc := 79) hx hb hr hlk hQ hz dX4_reason_79 (by simp only [reasonR, rsG, if_neg c_4, if_neg c_17, if_neg c_48, if_neg c_71, hnk]) (by simp only [reasonB, reasonT, rsG, if_neg c_4, if_neg c_17, if_neg c_48, if_neg c_71, hnk])
        · refine lv_iconst (v := 0) (pc := 74) hx hb dX4_reason_74 (by decide) ?_
          refine lv_goto (tgt := 79) (pc := 75) hx hb dX4_reason_75 (by decide) ?_
          exact z_iret (pc := 79) hx hb hr hlk hQ hz dX4_reason_79 (by simp only [reasonR, rsG, if_neg c_4, if_neg c_17, if_neg c_48, if_pos c_71, hnk]) (by simp only [reasonB, reasonT, rsG, if_neg c_4, if_neg c_17, if_neg c_48, if_pos c_71, hnk])
      · refine lv_aload_n (pc := 51) hx hb dX4_reason_51 rfl (lv_at hl 0 rfl) ?_
        refine lv_iload_n (pc := 52) hx hb dX4_reason_52 rfl (lv_at hl 1 rfl) ?_
        refine lv_iconst (v := 5) (pc := 53) hx hb dX4_reason_53 (by decide) ?_
        refine z_runV (pc := 54) (As := [.int (nI k), .int 5]) (rest := []) (ws1 := mm ca a f h c hi sn be tx ti) ⟨hx, hb, hml, hown, hts⟩ (k_X4_of l G ca a f h c hi sn be tx ti k 5 (by assumption) (by decide)) (cwV 2 hts (zgoodV zsub wq_7_11 wq_7_12 wq_7_13 wq_1_5 wq_7_14) rfl rfl rfl hdV_X4_of ⟨Nat.le_of_ble_eq_true rfl, Nat.le_of_ble_eq_true rfl⟩) hz [] zp_all zp_all' rfl rfl rfl hl.1 (Nat.le_of_ble_eq_true rfl) (st1 := [.int (c k 5)]) rfl dX4_reason_54 ⟨Nat.zero_le _, Nat.zero_le _⟩ (fun H locs hz => ?_)
        refine lv_if_ne (pc := 57) (tgt := 64) hx hb dX4_reason_57 (by decide) (fun c_57 => ?_) (fun c_57 => ?_)
        · refine lv_aload_n (pc := 64) hx hb dX4_reason_64 rfl (lv_at hl 0 rfl) ?_
          refine lv_iload_n (pc := 65) hx hb dX4_reason_65 rfl (lv_at hl 1 rfl) ?_
          refine lv_iconst (v := 1) (pc := 66) hx hb dX4_reason_66 (by decide) ?_
          refine z_runV (pc := 67) (As := [.int (nI k), .int 1]) (rest := []) (ws1 := mm ca a f h c hi sn (enc h c) tx (tkT (h, c) ti (utN (h, c) k 1 0))) ⟨hx, hb, hml, hown, hts⟩ (k_X4_untilTip l G ca a f h c hi sn be tx ti k 1 hk (by decide) hok) (cwV 2 hts (zgoodV zsub wq_22_17 wq_22_18 wq_22_19 wq_1_5 wq_22_20) rfl rfl rfl hdV_X4_untilTip ⟨Nat.le_of_ble_eq_true rfl, Nat.le_of_ble_eq_true rfl⟩) hz [] zp_all zp_all' rfl rfl rfl hl.1 (Nat.le_of_ble_eq_true rfl) (st1 := [.int (utF (h, c) k 1 0)]) rfl dX4_reason_67 ⟨Nat.zero_le _, Nat.zero_le _⟩ (fun H locs hz => ?_)
          refine lv_iconst (v := 1) (pc := 70) hx hb dX4_reason_70 (by decide) ?_
          refine lv_icmp_ne (pc := 71) (tgt := 78) hx hb dX4_reason_71 (by decide) (fun c_71 => ?_) (fun c_71 => ?_)
          · refine lv_iconst (v := 3) (pc := 78) hx hb dX4_reason_78 (by decide) ?_
            exact z_iret (pc := 79) hx hb hr hlk hQ hz dX4_reason_79 (by simp only [reasonR, rsG, if_neg c_4, if_neg c_17, if_pos c_48, if_neg c_57, if_neg c_71, hnk]) (by simp only [reasonB, reasonT, rsG, if_neg c_4, if_neg c_17, if_pos c_48, if_neg c_57, if_neg c_71, hnk])
          · refine lv_iconst (v := 0) (pc := 74) hx hb dX4_reason_74 (by decide) ?_
            refine lv_goto (tgt := 79) (pc := 75) hx hb dX4_reason_75 (by decide) ?_
            exact z_iret (pc := 79) hx hb hr hlk hQ hz dX4_reason_79 (by simp only [reasonR, rsG, if_neg c_4, if_neg c_17, if_pos c_48, if_neg c_57, if_pos c_71, hnk]) (by simp only [reasonB, reasonT, rsG, if_neg c_4, if_neg c_17, if_pos c_48, if_neg c_57, if_pos c_71, hnk])
        · refine lv_iconst (v := 2) (pc := 60) hx hb dX4_reason_60 (by decide) ?_
          refine lv_goto (tgt := 79) (pc := 61) hx hb dX4_reason_61 (by decide) ?_
          exact z_iret (pc := 79) hx hb hr hlk hQ hz dX4_reason_79 (by simp only [reasonR, rsG, if_neg c_4, if_neg c_17, if_pos c_48, if_pos c_57, hnk]) (by simp only [reasonB, reasonT, rsG, if_neg c_4, if_neg c_17, if_pos c_48, if_pos c_57, hnk])
    · refine lv_aload_n (pc := 20) hx hb dX4_reason_20 rfl (lv_at hl 0 rfl) ?_
      refine lv_aload_n (pc := 21) hx hb dX4_reason_21 rfl (lv_at hl 0 rfl) ?_
      refine z_get (own := RX4) (ref := "CupFountainModel") (C := RX4) (T := TX4) (N := 17) (ci := 4) (v := .ref (a 1)) (pc := 22) hx hb hts hinX4 hown hz 0 rfl rfl 0 (by decide) L7 rfl rfl dX4_reason_22 ?_
      refine lv_iconst (v := 0) (pc := 25) hx hb dX4_reason_25 (by decide) ?_
      refine z_iald (x := h 0) (pc := 26) hx hb hz 1 rfl 0 rfl (by decide) (by decide) (enc_h (by decide)) dX4_reason_26 ?_
      refine z_runV (pc := 27) (As := [.int (h 0)]) (rest := []) (ws1 := mm ca a f h c hi sn be tx ti) ⟨hx, hb, hml, hown, hts⟩ (k_X4_hourOf l G ca a f h c hi sn be tx ti (h 0) hok.1) (cwV 1 hts (zgoodV zsub wq_14_17 wq_14_18 wq_14_19 wq_1_5 wq_14_20) rfl rfl rfl hdV_X4_hourOf ⟨Nat.le_of_ble_eq_true rfl, Nat.le_of_ble_eq_true rfl⟩) hz [] zp_all zp_all' rfl rfl rfl hl.1 (Nat.le_of_ble_eq_true rfl) (st1 := [.int (hrF h (h 0))]) rfl dX4_reason_27 ⟨Nat.zero_le _, Nat.zero_le _⟩ (fun H locs hz => ?_)
      refine lv_aload_n (pc := 30) hx hb dX4_reason_30 rfl (lv_at hl 0 rfl) ?_
      refine lv_iload_n (pc := 31) hx hb dX4_reason_31 rfl (lv_at hl 1 rfl) ?_
      refine lv_iconst (v := 4) (pc := 32) hx hb dX4_reason_32 (by decide) ?_
      refine z_runV (pc := 33) (As := [.int (nI k), .int 4]) (rest := [.int (hrF h (h 0))]) (ws1 := mm ca a f h c hi sn be tx ti) ⟨hx, hb, hml, hown, hts⟩ (k_X4_of l G ca a f h c hi sn be tx ti k 4 (by assumption) (by decide)) (cwV 2 hts (zgoodV zsub wq_7_11 wq_7_12 wq_7_13 wq_1_5 wq_7_14) rfl rfl rfl hdV_X4_of ⟨Nat.le_of_ble_eq_true rfl, Nat.le_of_ble_eq_true rfl⟩) hz [] zp_all zp_all' rfl rfl rfl hl.1 (Nat.le_of_ble_eq_true rfl) (st1 := [.int (c k 4), .int (hrF h (h 0))]) rfl dX4_reason_33 ⟨Nat.zero_le _, Nat.zero_le _⟩ (fun H locs hz => ?_)
      refine lv_icmp_eq (pc := 36) (tgt := 41) hx hb dX4_reason_36 (by decide) (fun c_36 => ?_) (fun c_36 => ?_)
      · refine lv_aload_n (pc := 41) hx hb dX4_reason_41 rfl (lv_at hl 0 rfl) ?_
        refine lv_iload_n (pc := 42) hx hb dX4_reason_42 rfl (lv_at hl 1 rfl) ?_
        refine lv_bipush (v := 6) (pc := 43) hx hb dX4_reason_43 (by decide) ?_
        refine z_runV (pc := 45) (As := [.int (nI k), .int 6]) (rest := []) (ws1 := mm ca a f h c hi sn be tx ti) ⟨hx, hb, hml, hown, hts⟩ (k_X4_of l G ca a f h c hi sn be tx ti k 6 (by assumption) (by decide)) (cwV 2 hts (zgoodV zsub wq_7_11 wq_7_12 wq_7_13 wq_1_5 wq_7_14) rfl rfl rfl hdV_X4_of ⟨Nat.le_of_ble_eq_true rfl, Nat.le_of_ble_eq_true rfl⟩) hz [] zp_all zp_all' rfl rfl rfl hl.1 (Nat.le_of_ble_eq_true rfl) (st1 := [.int (c k 6)]) rfl dX4_reason_45 ⟨Nat.zero_le _, Nat.zero_le _⟩ (fun H locs hz => ?_)
        refine lv_if_ne (pc := 48) (tgt := 64) hx hb dX4_reason_48 (by decide) (fun c_48 => ?_) (fun c_48 => ?_)
        · refine lv_aload_n (pc := 64) hx hb dX4_reason_64 rfl (lv_at hl 0 rfl) ?_
          refine lv_iload_n (pc := 65) hx hb dX4_reason_65 rfl (lv_at hl 1 rfl) ?_
          refine lv_iconst (v := 1) (pc := 66) hx hb dX4_reason_66 (by decide) ?_
          refine z_runV (pc := 67) (As := [.int (nI k), .int 1]) (rest := []) (ws1 := mm ca a f h c hi sn (enc h c) tx (tkT (h, c) ti (utN (h, c) k 1 0))) ⟨hx, hb, hml, hown, hts⟩ (k_X4_untilTip l G ca a f h c hi sn be tx ti k 1 hk (by decide) hok) (cwV 2 hts (zgoodV zsub wq_22_17 wq_22_18 wq_22_19 wq_1_5 wq_22_20) rfl rfl rfl hdV_X4_untilTip ⟨Nat.le_of_ble_eq_true rfl, Nat.le_of_ble_eq_true rfl⟩) hz [] zp_all zp_all' rfl rfl rfl hl.1 (Nat.le_of_ble_eq_true rfl) (st1 := [.int (utF (h, c) k 1 0)]) rfl dX4_reason_67 ⟨Nat.zero_le _, Nat.zero_le _⟩ (fun H locs hz => ?_)
          refine lv_iconst (v := 1) (pc := 70) hx hb dX4_reason_70 (by decide) ?_
          refine lv_icmp_ne (pc := 71) (tgt := 78) hx hb dX4_reason_71 (by decide) (fun c_71 => ?_) (fun c_71 => ?_)
          · refine lv_iconst (v := 3) (pc := 78) hx hb dX4_reason_78 (by decide) ?_
            exact z_iret (pc := 79) hx hb hr hlk hQ hz dX4_reason_79 (by simp only [reasonR, rsG, if_neg c_4, if_pos c_17, if_pos c_36, if_neg c_48, if_neg c_71, hnk]) (by simp only [reasonB, reasonT, rsG, if_neg c_4, if_pos c_17, if_pos c_36, if_neg c_48, if_neg c_71, hnk])
          · refine lv_iconst (v := 0) (pc := 74) hx hb dX4_reason_74 (by decide) ?_
            refine lv_goto (tgt := 79) (pc := 75) hx hb dX4_reason_75 (by decide) ?_
            exact z_iret (pc := 79) hx hb hr hlk hQ hz dX4_reason_79 (by simp only [reasonR, rsG, if_neg c_4, if_pos c_17, if_pos c_36, if_neg c_48, if_pos c_71, hnk]) (by simp only [reasonB, reasonT, rsG, if_neg c_4, if_pos c_17, if_pos c_36, if_neg c_48, if_pos c_71, hnk])
        · refine lv_aload_n (pc := 51) hx hb dX4_reason_51 rfl (lv_at hl 0 rfl) ?_
          refine lv_iload_n (pc := 52) hx hb dX4_reason_52 rfl (lv_at hl 1 rfl) ?_
          refine lv_iconst (v := 5) (pc := 53) hx hb dX4_reason_53 (by decide) ?_
          refine z_runV (pc := 54) (As := [.int (nI k), .int 5]) (rest := []) (ws1 := mm ca a f h c hi sn be tx ti) ⟨hx, hb, hml, hown, hts⟩ (k_X4_of l G ca a f h c hi sn be tx ti k 5 (by assumption) (by decide)) (cwV 2 hts (zgoodV zsub wq_7_11 wq_7_12 wq_7_13 wq_1_5 wq_7_14) rfl rfl rfl hdV_X4_of ⟨Nat.le_of_ble_eq_true rfl, Nat.le_of_ble_eq_true rfl⟩) hz [] zp_all zp_all' rfl rfl rfl hl.1 (Nat.le_of_ble_eq_true rfl) (st1 := [.int (c k 5)]) rfl dX4_reason_54 ⟨Nat.zero_le _, Nat.zero_le _⟩ (fun H locs hz => ?_)
          refine lv_if_ne (pc := 57) (tgt := 64) hx hb dX4_reason_57 (by decide) (fun c_57 => ?_) (fun c_57 => ?_)
          · refine lv_aload_n (pc := 64) hx hb dX4_reason_64 rfl (lv_at hl 0 rfl) ?_
            refine lv_iload_n (pc := 65) hx hb dX4_reason_65 rfl (lv_at hl 1 rfl) ?_
            refine lv_iconst (v := 1) (pc := 66) hx hb dX4_reason_66 (by decide) ?_
            refine z_runV (pc := 67) (As := [.int (nI k), .int 1]) (rest := []) (ws1 := mm ca a f h c hi sn (enc h c) tx (tkT (h, c) ti (utN (h, c) k 1 0))) ⟨hx, hb, hml, hown, hts⟩ (k_X4_untilTip l G ca a f h c hi sn be tx ti k 1 hk (by decide) hok) (cwV 2 hts (zgoodV zsub wq_22_17 wq_22_18 wq_22_19 wq_1_5 wq_22_20) rfl rfl rfl hdV_X4_untilTip ⟨Nat.le_of_ble_eq_true rfl, Nat.le_of_ble_eq_true rfl⟩) hz [] zp_all zp_all' rfl rfl rfl hl.1 (Nat.le_of_ble_eq_true rfl) (st1 := [.int (utF (h, c) k 1 0)]) rfl dX4_reason_67 ⟨Nat.zero_le _, Nat.zero_le _⟩ (fun H locs hz => ?_)
            refine lv_iconst (v := 1) (pc := 70) hx hb dX4_reason_70 (by decide) ?_
            refine lv_icmp_ne (pc := 71) (tgt := 78) hx hb dX4_reason_71 (by decide) (fun c_71 => ?_) (fun c_71 => ?_)
            · refine lv_iconst (v := 3) (pc := 78) hx hb dX4_reason_78 (by decide) ?_
              exact z_iret (pc := 79) hx hb hr hlk hQ hz dX4_reason_79 (by simp only [reasonR, rsG, if_neg c_4, if_pos c_17, if_pos c_36, if_pos c_48, if_neg c_57, if_neg c_71, hnk]) (by simp only [reasonB, reasonT, rsG, if_neg c_4, if_pos c_17, if_pos c_36, if_pos c_48, if_neg c_57, if_neg c_71, hnk])
            · refine lv_iconst (v := 0) (pc := 74) hx hb dX4_reason_74 (by decide) ?_
              refine lv_goto (tgt := 79) (pc := 75) hx hb dX4_reason_75 (by decide) ?_
              exact z_iret (pc := 79) hx hb hr hlk hQ hz dX4_reason_79 (by simp only [reasonR, rsG, if_neg c_4, if_pos c_17, if_pos c_36, if_pos c_48, if_neg c_57, if_pos c_71, hnk]) (by simp only [reasonB, reasonT, rsG, if_neg c_4, if_pos c_17, if_pos c_36, if_pos c_48, if_neg c_57, if_pos c_71, hnk])
          · refine lv_iconst (v := 2) (pc := 60) hx hb dX4_reason_60 (by decide) ?_
            refine lv_goto (tgt := 79) (pc := 61) hx hb dX4_reason_61 (by decide) ?_
            exact z_iret (pc := 79) hx hb hr hlk hQ hz dX4_reason_79 (by simp only [reasonR, rsG, if_neg c_4, if_pos c_17, if_pos c_36, if_pos c_48, if_pos c_57, hnk]) (by simp only [reasonB, reasonT, rsG, if_neg c_4, if_pos c_17, if_pos c_36, if_pos c_48, if_pos c_57, hnk])
      · refine lv_iconst (v := 1) (pc := 39) hx hb dX4_reason_39 (by decide) ?_
        exact z_iret (pc := 40) hx hb hr hlk hQ hz dX4_reason_40 (by simp only [reasonR, rsG, if_neg c_4, if_pos c_17, if_neg c_36, hnk]) (by simp only [reasonB, reasonT, rsG, if_neg c_4, if_pos c_17, if_neg c_36, hnk])
  · refine lv_iconst (v := -1) (pc := 7) hx hb dX4_reason_7 (by decide) ?_
    exact z_iret (pc := 8) hx hb hr hlk hQ hz dX4_reason_8 (by simp only [reasonR, rsG, if_pos c_4]) (by simp only [reasonB, reasonT, rsG, if_pos c_4])

def rm_X4_bestSize : Room := { frames := 6, cells := 0, slots := 0, locals := 142 }
set_option maxRecDepth 20000 in
theorem hdV_X4_bestSize : yX4_bestSize.cls = RX4 ∧ yX4_bestSize.cls ≠ "java/lang/invoke/MethodHandle" ∧ yX4_bestSize.cls ≠ "java/lang/invoke/VarHandle" ∧ (parseMethodDescriptor yX4_bestSize.desc).map (fun d => d.parameters.length) = some 1 := by decide +kernel
set_option maxHeartbeats 4000000 in
set_option maxRecDepth 100000 in
theorem k_X4_bestSize (l : Launch) (G : va_G) (ca : Nat → ClassId) (a : Nat → Nat) (f h : Nat → Int32) (c : Nat → Nat → Int32) (hi sn be tx ti : Nat → Int32) (cup : Int32) (hok : okP (h, c)) : Zc l G ca yX4_bestSize (zws yX4_bestSize cX4_bestSize 5 (some .int)) rm_X4_bestSize [.ref (a 0), .int cup] (mm ca a f h c hi sn be tx ti) (some (.int (bestF (h, c) cup))) (mm ca a f h c hi sn (bestB (h, c) be cup) tx (bestT (h, c) ti cup)) := by
  refine Zc.of (cc := cX4_bestSize) (maxL := 5) (ret := (some .int)) (by decide) rfl (Nat.le_of_ble_eq_true rfl) ?_
  intro pg ev s0 mt below meth cd A args Q ls hx hb hr hml hown hts hlk hQ hl hz
  have hl : lv_has ls 5 [(0, .ref (a 0)), (1, .int cup)] := hl
  refine lv_iload_n (pc := 0) hx hb dX4_bestSize_0 rfl (lv_at hl 1 rfl) ?_
  refine z_runS (pc := 1) (As := [.int cup]) (rest := []) (ws1 := mm ca a f h c hi sn be tx ti) ⟨hx, hb, hml, hown, hts⟩ (k_X4_isCup l G ca cup) (cwS 1 hts (zgoodS zsub wq_7_2 wq_7_3 wq_1_5 wq_7_4) rfl rfl rfl hdV_X4_isCup ⟨Nat.le_of_ble_eq_true rfl, Nat.le_of_ble_eq_true rfl⟩) hz (mm ca a f h c hi sn be tx ti) zp_no (List.Perm.refl _) rfl hl.1 (Nat.le_of_ble_eq_true rfl) (st1 := [.int (inF cup 0 7)]) rfl dX4_bestSize_1 ⟨Nat.zero_le _, Nat.zero_le _⟩ (fun H locs hz => ?_)
  refine lv_if_ne (pc := 4) (tgt := 9) hx hb dX4_bestSize_4 (by decide) (fun c_4 => ?_) (fun c_4 => ?_)
  · obtain ⟨k, hk, rfl⟩ := isCup_pos c_4
    have hnk : nn (nI k) = k := nn_nI (by omega)
    have hk0 : k < 8 := hk
    refine lv_aload_n (pc := 9) hx hb dX4_bestSize_9 rfl (lv_at hl 0 rfl) ?_
    refine lv_iload_n (pc := 10) hx hb dX4_bestSize_10 rfl (lv_at hl 1 rfl) ?_
    refine lv_iconst (v := 4) (pc := 11) hx hb dX4_bestSize_11 (by decide) ?_
    refine z_runV (pc := 12) (As := [.int (nI k), .int 4]) (rest := []) (ws1 := mm ca a f h c hi sn be tx ti) ⟨hx, hb, hml, hown, hts⟩ (k_X4_of l G ca a f h c hi sn be tx ti k 4 (by assumption) (by decide)) (cwV 2 hts (zgoodV zsub wq_7_11 wq_7_12 wq_7_13 wq_1_5 wq_7_14) rfl rfl rfl hdV_X4_of ⟨Nat.le_of_ble_eq_true rfl, Nat.le_of_ble_eq_true rfl⟩) hz [] zp_all zp_all' rfl rfl rfl hl.1 (Nat.le_of_ble_eq_true rfl) (st1 := [.int (c k 4)]) rfl dX4_bestSize_12 ⟨Nat.zero_le _, Nat.zero_le _⟩ (fun H locs hz => ?_)
    refine lv_iconst (v := -1) (pc := 15) hx hb dX4_bestSize_15 (by decide) ?_
    refine lv_icmp_ne (pc := 16) (tgt := 22) hx hb dX4_bestSize_16 (by decide) (fun c_16 => ?_) (fun c_16 => ?_)
    · refine lv_aload_n (pc := 22) hx hb dX4_bestSize_22 rfl (lv_at hl 0 rfl) ?_
      refine lv_iload_n (pc := 23) hx hb dX4_bestSize_23 rfl (lv_at hl 1 rfl) ?_
      refine lv_iconst (v := 0) (pc := 24) hx hb dX4_bestSize_24 (by decide) ?_
      refine z_runV (pc := 25) (As := [.int (nI k), .int 0]) (rest := []) (ws1 := mm ca a f h c hi sn be tx ti) ⟨hx, hb, hml, hown, hts⟩ (k_X4_of l G ca a f h c hi sn be tx ti k 0 (by assumption) (by decide)) (cwV 2 hts (zgoodV zsub wq_7_11 wq_7_12 wq_7_13 wq_1_5 wq_7_14) rfl rfl rfl hdV_X4_of ⟨Nat.le_of_ble_eq_true rfl, Nat.le_of_ble_eq_true rfl⟩) hz [] zp_all zp_all' rfl rfl rfl hl.1 (Nat.le_of_ble_eq_true rfl) (st1 := [.int (c k 0)]) rfl dX4_bestSize_25 ⟨Nat.zero_le _, Nat.zero_le _⟩ (fun H locs hz => ?_)
      refine lv_istore_n (lv' := [(2, .int (c k 0)), (0, .ref (a 0)), (1, .int (nI k))]) (pc := 28) hx hb dX4_bestSize_28 rfl hl (by decide) rfl (fun ls hl => ?_)
      refine lv_bipush (v := -5) (pc := 29) hx hb dX4_bestSize_29 (by decide) ?_
      refine lv_istore_n (lv' := [(3, .int (-5)), (2, .int (c k 0)), (0, .ref (a 0)), (1, .int (nI k))]) (pc := 31) hx hb dX4_bestSize_31 rfl hl (by decide) rfl (fun ls hl => ?_)
      refine lv_iconst (v := 1) (pc := 32) hx hb dX4_bestSize_32 (by decide) ?_
      refine lv_istore (lv' := [(4, .int 1), (3, .int (-5)), (2, .int (c k 0)), (0, .ref (a 0)), (1, .int (nI k))]) (pc := 33) hx hb dX4_bestSize_33 hl (by decide) rfl (fun ls hl => ?_)
      have loop1 : ∀ cnt i : Nat, i + cnt = 99 → ∀ (H : Heap) (locs : List Loc) (ls : Array Slot), zw G ca A s0.heap s0 (mm ca a f h ((szP (h, c) k i).2) hi sn (bsB (h, c) k be i) tx (bsT (h, c) k ti i)) H locs → lv_has ls 5 [(4, .int (nI (i + 1))), (3, .int (fbF (h, c) k i)), (2, .int (c k 0)), (0, .ref (a 0)), (1, .int (nI k))] → (∀ j, j + 1 < i → ¬ hotF (szP (h, c) k (j + 1)) k = c k 4) → W pg l ev rm_X4_bestSize s0 mt args below meth cd H locs 0 0 Q (F0 mt 35 ls []) := by
        intro cnt
        induction cnt with
        | zero =>
          intro i hk9 H locs ls hz hl hno
          obtain rfl : 99 = i := by omega
          have hk : k < 8 := hk0
          refine lv_iload (pc := 35) hx hb dX4_bestSize_35 (lv_at hl 0 rfl) ?_
          refine lv_bipush (v := 99) (pc := 37) hx hb dX4_bestSize_37 (by decide) ?_
          refine lv_icmp_gt (pc := 39) (tgt := 84) hx hb dX4_bestSize_39 (by decide) (fun c_39 => ?_) (fun c9 => absurd (by decide) c9)
          refine lv_aload_n (pc := 84) hx hb dX4_bestSize_84 rfl (lv_at hl 3 rfl) ?_
          refine lv_iload_n (pc := 85) hx hb dX4_bestSize_85 rfl (lv_at hl 4 rfl) ?_
          refine lv_iconst (v := 0) (pc := 86) hx hb dX4_bestSize_86 (by decide) ?_
          refine lv_iload_n (pc := 87) hx hb dX4_bestSize_87 rfl (lv_at hl 2 rfl) ?_
          refine z_runV (pc := 88) (As := [.int (nI k), .int 0, .int (c k 0)]) (rest := []) (ws1 := mm ca a f h (u2 ((szP (h, c) k 99).2) k 0 (c k 0)) hi sn (bsB (h, c) k be 99) tx (bsT (h, c) k ti 99)) ⟨hx, hb, hml, hown, hts⟩ (k_X4_lay l G ca a f h ((szP (h, c) k 99).2) hi sn (bsB (h, c) k be 99) tx (bsT (h, c) k ti 99) k 0 (c k 0) (by assumption) (by decide)) (cwV 3 hts (zgoodV zsub wq_4_13 wq_4_14 wq_4_15 wq_1_5 wq_4_16) rfl rfl rfl hdV_X4_lay ⟨Nat.le_of_ble_eq_true rfl, Nat.le_of_ble_eq_true rfl⟩) hz [] zp_all zp_all' rfl rfl rfl hl.1 (Nat.le_of_ble_eq_true rfl) (st1 := []) rfl dX4_bestSize_88 ⟨Nat.zero_le _, Nat.zero_le _⟩ (fun H locs hz => ?_)
          have hz := hz.as (show _ = mm ca a f h c hi sn (bsB (h, c) k be 99) tx (bsT (h, c) k ti 99) from by rw [szP_u, u2_same])
          refine lv_iload_n (pc := 91) hx hb dX4_bestSize_91 rfl (lv_at hl 1 rfl) ?_
          exact z_iret (pc := 92) hx hb hr hlk hQ hz dX4_bestSize_92 (by simp only [bestF, if_neg c_4, if_neg c_16, hnk]; rw [(bs_end (i := 99) (M := 99) (by decide) (by omega) hno (Or.inl rfl)).1]) (by simp only [bestB, bestT, if_neg c_4, if_neg c_16, hnk]; rw [(bs_end (i := 99) (M := 99) (by decide) (by omega) hno (Or.inl rfl)).2])
        | succ cnt ih =>
          intro i hk9 H locs ls hz hl hno
          have hk : i < 99 := by omega
          have hi9 : i < 99 := hk
          clear hk
          have hk : k < 8 := hk0
          refine lv_iload (pc := 35) hx hb dX4_bestSize_35 (lv_at hl 0 rfl) ?_
          refine lv_bipush (v := 99) (pc := 37) hx hb dX4_bestSize_37 (by decide) ?_
          refine lv_icmp_gt (pc := 39) (tgt := 84) hx hb dX4_bestSize_39 (by decide) (fun c9 => absurd c9 (nI_nlt (a := 99) (by omega) (by decide))) (fun c_39 => ?_)
          refine lv_iload_n (pc := 42) hx hb dX4_bestSize_42 rfl (lv_at hl 1 rfl) ?_
          refine lv_bipush (v := -5) (pc := 43) hx hb dX4_bestSize_43 (by decide) ?_
          refine lv_icmp_ne (pc := 45) (tgt := 84) hx hb dX4_bestSize_45 (by decide) (fun c_45 => ?_) (fun c_45 => ?_)
          · refine lv_aload_n (pc := 84) hx hb dX4_bestSize_84 rfl (lv_at hl 3 rfl) ?_
            refine lv_iload_n (pc := 85) hx hb dX4_bestSize_85 rfl (lv_at hl 4 rfl) ?_
            refine lv_iconst (v := 0) (pc := 86) hx hb dX4_bestSize_86 (by decide) ?_
            refine lv_iload_n (pc := 87) hx hb dX4_bestSize_87 rfl (lv_at hl 2 rfl) ?_
            refine z_runV (pc := 88) (As := [.int (nI k), .int 0, .int (c k 0)]) (rest := []) (ws1 := mm ca a f h (u2 ((szP (h, c) k i).2) k 0 (c k 0)) hi sn (bsB (h, c) k be i) tx (bsT (h, c) k ti i)) ⟨hx, hb, hml, hown, hts⟩ (k_X4_lay l G ca a f h ((szP (h, c) k i).2) hi sn (bsB (h, c) k be i) tx (bsT (h, c) k ti i) k 0 (c k 0) (by assumption) (by decide)) (cwV 3 hts (zgoodV zsub wq_4_13 wq_4_14 wq_4_15 wq_1_5 wq_4_16) rfl rfl rfl hdV_X4_lay ⟨Nat.le_of_ble_eq_true rfl, Nat.le_of_ble_eq_true rfl⟩) hz [] zp_all zp_all' rfl rfl rfl hl.1 (Nat.le_of_ble_eq_true rfl) (st1 := []) rfl dX4_bestSize_88 ⟨Nat.zero_le _, Nat.zero_le _⟩ (fun H locs hz => ?_)
            have hz := hz.as (show _ = mm ca a f h c hi sn (bsB (h, c) k be i) tx (bsT (h, c) k ti i) from by rw [szP_u, u2_same])
            refine lv_iload_n (pc := 91) hx hb dX4_bestSize_91 rfl (lv_at hl 1 rfl) ?_
            exact z_iret (pc := 92) hx hb hr hlk hQ hz dX4_bestSize_92 (by simp only [bestF, if_neg c_4, if_neg c_16, hnk]; rw [(bs_end (i := i) (M := 99) (by decide) (by omega) hno (Or.inr c_45)).1]) (by simp only [bestB, bestT, if_neg c_4, if_neg c_16, hnk]; rw [(bs_end (i := i) (M := 99) (by decide) (by omega) hno (Or.inr c_45)).2])
          · refine lv_aload_n (pc := 48) hx hb dX4_bestSize_48 rfl (lv_at hl 3 rfl) ?_
            refine lv_iload_n (pc := 49) hx hb dX4_bestSize_49 rfl (lv_at hl 4 rfl) ?_
            refine lv_iconst (v := 0) (pc := 50) hx hb dX4_bestSize_50 (by decide) ?_
            refine lv_iload (pc := 51) hx hb dX4_bestSize_51 (lv_at hl 0 rfl) ?_
            refine z_runV (pc := 53) (As := [.int (nI k), .int 0, .int (nI (i + 1))]) (rest := []) (ws1 := mm ca a f h (u2 ((szP (h, c) k i).2) k 0 (nI (i + 1))) hi sn (bsB (h, c) k be i) tx (bsT (h, c) k ti i)) ⟨hx, hb, hml, hown, hts⟩ (k_X4_lay l G ca a f h ((szP (h, c) k i).2) hi sn (bsB (h, c) k be i) tx (bsT (h, c) k ti i) k 0 (nI (i + 1)) (by assumption) (by decide)) (cwV 3 hts (zgoodV zsub wq_4_13 wq_4_14 wq_4_15 wq_1_5 wq_4_16) rfl rfl rfl hdV_X4_lay ⟨Nat.le_of_ble_eq_true rfl, Nat.le_of_ble_eq_true rfl⟩) hz [] zp_all zp_all' rfl rfl rfl hl.1 (Nat.le_of_ble_eq_true rfl) (st1 := []) rfl dX4_bestSize_53 ⟨Nat.zero_le _, Nat.zero_le _⟩ (fun H locs hz => ?_)
            have hz := hz.as (show _ = mm ca a f h ((szP (h, c) k (i + 1)).2) hi sn (bsB (h, c) k be i) tx (bsT (h, c) k ti i) from by rw [szP_u]; rfl)
            refine lv_aload_n (pc := 56) hx hb dX4_bestSize_56 rfl (lv_at hl 3 rfl) ?_
            refine lv_iload_n (pc := 57) hx hb dX4_bestSize_57 rfl (lv_at hl 4 rfl) ?_
            refine z_runV (pc := 58) (As := [.int (nI k)]) (rest := []) (ws1 := mm ca a f h ((szP (h, c) k (i + 1)).2) hi sn (enc h ((szP (h, c) k (i + 1)).2)) tx (tkT (szP (h, c) k (i + 1)) (bsT (h, c) k ti i) (utN (szP (h, c) k (i + 1)) k 500 0))) ⟨hx, hb, hml, hown, hts⟩ (k_X4_hourOfTip l G ca a f h ((szP (h, c) k (i + 1)).2) hi sn (bsB (h, c) k be i) tx (bsT (h, c) k ti i) k hk (hok.size k (i + 1) (by omega))) (cwV 1 hts (zgoodV zsub wq_23_21 wq_23_22 wq_23_23 wq_1_5 wq_24_0) rfl rfl rfl hdV_X4_hourOfTip ⟨Nat.le_of_ble_eq_true rfl, Nat.le_of_ble_eq_true rfl⟩) hz [] zp_all zp_all' rfl rfl rfl hl.1 (Nat.le_of_ble_eq_true rfl) (st1 := [.int (hotF (szP (h, c) k (i + 1)) k)]) rfl dX4_bestSize_58 ⟨Nat.zero_le _, Nat.zero_le _⟩ (fun H locs hz => ?_)
            refine lv_aload_n (pc := 61) hx hb dX4_bestSize_61 rfl (lv_at hl 3 rfl) ?_
            refine lv_iload_n (pc := 62) hx hb dX4_bestSize_62 rfl (lv_at hl 4 rfl) ?_
            refine lv_iconst (v := 4) (pc := 63) hx hb dX4_bestSize_63 (by decide) ?_
            refine z_runV (pc := 64) (As := [.int (nI k), .int 4]) (rest := [.int (hotF (szP (h, c) k (i + 1)) k)]) (ws1 := mm ca a f h ((szP (h, c) k (i + 1)).2) hi sn (enc h ((szP (h, c) k (i + 1)).2)) tx (tkT (szP (h, c) k (i + 1)) (bsT (h, c) k ti i) (utN (szP (h, c) k (i + 1)) k 500 0))) ⟨hx, hb, hml, hown, hts⟩ (k_X4_of l G ca a f h ((szP (h, c) k (i + 1)).2) hi sn (enc h ((szP (h, c) k (i + 1)).2)) tx (tkT (szP (h, c) k (i + 1)) (bsT (h, c) k ti i) (utN (szP (h, c) k (i + 1)) k 500 0)) k 4 (by assumption) (by decide)) (cwV 2 hts (zgoodV zsub wq_7_11 wq_7_12 wq_7_13 wq_1_5 wq_7_14) rfl rfl rfl hdV_X4_of ⟨Nat.le_of_ble_eq_true rfl, Nat.le_of_ble_eq_true rfl⟩) hz [] zp_all zp_all' rfl rfl rfl hl.1 (Nat.le_of_ble_eq_true rfl) (st1 := [.int (((szP (h, c) k (i + 1)).2) k 4), .int (hotF (szP (h, c) k (i + 1)) k)]) rfl dX4_bestSize_64 ⟨Nat.zero_le _, Nat.zero_le _⟩ (fun H locs hz => ?_)
            have J2 : ∀ (H : Heap) (locs : List Loc) (ls : Array Slot), zw G ca A s0.heap s0 (mm ca a f h ((szP (h, c) k (i + 1)).2) hi sn (enc h ((szP (h, c) k (i + 1)).2)) tx (tkT (szP (h, c) k (i + 1)) (bsT (h, c) k ti i) (utN (szP (h, c) k (i + 1)) k 500 0))) H locs → lv_has ls 5 [(4, .int (nI (i + 1))), (3, .int (fbF (h, c) k i)), (2, .int (c k 0)), (0, .ref (a 0)), (1, .int (nI k))] → W pg l ev rm_X4_bestSize s0 mt args below meth cd H locs 0 0 Q (F0 mt 77 ls [.int (fbF (h, c) k (i + 1))]) := by
              intro H locs ls hz hl
              refine lv_istore_n (lv' := [(3, .int (fbF (h, c) k (i + 1))), (4, .int (nI (i + 1))), (2, .int (c k 0)), (0, .ref (a 0)), (1, .int (nI k))]) (pc := 77) hx hb dX4_bestSize_77 rfl hl (by decide) rfl (fun ls hl => ?_)
              refine lv_iinc (v := nI (i + 1 + 1)) (lv' := [(4, .int (nI (i + 1 + 1))), (3, .int (fbF (h, c) k (i + 1))), (2, .int (c k 0)), (0, .ref (a 0)), (1, .int (nI k))]) (pc := 78) hx hb dX4_bestSize_78 hl (k := 1) rfl (nI_add (i + 1) 1) (by decide) rfl (fun ls hl => ?_)
              refine lv_goto (tgt := 35) (pc := 81) hx hb dX4_bestSize_81 (by decide) ?_
              exact ih (i + 1) (by omega) _ _ _ (hz.as (by rfl)) (lv_sub hl [0, 1, 2, 3, 4] rfl) (bs_next (p := (h, c)) (by omega) hno c_45)
            refine z_top (y := c k 4) (szP_4 _ _ _ _ _ (by decide)) ?_
            refine lv_icmp_ne (pc := 67) (tgt := 75) hx hb dX4_bestSize_67 (by decide) (fun c_67 => ?_) (fun c_67 => ?_)
            · refine lv_bipush (v := -5) (pc := 75) hx hb dX4_bestSize_75 (by decide) ?_
              exact z_top (by rw [fbF]; show _ = (if hotF (szP (h, c) k (i + 1)) k = c k 4 then nI (i + 1) else -5); simp only [if_neg c_67]) (J2 _ _ _ hz (lv_sub hl [0, 1, 2, 3, 4] rfl))
            · refine lv_iload (pc := 70) hx hb dX4_bestSize_70 (lv_at hl 0 rfl) ?_
              refine lv_goto (tgt := 77) (pc := 72) hx hb dX4_bestSize_72 (by decide) ?_
              exact z_top (by rw [fbF]; show _ = (if hotF (szP (h, c) k (i + 1)) k = c k 4 then nI (i + 1) else -5); simp only [if_pos c_67]) (J2 _ _ _ hz (lv_sub hl [0, 1, 2, 3, 4] rfl))
      exact loop1 99 0 (by omega) _ _ _ (hz.as (by rfl)) (lv_sub hl [0, 1, 2, 3, 4] rfl) (fun j hj => absurd hj (by omega))
    · refine lv_bipush (v := -4) (pc := 19) hx hb dX4_bestSize_19 (by decide) ?_
      exact z_iret (pc := 21) hx hb hr hlk hQ hz dX4_bestSize_21 (by simp only [bestF, if_neg c_4, if_pos c_16, hnk]) (by simp only [bestB, bestT, if_neg c_4, if_pos c_16, hnk])
  · refine lv_iconst (v := -1) (pc := 7) hx hb dX4_bestSize_7 (by decide) ?_
    exact z_iret (pc := 8) hx hb hr hlk hQ hz dX4_bestSize_8 (by simp only [bestF, if_pos c_4]) (by simp only [bestB, bestT, if_pos c_4])

def rm_X4_count : Room := { frames := 3, cells := 0, slots := 0, locals := 65 }
set_option maxRecDepth 20000 in
theorem hdV_X4_count : yX4_count.cls = RX4 ∧ yX4_count.cls ≠ "java/lang/invoke/MethodHandle" ∧ yX4_count.cls ≠ "java/lang/invoke/VarHandle" ∧ (parseMethodDescriptor yX4_count.desc).map (fun d => d.parameters.length) = some 1 := by decide +kernel
set_option maxHeartbeats 4000000 in
set_option maxRecDepth 100000 in
theorem k_X4_count (l : Launch) (G : va_G) (ca : Nat → ClassId) (a : Nat → Nat) (f h : Nat → Int32) (c : Nat → Nat → Int32) (hi sn be tx ti : Nat → Int32) (kp ln : Nat) (x : Int32) (hf2 : f 2 = nI kp) (hf7 : f 7 = nI ln) (hok : okP (h, c)) : Zc l G ca yX4_count (zws yX4_count cX4_count 2 (some .int)) rm_X4_count [.ref (a 0), .int x] (mm ca a f h c hi sn be tx ti) (some (.int (countR (h, c) kp ln x))) (mm ca a f h c hi sn be tx ti) := by
  refine Zc.of (cc := cX4_count) (maxL := 2) (ret := (some .int)) (by decide) rfl (Nat.le_of_ble_eq_true rfl) ?_
  intro pg ev s0 mt below meth cd A args Q ls hx hb hr hml hown hts hlk hQ hl hz
  have L116 : (Cond.fieldLink RX4 116 "CupFountainModel" "length" "I").before args s0 = true := hts _ (zsub _ wq_16_1)
  have L42 : (Cond.fieldLink RX4 42 "CupFountainModel" "kept" "I").before args s0 = true := hts _ (zsub _ wq_7_23)
  have L7 : (Cond.fieldLink RX4 7 "CupFountainModel" "s" "[I").before args s0 = true := hts _ (zsub _ wq_4_5)
  have hinX4 : ∀ w ∈ wsX40, w ∈ zws yX4_count cX4_count 2 (some .int) := fun w h => zsub w (wl_wsX40 w h)
  have hl : lv_has ls 2 [(0, .ref (a 0)), (1, .int x)] := hl
  refine lv_iload_n (pc := 0) hx hb dX4_count_0 rfl (lv_at hl 1 rfl) ?_
  rcases sw15 x with hs | rfl | rfl | rfl | rfl | rfl | rfl | rfl | rfl | rfl | rfl | rfl | rfl | rfl | rfl | rfl
  · refine lv_tableOut (tgt := 169) (pc := 1) hx hb dX4_count_1 (inF_out hs) (by decide) ?_
    refine lv_bipush (v := -2) (pc := 169) hx hb dX4_count_169 (by decide) ?_
    exact z_iret (pc := 171) hx hb hr hlk hQ hz dX4_count_171 (by simp only [countR, if_pos hs]) (by rfl)
  · refine lv_tableIn (off := 75) (tgt := 76) (pc := 1) hx hb dX4_count_1 (by decide) (by decide) (by decide) (by decide) ?_
    refine lv_aload_n (pc := 76) hx hb dX4_count_76 rfl (lv_at hl 0 rfl) ?_
    refine z_get (own := RX4) (ref := "CupFountainModel") (C := RX4) (T := TX4) (N := 17) (ci := 4) (v := .ref (a 1)) (pc := 77) hx hb hts hinX4 hown hz 0 rfl rfl 0 (by decide) L7 rfl rfl dX4_count_77 ?_
    refine lv_iconst (v := 0) (pc := 80) hx hb dX4_count_80 (by decide) ?_
    refine z_iald (x := h 0) (pc := 81) hx hb hz 1 rfl 0 rfl (by decide) (by decide) (enc_h (by decide)) dX4_count_81 ?_
    exact z_iret (pc := 82) hx hb hr hlk hQ hz dX4_count_82 (by rfl) (by rfl)
  · refine lv_tableIn (off := 82) (tgt := 83) (pc := 1) hx hb dX4_count_1 (by decide) (by decide) (by decide) (by decide) ?_
    refine lv_aload_n (pc := 83) hx hb dX4_count_83 rfl (lv_at hl 0 rfl) ?_
    refine lv_aload_n (pc := 84) hx hb dX4_count_84 rfl (lv_at hl 0 rfl) ?_
    refine z_get (own := RX4) (ref := "CupFountainModel") (C := RX4) (T := TX4) (N := 17) (ci := 4) (v := .ref (a 1)) (pc := 85) hx hb hts hinX4 hown hz 0 rfl rfl 0 (by decide) L7 rfl rfl dX4_count_85 ?_
    refine lv_iconst (v := 0) (pc := 88) hx hb dX4_count_88 (by decide) ?_
    refine z_iald (x := h 0) (pc := 89) hx hb hz 1 rfl 0 rfl (by decide) (by decide) (enc_h (by decide)) dX4_count_89 ?_
    refine z_runV (pc := 90) (As := [.int (h 0)]) (rest := []) (ws1 := mm ca a f h c hi sn be tx ti) ⟨hx, hb, hml, hown, hts⟩ (k_X4_hourOf l G ca a f h c hi sn be tx ti (h 0) hok.1) (cwV 1 hts (zgoodV zsub wq_14_17 wq_14_18 wq_14_19 wq_1_5 wq_14_20) rfl rfl rfl hdV_X4_hourOf ⟨Nat.le_of_ble_eq_true rfl, Nat.le_of_ble_eq_true rfl⟩) hz [] zp_all zp_all' rfl rfl rfl hl.1 (Nat.le_of_ble_eq_true rfl) (st1 := [.int (hrF h (h 0))]) rfl dX4_count_90 ⟨Nat.zero_le _, Nat.zero_le _⟩ (fun H locs hz => ?_)
    exact z_iret (pc := 93) hx hb hr hlk hQ hz dX4_count_93 (by rfl) (by rfl)
  · refine lv_tableIn (off := 93) (tgt := 94) (pc := 1) hx hb dX4_count_1 (by decide) (by decide) (by decide) (by decide) ?_
    refine lv_aload_n (pc := 94) hx hb dX4_count_94 rfl (lv_at hl 0 rfl) ?_
    refine lv_iconst (v := 3) (pc := 95) hx hb dX4_count_95 (by decide) ?_
    refine z_runV (pc := 96) (As := [.int 3]) (rest := []) (ws1 := mm ca a f h c hi sn be tx ti) ⟨hx, hb, hml, hown, hts⟩ (k_X4_sumOf l G ca a f h c hi sn be tx ti 3 (by decide)) (cwV 1 hts (zgoodV zsub wq_14_9 wq_14_10 wq_14_11 wq_1_5 wq_14_12) rfl rfl rfl hdV_X4_sumOf ⟨Nat.le_of_ble_eq_true rfl, Nat.le_of_ble_eq_true rfl⟩) hz [] zp_all zp_all' rfl rfl rfl hl.1 (Nat.le_of_ble_eq_true rfl) (st1 := [.int (sumF c 3 8)]) rfl dX4_count_96 ⟨Nat.zero_le _, Nat.zero_le _⟩ (fun H locs hz => ?_)
    exact z_iret (pc := 99) hx hb hr hlk hQ hz dX4_count_99 (by rfl) (by rfl)
  · refine lv_tableIn (off := 99) (tgt := 100) (pc := 1) hx hb dX4_count_1 (by decide) (by decide) (by decide) (by decide) ?_
    refine lv_aload_n (pc := 100) hx hb dX4_count_100 rfl (lv_at hl 0 rfl) ?_
    refine z_get (own := RX4) (ref := "CupFountainModel") (C := RX4) (T := TX4) (N := 17) (ci := 4) (v := .ref (a 1)) (pc := 101) hx hb hts hinX4 hown hz 0 rfl rfl 0 (by decide) L7 rfl rfl dX4_count_101 ?_
    refine lv_iconst (v := 1) (pc := 104) hx hb dX4_count_104 (by decide) ?_
    refine z_iald (x := h 1) (pc := 105) hx hb hz 1 rfl 1 rfl (by decide) (by decide) (enc_h (by decide)) dX4_count_105 ?_
    exact z_iret (pc := 106) hx hb hr hlk hQ hz dX4_count_106 (by rfl) (by rfl)
  · refine lv_tableIn (off := 106) (tgt := 107) (pc := 1) hx hb dX4_count_1 (by decide) (by decide) (by decide) (by decide) ?_
    refine lv_aload_n (pc := 107) hx hb dX4_count_107 rfl (lv_at hl 0 rfl) ?_
    refine z_get (own := RX4) (ref := "CupFountainModel") (C := RX4) (T := TX4) (N := 17) (ci := 4) (v := .ref (a 1)) (pc := 108) hx hb hts hinX4 hown hz 0 rfl rfl 0 (by decide) L7 rfl rfl dX4_count_108 ?_
    refine lv_iconst (v := 2) (pc := 111) hx hb dX4_count_111 (by decide) ?_
    refine z_iald (x := h 2) (pc := 112) hx hb hz 1 rfl 2 rfl (by decide) (by decide) (enc_h (by decide)) dX4_count_112 ?_
    exact z_iret (pc := 113) hx hb hr hlk hQ hz dX4_count_113 (by rfl) (by rfl)
  · refine lv_tableIn (off := 113) (tgt := 114) (pc := 1) hx hb dX4_count_1 (by decide) (by decide) (by decide) (by decide) ?_
    refine lv_aload_n (pc := 114) hx hb dX4_count_114 rfl (lv_at hl 0 rfl) ?_
    refine z_get (own := RX4) (ref := "CupFountainModel") (C := RX4) (T := TX4) (N := 17) (ci := 4) (v := .ref (a 1)) (pc := 115) hx hb hts hinX4 hown hz 0 rfl rfl 0 (by decide) L7 rfl rfl dX4_count_115 ?_
    refine lv_iconst (v := 3) (pc := 118) hx hb dX4_count_118 (by decide) ?_
    refine z_iald (x := h 3) (pc := 119) hx hb hz 1 rfl 3 rfl (by decide) (by decide) (enc_h (by decide)) dX4_count_119 ?_
    exact z_iret (pc := 120) hx hb hr hlk hQ hz dX4_count_120 (by rfl) (by rfl)
  · refine lv_tableIn (off := 120) (tgt := 121) (pc := 1) hx hb dX4_count_1 (by decide) (by decide) (by decide) (by decide) ?_
    refine lv_aload_n (pc := 121) hx hb dX4_count_121 rfl (lv_at hl 0 rfl) ?_
    refine z_get (own := RX4) (ref := "CupFountainModel") (C := RX4) (T := TX4) (N := 17) (ci := 4) (v := .ref (a 1)) (pc := 122) hx hb hts hinX4 hown hz 0 rfl rfl 0 (by decide) L7 rfl rfl dX4_count_122 ?_
    refine lv_iconst (v := 4) (pc := 125) hx hb dX4_count_125 (by decide) ?_
    refine z_iald (x := h 4) (pc := 126) hx hb hz 1 rfl 4 rfl (by decide) (by decide) (enc_h (by decide)) dX4_count_126 ?_
    exact z_iret (pc := 127) hx hb hr hlk hQ hz dX4_count_127 (by rfl) (by rfl)
  · refine lv_tableIn (off := 127) (tgt := 128) (pc := 1) hx hb dX4_count_1 (by decide) (by decide) (by decide) (by decide) ?_
    refine lv_aload_n (pc := 128) hx hb dX4_count_128 rfl (lv_at hl 0 rfl) ?_
    refine lv_bipush (v := 8) (pc := 129) hx hb dX4_count_129 (by decide) ?_
    refine z_runV (pc := 131) (As := [.int 8]) (rest := []) (ws1 := mm ca a f h c hi sn be tx ti) ⟨hx, hb, hml, hown, hts⟩ (k_X4_sumOf l G ca a f h c hi sn be tx ti 8 (by decide)) (cwV 1 hts (zgoodV zsub wq_14_9 wq_14_10 wq_14_11 wq_1_5 wq_14_12) rfl rfl rfl hdV_X4_sumOf ⟨Nat.le_of_ble_eq_true rfl, Nat.le_of_ble_eq_true rfl⟩) hz [] zp_all zp_all' rfl rfl rfl hl.1 (Nat.le_of_ble_eq_true rfl) (st1 := [.int (sumF c 8 8)]) rfl dX4_count_131 ⟨Nat.zero_le _, Nat.zero_le _⟩ (fun H locs hz => ?_)
    exact z_iret (pc := 134) hx hb hr hlk hQ hz dX4_count_134 (by rfl) (by rfl)
  · refine lv_tableIn (off := 134) (tgt := 135) (pc := 1) hx hb dX4_count_1 (by decide) (by decide) (by decide) (by decide) ?_
    refine lv_aload_n (pc := 135) hx hb dX4_count_135 rfl (lv_at hl 0 rfl) ?_
    refine lv_bipush (v := 9) (pc := 136) hx hb dX4_count_136 (by decide) ?_
    refine z_runV (pc := 138) (As := [.int 9]) (rest := []) (ws1 := mm ca a f h c hi sn be tx ti) ⟨hx, hb, hml, hown, hts⟩ (k_X4_sumOf l G ca a f h c hi sn be tx ti 9 (by decide)) (cwV 1 hts (zgoodV zsub wq_14_9 wq_14_10 wq_14_11 wq_1_5 wq_14_12) rfl rfl rfl hdV_X4_sumOf ⟨Nat.le_of_ble_eq_true rfl, Nat.le_of_ble_eq_true rfl⟩) hz [] zp_all zp_all' rfl rfl rfl hl.1 (Nat.le_of_ble_eq_true rfl) (st1 := [.int (sumF c 9 8)]) rfl dX4_count_138 ⟨Nat.zero_le _, Nat.zero_le _⟩ (fun H locs hz => ?_)
    exact z_iret (pc := 141) hx hb hr hlk hQ hz dX4_count_141 (by rfl) (by rfl)
  · refine lv_tableIn (off := 141) (tgt := 142) (pc := 1) hx hb dX4_count_1 (by decide) (by decide) (by decide) (by decide) ?_
    refine lv_aload_n (pc := 142) hx hb dX4_count_142 rfl (lv_at hl 0 rfl) ?_
    refine z_runV (pc := 143) (As := []) (rest := []) (ws1 := mm ca a f h c hi sn be tx ti) ⟨hx, hb, hml, hown, hts⟩ (k_X4_full l G ca a f h c hi sn be tx ti) (cwV 0 hts (zgoodV zsub wq_26_19 wq_26_20 wq_26_21 wq_1_5 wq_26_22) rfl rfl rfl hdV_X4_full ⟨Nat.le_of_ble_eq_true rfl, Nat.le_of_ble_eq_true rfl⟩) hz [] zp_all zp_all' rfl rfl rfl hl.1 (Nat.le_of_ble_eq_true rfl) (st1 := [.int (fuF c 8)]) rfl dX4_count_143 ⟨Nat.zero_le _, Nat.zero_le _⟩ (fun H locs hz => ?_)
    exact z_iret (pc := 146) hx hb hr hlk hQ hz dX4_count_146 (by rfl) (by rfl)
  · refine lv_tableIn (off := 146) (tgt := 147) (pc := 1) hx hb dX4_count_1 (by decide) (by decide) (by decide) (by decide) ?_
    refine lv_aload_n (pc := 147) hx hb dX4_count_147 rfl (lv_at hl 0 rfl) ?_
    refine z_get (own := RX4) (ref := "CupFountainModel") (C := RX4) (T := TX4) (N := 17) (ci := 4) (v := .ref (a 1)) (pc := 148) hx hb hts hinX4 hown hz 0 rfl rfl 0 (by decide) L7 rfl rfl dX4_count_148 ?_
    refine lv_iconst (v := 5) (pc := 151) hx hb dX4_count_151 (by decide) ?_
    refine lv_iload_n (pc := 152) hx hb dX4_count_152 rfl (lv_at hl 1 rfl) ?_
    refine lv_iadd (pc := 153) hx hb dX4_count_153 ?_
    refine lv_bipush (v := 10) (pc := 154) hx hb dX4_count_154 (by decide) ?_
    refine lv_isub (pc := 156) hx hb dX4_count_156 ?_
    refine z_iald (x := h 5) (pc := 157) hx hb hz 1 rfl 5 (by decide) (by decide) (by decide) (enc_h (by decide)) dX4_count_157 ?_
    exact z_iret (pc := 158) hx hb hr hlk hQ hz dX4_count_158 (by rfl) (by rfl)
  · refine lv_tableIn (off := 146) (tgt := 147) (pc := 1) hx hb dX4_count_1 (by decide) (by decide) (by decide) (by decide) ?_
    refine lv_aload_n (pc := 147) hx hb dX4_count_147 rfl (lv_at hl 0 rfl) ?_
    refine z_get (own := RX4) (ref := "CupFountainModel") (C := RX4) (T := TX4) (N := 17) (ci := 4) (v := .ref (a 1)) (pc := 148) hx hb hts hinX4 hown hz 0 rfl rfl 0 (by decide) L7 rfl rfl dX4_count_148 ?_
    refine lv_iconst (v := 5) (pc := 151) hx hb dX4_count_151 (by decide) ?_
    refine lv_iload_n (pc := 152) hx hb dX4_count_152 rfl (lv_at hl 1 rfl) ?_
    refine lv_iadd (pc := 153) hx hb dX4_count_153 ?_
    refine lv_bipush (v := 10) (pc := 154) hx hb dX4_count_154 (by decide) ?_
    refine lv_isub (pc := 156) hx hb dX4_count_156 ?_
    refine z_iald (x := h 6) (pc := 157) hx hb hz 1 rfl 6 (by decide) (by decide) (by decide) (enc_h (by decide)) dX4_count_157 ?_
    exact z_iret (pc := 158) hx hb hr hlk hQ hz dX4_count_158 (by rfl) (by rfl)
  · refine lv_tableIn (off := 146) (tgt := 147) (pc := 1) hx hb dX4_count_1 (by decide) (by decide) (by decide) (by decide) ?_
    refine lv_aload_n (pc := 147) hx hb dX4_count_147 rfl (lv_at hl 0 rfl) ?_
    refine z_get (own := RX4) (ref := "CupFountainModel") (C := RX4) (T := TX4) (N := 17) (ci := 4) (v := .ref (a 1)) (pc := 148) hx hb hts hinX4 hown hz 0 rfl rfl 0 (by decide) L7 rfl rfl dX4_count_148 ?_
    refine lv_iconst (v := 5) (pc := 151) hx hb dX4_count_151 (by decide) ?_
    refine lv_iload_n (pc := 152) hx hb dX4_count_152 rfl (lv_at hl 1 rfl) ?_
    refine lv_iadd (pc := 153) hx hb dX4_count_153 ?_
    refine lv_bipush (v := 10) (pc := 154) hx hb dX4_count_154 (by decide) ?_
    refine lv_isub (pc := 156) hx hb dX4_count_156 ?_
    refine z_iald (x := h 7) (pc := 157) hx hb hz 1 rfl 7 (by decide) (by decide) (by decide) (enc_h (by decide)) dX4_count_157 ?_
    exact z_iret (pc := 158) hx hb hr hlk hQ hz dX4_count_158 (by rfl) (by rfl)
  · refine lv_tableIn (off := 158) (tgt := 159) (pc := 1) hx hb dX4_count_1 (by decide) (by decide) (by decide) (by decide) ?_
    refine lv_aload_n (pc := 159) hx hb dX4_count_159 rfl (lv_at hl 0 rfl) ?_
    refine z_get (own := RX4) (ref := "CupFountainModel") (C := RX4) (T := TX4) (N := 17) (ci := 4) (v := .int (f 2)) (pc := 160) hx hb hts hinX4 hown hz 0 rfl rfl 2 (by decide) L42 rfl rfl dX4_count_160 ?_
    refine z_top (y := nI kp) hf2 ?_
    exact z_iret (pc := 163) hx hb hr hlk hQ hz dX4_count_163 (by rfl) (by rfl)
  · refine lv_tableIn (off := 163) (tgt := 164) (pc := 1) hx hb dX4_count_1 (by decide) (by decide) (by decide) (by decide) ?_
    refine lv_aload_n (pc := 164) hx hb dX4_count_164 rfl (lv_at hl 0 rfl) ?_
    refine z_get (own := RX4) (ref := "CupFountainModel") (C := RX4) (T := TX4) (N := 17) (ci := 4) (v := .int (f 7)) (pc := 165) hx hb hts hinX4 hown hz 0 rfl rfl 7 (by decide) L116 rfl rfl dX4_count_165 ?_
    refine z_top (y := nI ln) hf7 ?_
    exact z_iret (pc := 168) hx hb hr hlk hQ hz dX4_count_168 (by rfl) (by rfl)
